/-- what writing wants of both -/
def WH (τ0 μ0 : S5) (k : Nat) : Prop := (k ≤ 30 ∧ gI μ0 13 = nI k) ∧ (∀ i, i < k → xB τ0 1 (nI i) = xB μ0 2 (nI i)) ∧ (∀ i j, i < j → j < k → ¬ xB τ0 1 (nI i) = xB τ0 1 (nI j)) ∧ gI τ0 7 = tp (xB τ0 1) 1835100526 k 0 ∧ Ct τ0 μ0 ∧ ∀ i, okN (gB τ0 0 i)
theorem RMp.mo {μ0 : S5} {h h' p m : Nat} {L : List Int32} (q : RMp μ0 h p m L) (hh : h ≤ h') : RMp μ0 h' p m L := fun μ ν a b v x y c d e => q μ ν a b v x y (by omega) d e
theorem wt_leaf {τ0 μ0 : S5} {k F : Nat} (H : WH τ0 μ0 k) (hF : F ≤ 630) {c : Int32} {q p : Nat} {Sc : Nat → Prop} {lo hi : Nat} (hp : p < 7000) (hc : 0 ≤ c ∧ c < 6200) (h : XLeaf τ0 μ0 F c q p Sc lo hi) : ∃ L, okL L ∧ (∀ E, Wc τ0 (f_X7_writePart E c) L) ∧ Wm μ0 (f_X12_atom_ (nI p)) L := by
  obtain ⟨⟨k30, k13⟩, knm, kdf, k7, hct, hN⟩ := H
  obtain ⟨e1, e2, e3, e4, e5⟩ := h
  obtain ⟨hc0, hc1⟩ := hc
  rcases e5 with ⟨a1, a2, a3, a4⟩ | ⟨a1, a2, a3, a4, a5, a6⟩ | ⟨a1, a2, f, a3, a4, a5⟩ | ⟨a1, a2, x, a3, a4, a5, a6⟩ | ⟨a1, a2⟩
  · obtain ⟨L, b1, b2, b3⟩ := tx_nm (tn31 (xA τ0 14 c))
    rw [← nI_tn a4] at b2 b3
    refine ⟨L, b1, fun E σ τ hC h => ?_, fun μ ν hq h => ?_⟩
    · unfold f_X7_writePart
      rw [gd6200 hc0 hc1, gd6200 hc0 hc1, hC.x 13 _ (by decide), a1, if_pos rfl, gq1 hC, hC.x 14 _ (by decide), b2 _ _ h, bd_of]
    · unfold f_X12_atom_
      rw [gdn hp (by omega), hq.x 31 _ (by decide), a2, if_neg (by decide), if_pos rfl, gdn hp (by omega), hq.x 32 _ (by decide), a3, b3 _ _ h, bd_of]
  · have hz1 : xA τ0 14 c < 30 := by
      have := hct.2.2.1
      clear hct
      grind
    obtain ⟨L, b1, b2, b3⟩ := wn hct hN a4 a5
    refine ⟨L, b1, fun E σ τ hC h => ?_, fun μ ν hq h => ?_⟩
    · unfold f_X7_writePart
      rw [gd6200 hc0 hc1, gd6200 hc0 hc1, hC.x 13 _ (by decide), a1, if_neg (by decide), if_pos rfl, gq1 hC, hC.x 14 _ (by decide), gd30 a4 hz1, hC.y 0 _ (by decide), b2 _ _ h, bd_of]
    · unfold f_X12_atom_
      rw [gdn hp (by omega), hq.x 31 _ (by decide), a2, if_pos rfl, gdn hp (by omega), hq.x 32 _ (by decide), a3, gd30 a4 hz1, hq.y 3 _ (by decide), b3 _ _ h, bd_of]
  · obtain ⟨L, b1, b2, b3⟩ := wf k30 k13 knm kdf k7 (f := f) (by omega)
    refine ⟨L, b1, fun E σ τ hC h => ?_, fun μ ν hq h => ?_⟩
    · unfold f_X7_writePart
      rw [gd6200 hc0 hc1, gd6200 hc0 hc1, hC.x 13 _ (by decide), a1, if_neg (by decide), if_neg (by decide), if_pos rfl, hC.x 14 _ (by decide), a4, b2 _ _ hC h, bd_of]
    · unfold f_X12_atom_
      rw [gdn hp (by omega), hq.x 31 _ (by decide), a2, if_neg (by decide), if_neg (by decide), if_neg (by decide), if_pos rfl, gdn hp (by omega), hq.x 32 _ (by decide), a5, b3 _ _ hq h, bd_of]
  · obtain ⟨L, b1, b2, b3⟩ := wv (x := x) (by omega)
    refine ⟨L, b1, fun E σ τ hC h => ?_, fun μ ν hq h => ?_⟩
    · unfold f_X7_writePart
      rw [gd6200 hc0 hc1, gd6200 hc0 hc1, hC.x 13 _ (by decide), a1, if_neg (by decide), if_neg (by decide), if_neg (by decide), if_pos rfl, hC.x 14 _ (by decide), a4, b2 _ _ _ hC h, bd_of]
    · unfold f_X12_atom_
      rw [gdn hp (by omega), hq.x 31 _ (by decide), a2, if_neg (by decide), if_neg (by decide), if_neg (by decide), if_neg (by decide), if_pos rfl, gdn hp (by omega), hq.x 32 _ (by decide), a5, b3 _ _ _ hq h, bd_of]
  · refine ⟨[102, 97, 105, 108], okL.cs (Or.inr (by decide)) (okL.cs (Or.inr (by decide)) (okL.cs (Or.inr (by decide)) (okL.cs (Or.inr (by decide)) okL.nil))), fun E σ τ hC h => ?_, fun μ ν hq h => ?_⟩
    · unfold f_X7_writePart
      rw [gd6200 hc0 hc1, gd6200 hc0 hc1, hC.x 13 _ (by decide), a1, if_neg (by decide), if_neg (by decide), if_neg (by decide), if_neg (by decide), if_pos rfl, gq1 hC, txC (by decide) tl_6 h, bd_of]
    · unfold f_X12_atom_
      rw [gdn hp (by omega), hq.x 31 _ (by decide), a2, if_neg (by decide), if_neg (by decide), if_pos rfl, pk_go, bd_of, sgk pl_fl h, bd_of]
/-- a node with parts, on the one side -/
theorem wt_in {τ0 : S5} {c : Int32} {E : Int32 → S5 → Option (Unit × S5)} (hc : 0 ≤ c ∧ c < 6200) (h5 : ¬ xA τ0 13 c = 0 ∧ ¬ xA τ0 13 c = 1 ∧ ¬ xA τ0 13 c = 2 ∧ ¬ xA τ0 13 c = 3 ∧ ¬ xA τ0 13 c = 4) {L : List Int32} (hi : Wc τ0 (f_X7_writeInner E c) L) : Wc τ0 (f_X7_writePart E c) ([40] ++ (L ++ [41])) := by
  intro σ τ hC h
  obtain ⟨ρ1, l1, l2⟩ := LWc.ap h
  obtain ⟨ρ2, l3, l4⟩ := LWc.ap l2
  have k1 := hC.fr l1.fr
  have k2 := k1.fr l3.fr
  unfold f_X7_writePart
  rw [gd6200 hc.1 hc.2, gd6200 hc.1 hc.2, hC.x 13 _ (by decide), if_neg h5.1, if_neg h5.2.1, if_neg h5.2.2.1, if_neg h5.2.2.2.1, if_neg h5.2.2.2.2, gq1 hC, l1.one, bd_of, hi _ _ k1 l3, bd_of, gq1 k2, l4.one, bd_of]
/-- what both do with a subtree -/
def WTr (τ0 μ0 : S5) (c : Int32) (q p : Nat) (L : List Int32) : Prop := okL L ∧ (∀ d, hF τ0 c < d → Wc τ0 (f_writeE d c) L) ∧ RMp μ0 (hF τ0 c) p (p + 1 - q) L
