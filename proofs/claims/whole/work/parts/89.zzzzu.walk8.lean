theorem le_lt3 {a g c b : Int32} (h1 : a ≤ g) (h2 : g < c) (h3 : c ≤ b) (h4 : b ≤ 3200) : a < 3200 := by grind
theorem lt_7 {a : Int32} (h : a < 3200) : a < 7000 := by grind
/-- how the next of a row of children is come to -/
def Nxt (μ0 : S5) (v : Nat) (n : Int32) (e0 : Nat) : Prop := ∀ (μ : S5) (e : Nat) (x : Int32), e0 ≤ e → e ≤ 20 → WF μ0 μ → At μ v n (nI e) x → 0 ≤ x → x < 3200 → f_X12_nextChild (nI v) μ = some (x, pA (pA μ 29 (nI v) (nI e + 1)) 30 (nI v) (xA μ0 5 x))
/-- the walk goes through a row of children -/
theorem gt_row {σ τr μ0 : S5} {k F : Nat} {S : Int32} {D : Int32 → Nat} {h n : Int32} {v e0 : Nat} (hN : Nxt μ0 v n e0) (he0 : e0 ≤ 1) (hv : v < 3200) {l : Nat} (hl : l ≤ 9) {g fs fu fn gap : Nat → Int32} {b : Int32} {ga : Nat → Nat} (hga : ∀ i, i < l → ga i = ga (i + 1) + (gap i).toNatClampNeg) (hgb : ∀ i, i ≤ l → ga i ≤ b.toNatClampNeg - (fn i).toNatClampNeg) (hb : b ≤ 3200) (hb0 : 0 ≤ b) (hend : fn l = b) (hit : ∀ i, i < l → GoT σ τr μ0 k F S D h (fs i) (fs (i + 1)) (fu i) (fu (i + 1)) (fn i + gap i) (fn (i + 1)) (g i)) (hgap : ∀ i, i < l → gap i = 0 ∨ (gap i = 1 ∧ fM μ0 (fn i).toNatClampNeg = 0 ∧ vM μ0 (fn i).toNatClampNeg = 0 ∧ xA μ0 2 (fn i) = 6)) (hr : ∀ i, i < l → 0 ≤ fn i ∧ fn i ≤ g i ∧ fn i + gap i ≤ g i ∧ g i < fn (i + 1) ∧ fn (i + 1) ≤ b ∧ 0 ≤ fu i ∧ fu i ≤ fu (i + 1) ∧ xA μ0 5 (g i) = (if i + 1 < l then g (i + 1) else -1)) : ∀ (r i m top d B : Nat) (τ μ : S5), i + r = l → WS σ τr μ0 k F S D h (fs i) (fu i).toNatClampNeg (fn i) m top d B τ μ → At μ v n (nI (e0 + i)) (if i < l then g i else -1) → v + 1 + (b.toNatClampNeg - (fn i).toNatClampNeg) ≤ 3200 + ga i → m ≤ D h + 1 → ∃ (j B' : Nat) (τ' μ' : S5), j + 2 * ga i ≤ 2 * (b.toNatClampNeg - (fn i).toNatClampNeg) ∧ (∀ rec q v1, f_X12_find_L55 rec (q + j) v1 (nI (v + 1)) μ = f_X12_find_L55 rec q v1 (nI (v + 1)) μ') ∧ (∀ q, f_X2_findFree_L2 (q + ((fu l).toNatClampNeg - (fu i).toNatClampNeg)) (nI (fu i).toNatClampNeg) τ = f_X2_findFree_L2 q (nI (fu l).toNatClampNeg) τ') ∧ WS σ τr μ0 k F S D h (fs l) (fu l).toNatClampNeg b m top d B' τ' μ' ∧ At μ' v n (nI (e0 + l)) (-1) ∧ KW v μ μ' ∧ (fu i).toNatClampNeg ≤ (fu l).toNatClampNeg := by
  intro r
  induction r with
  | zero =>
    intro i m top d B τ μ hi q hat hvb hm
    have : i = l := by omega
    subst this
    rw [if_neg (by omega)] at hat
    rw [hend] at q
    have hg0 := hgb i (Nat.le_refl _)
    exact ⟨0, B, τ, μ, by omega, fun _ _ _ => rfl, fun w => by rw [Nat.sub_self]; rfl, q, hat, KW.rf v μ, Nat.le_refl _⟩
  | succ r ih =>
    intro i m top d B τ μ hi q hat hvb hm
    obtain ⟨r1, r1', r2, r3, r4, r5, r6, r7⟩ := hr i (by omega)
    rw [if_pos (by omega)] at hat
    have hgi : gap i = 0 ∨ gap i = 1 := (hgap i (by omega)).elim Or.inl (fun w => Or.inr w.1)
    have x0 : 0 ≤ g i := i_trans r1 r1'
    have hfl : fn i < 3200 := le_lt3 r1' r3 r4 hb
    have q1 : WS σ τr μ0 k F S D h (fs i) (fu i).toNatClampNeg (fn i + gap i) m top d B τ μ := by
      rcases hgap i (by omega) with w | ⟨w, w1, w2, w3⟩
      · rw [w, Int32.add_zero]; exact q
      · rw [w]
        exact q.z r1 hfl w1 w2 (by rw [w3]; decide) (fun e => by rw [w3] at e; exact absurd e (by decide))
    have l0 : (fn i).toNatClampNeg + (gap i).toNatClampNeg = (fn i + gap i).toNatClampNeg := by
      rcases hgi with w | w
      · rw [w, Int32.add_zero]; rfl
      · rw [w, tn_s r1 (lt_7 hfl)]; rfl
    have hg1 := hga i (by omega)
    have hg2 := hgb (i + 1) (by omega)
    have l1 : (fn i + gap i).toNatClampNeg < (fn (i + 1)).toNatClampNeg := by
      have a1 := i_le r2
      have a2 := i_lt (a := g i) (n := fn (i + 1)) (not_neg x0) r3
      omega
    have l2 : (fn (i + 1)).toNatClampNeg ≤ b.toNatClampNeg := i_le r4
    have l3 : (fu i).toNatClampNeg ≤ (fu (i + 1)).toNatClampNeg := i_le r6
    have hnx := hN μ (e0 + i) (g i) (by omega) (by omega) q1.1 hat x0 (le_lt3 (by exact Int32.le_refl _) r3 r4 hb)
    obtain ⟨j1, B1, τ1, μ1, a1, a2, a3, a4, a5⟩ := gt_kid (hit i (by omega)) q1 hv hnx (((FrW.rf _ μ).A (by omega)).A (by omega)) x0 (by omega) hm
    have t1 : At μ1 v n (nI (e0 + (i + 1))) (if i + 1 < l then g (i + 1) else -1) := by
      refine At.st ?_ a5 (by omega)
      refine ⟨?_, ?_, ?_⟩
      · rw [xA_pA, if_neg (fun w => absurd w.1 (by decide)), xA_pA, if_neg (fun w => absurd w.1 (by decide))]; exact hat.1
      · rw [xA_pA, if_neg (fun w => absurd w.1 (by decide)), xA_pA, if_pos ⟨rfl, rfl⟩, nI_add1]; rfl
      · rw [xA_pA, if_pos ⟨rfl, rfl⟩]; exact r7
    obtain ⟨j2, B2, τ2, μ2, b1, b2, b3, b4, b5, b6, b7⟩ := ih (i + 1) m top d B1 τ1 μ1 (by omega) a4 t1 (by omega) hm
    refine ⟨j1 + j2, B2, τ2, μ2, by omega, fun rec w v1 => ?_, ff_tr a3 b3 l3 b7, b4, b5, ?_, by omega⟩
    · rw [show w + (j1 + j2) = (w + j2) + j1 by omega, a2, b2]
    · exact ((((KW.rf v μ).A hv).A hv).tr (a5.le (by omega))).tr b6
theorem nxt_row {μ0 : S5} {v : Nat} {n : Int32} (hv : v < 3200) (hn0 : 0 ≤ n) (hn1 : n < 3200) (hk : xA μ0 2 n = 6 ∨ xA μ0 2 n = 7) : Nxt μ0 v n 0 := by
  intro μ e x _ _ hw hat x0 x1
  rw [nx_row hv hn0 hn1 hat (by rw [hw.x 2 _ (by omega)]; exact hk) x1, if_neg (by grind), hw.x 5 _ (by omega)]
theorem nxt_case {μ0 : S5} {v : Nat} {n : Int32} (hv : v < 3200) (hn0 : 0 ≤ n) (hn1 : n < 3200) (hk : xA μ0 2 n = 3) : Nxt μ0 v n 1 := by
  intro μ e x h1 h2 hw hat x0 x1
  rw [nx_case hv hn0 hn1 hat (by rw [hw.x 2 _ (by omega)]; exact hk) (fun w => by have := nI_inj (a := e) (b := 0) (by omega) (by omega) w; omega) x1, if_neg (by grind), hw.x 5 _ (by omega)]
theorem nxt_let {μ0 : S5} {v : Nat} {n : Int32} (hv : v < 3200) (hn0 : 0 ≤ n) (hn1 : n < 3200) (hk : xA μ0 2 n = 0) : Nxt μ0 v n 0 := by
  intro μ e x h1 h2 hw hat x0 x1
  rw [nx_let hv hn0 hn1 hat (by rw [hw.x 2 _ (by omega)]; exact hk) x0 x1, hw.x 5 _ (by omega)]
