/-- what settling finds lies beneath the next round -/
theorem SetR.up {τ : S5} {pa : Nat → Nat} {rt : Nat → Int32} {n L l f k : Nat} {T : Nat → (Nat → Bool) → Bool} {σ : S5} {w : Int64} {ρ : Nat → Bool} (h : SetR τ pa n L T (fun x => x < pa f) (rt f) σ w) (hl : l < 64) (hp : pa f ≤ 8) (hx : ∀ x, x < pa f → XL σ l x = ρ x) (hT : TLe T (Tj τ pa rt n k)) (hw : lb w l = true) : Tj τ pa rt n (k + 1) f ρ = true := by
  obtain ⟨h1, h2⟩ := h l hl
  obtain ⟨h3, -⟩ := h2 (h1 hw)
  refine bP_t.mpr ⟨hp, fun X x1 x2 => ?_⟩
  exact h3 hw _ X (hT.r (Tj_mo τ pa rt n k)) x2 (fun x xp xt => x1 x xp (by rw [← hx x xp]; exact xt))
/-- and above it -/
theorem SetR.lo {τ : S5} {pa : Nat → Nat} {rt : Nat → Int32} {n L l f k : Nat} {T : Nat → (Nat → Bool) → Bool} {σ : S5} {w : Int64} {ρ : Nat → Bool} (h : SetR τ pa n L T (fun x => x < pa f) (rt f) σ w) (hl : l < 64) (hlL : l < L) (hx : ∀ x, x < pa f → XL σ l x = ρ x) (hT : TLe (Tj τ pa rt n k) T) (hj : Tj τ pa rt n (k + 1) f ρ = true) : lb w l = true := by
  obtain ⟨-, h2⟩ := h l hl
  obtain ⟨-, h3⟩ := h2 hlL
  obtain ⟨-, hv⟩ := bP_t.mp hj
  have hc := hT.l (Tj_mo τ pa rt n k)
  refine h3 (fun Y y1 y2 => ?_)
  exact dv_le hc (fun _ z => z) n _ (hv Y (fun x xp xr => by rw [y1 x xp, hx x xp]; exact xr) (Clo_le hc n _ y2))
/-- the words of the parameters -/
def lwd (w i : Nat) : Int64 := if i < 6 then sLanes.getD i 0 else -(((j_iushr (nI w) (nI i - 6)) &&& 1).toInt64)
theorem lwd_bit : ∀ w, w < 4 → ∀ i, i < 8 → ∀ l, l < 64 → lb (lwd w i) l = (64 * w + l).testBit i := by decide
/-- what improving a function writes -/
def FrI (σ σ' : S5) : Prop := (∀ j, ¬ j = 23 → ¬ j = 24 → gI σ' j = gI σ j) ∧ (∀ j, gJ σ' j = gJ σ j) ∧ (∀ j, gA σ' j = gA σ j) ∧ (∀ j, ¬ j = 5 → ¬ j = 6 → ¬ j = 7 → gB σ' j = gB σ j) ∧ σ'.2.2.2.2 = σ.2.2.2.2
theorem FrI.rf (σ : S5) : FrI σ σ := ⟨fun _ _ _ => rfl, fun _ => rfl, fun _ => rfl, fun _ _ _ _ => rfl, rfl⟩
theorem FrI.tr {σ σ1 σ2 : S5} (h : FrI σ σ1) (k : FrI σ1 σ2) : FrI σ σ2 := by
  obtain ⟨a1, a2, a3, a4, a5⟩ := h
  obtain ⟨b1, b2, b3, b4, b5⟩ := k
  exact ⟨fun j x y => (b1 j x y).trans (a1 j x y), fun j => (b2 j).trans (a2 j), fun j => (b3 j).trans (a3 j), fun j x y z => (b4 j x y z).trans (a4 j x y z), b5.trans a5⟩
theorem FrE.i {lo : Nat} {σ σ1 : S5} (h : FrE lo σ σ1) : FrI σ σ1 := ⟨fun j _ h2 => h.1 j h2, h.2.1, h.2.2.1, fun j _ h6 h7 => h.2.2.2.1 j h6 h7, h.2.2.2.2.1⟩
/-- the parameters' words are set -/
theorem ip_L60 {E : Int32 → S5 → Option (Int64 × S5)} {rec51 : Int32 → Int32 → Int32 → Int32 → Int32 → S5 → Option (Int32 × S5)} {f p w : Nat} {v3 v4 : Int32} {σ : S5} (hp : p ≤ 8) (hw : w < 4) : ∀ (m i N : Nat) (σi : S5), i + m = p → m < N → (FrI σ σi ∧ gI σi 23 = gI σ 23 ∧ (∀ x, xB σi 5 x = xB σ 5 x) ∧ ∀ x, x < i → xB σi 6 (nI x) = lwd w x) → ∃ σs, f_X1_improve_L60 E rec51 N (nI f) (nI p) v3 v4 (nI w) (nI i) σi = (gd (nI f) 630 <| gd (nI f) 630 <| bd (f_X1_settle E ((xA σs 7 (nI f))) (nI p) ((xA σs 6 (nI f))) σs) (fun r127 τ127 =>
    gd ((nI f * 4) + nI w) 2520 <| if (lg_cmp r127 (xB τ127 5 ((nI f * 4) + nI w))) = 0 then
      (f_X1_improve_b156 E rec51 (nI f) (nI p) (v3) (nI w) (r127) (0) (v4) τ127)
    else
      (f_X1_improve_b156 E rec51 (nI f) (nI p) (v3) (nI w) (r127) (1) (v4) τ127))) ∧ (FrI σ σs ∧ gI σs 23 = gI σ 23 ∧ (∀ x, xB σs 5 x = xB σ 5 x) ∧ ∀ x, x < p → xB σs 6 (nI x) = lwd w x) := by
  intro m
  induction m with
  | zero =>
    intro i N σi hid hN hI
    obtain ⟨N, rfl⟩ : ∃ m, N = m + 1 := ⟨N - 1, by omega⟩
    have hip : i = p := by omega
    refine ⟨σi, ?_, by rw [← hip]; exact hI⟩
    show f_X1_improve_B60 _ _ _ _ _ _ _ _ _ _ = _
    unfold f_X1_improve_B60
    rw [if_pos (by rw [hip]; exact Int32.le_refl _)]
  | succ m ih =>
    intro i N σi hid hN hI
    obtain ⟨N, rfl⟩ : ∃ m, N = m + 1 := ⟨N - 1, by omega⟩
    obtain ⟨a1, a2, a3, a4⟩ := hI
    have st : f_X1_improve_L60 E rec51 (N + 1) (nI f) (nI p) v3 v4 (nI w) (nI i) σi = f_X1_improve_L60 E rec51 N (nI f) (nI p) v3 v4 (nI w) (nI (i + 1)) (pB σi 6 (nI i) (lwd w i)) := by
      show f_X1_improve_B60 _ _ _ _ _ _ _ _ _ _ = _
      unfold f_X1_improve_B60 f_X1_improve_b100 lwd
      rw [if_neg (fun w => by have := (nI_le31 (by omega) (by omega)).mp w; omega)]
      by_cases h6 : i < 6
      · rw [if_neg (show ¬ (6 : Int32) ≤ nI i from fun w => by have := (nI_le31 (a := 6) (by omega) (by omega)).mp w; omega), gdn h6 (by omega), gdn (by omega) (by omega), nI_clamp (by omega), nI_add1, if_pos h6]
      · rw [if_pos (show (6 : Int32) ≤ nI i from (nI_le31 (a := 6) (by omega) (by omega)).mpr (by omega)), gdn (by omega) (by omega), nI_add1, if_neg h6]
    rw [st]
    refine ih (i + 1) N _ (by omega) (by omega) ⟨a1.tr ⟨fun _ _ _ => rfl, fun _ => rfl, fun _ => rfl, fun j _ h6 _ => gB_ne _ _ _ h6, rfl⟩, a2, fun x => by rw [xB_pB, if_neg (fun z => absurd z.1 (by decide))]; exact a3 x, fun x hx => ?_⟩
    by_cases hxi : x = i
    · subst hxi
      rw [xB_pB, if_pos ⟨rfl, rfl⟩]
    · rw [xB_pB, if_neg (fun z => tn_neL (a := x) (b := i) (by omega) (by omega) hxi z.2)]
      exact a4 x (by omega)
