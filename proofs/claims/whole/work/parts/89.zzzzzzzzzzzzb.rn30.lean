/-- a row that was made longer some times -/
def Ln (m x : Nat) : Prop := ∃ a, a ≤ m ∧ x = 512 * 2 ^ a
theorem Ln.b {m x : Nat} (h : Ln m x) : 512 ≤ x ∧ x ≤ 512 * 2 ^ m := by
  obtain ⟨a, h1, rfl⟩ := h
  have h2 : 2 ^ a ≤ 2 ^ m := Nat.pow_le_pow_right (by decide) h1
  have h3 : 1 ≤ 2 ^ a := Nat.one_le_two_pow
  omega
theorem Ln.d {m x y : Nat} (h : Ln m x) (hy : x ≤ y) (hm : y < 512 * 2 ^ m) : Ln m (2 * x) := by
  obtain ⟨a, h1, rfl⟩ := h
  refine ⟨a + 1, ?_, by rw [Nat.pow_succ]; omega⟩
  by_cases e : a = m
  · subst e
    omega
  · omega
/-- what pushing leaves -/
def FpC (σ τ : S5) : Prop := (∀ j, ¬ j = 40 → gI τ j = gI σ j) ∧ (∀ j, gJ τ j = gJ σ j) ∧ (∀ j, gA τ j = gA σ j) ∧ (∀ j, ¬ j = 12 → gB τ j = gB σ j) ∧ ∀ k, ¬ k = 1 → gN τ k = gN σ k
theorem grB_n {σ : S5} {k j n : Nat} (h : ¬ j = k) : gB (grB σ k n) j = gB σ j := by
  show cond (Nat.beq j k) _ _ = _
  rw [beq_ne h]
  rfl
theorem grB_s {σ : S5} {k n i : Nat} (h : i < n) : gB (grB σ k n) k i = gB σ k i := by
  show (cond (Nat.beq k k) (va_cpy (σ.2.2.2.1 k) (fun _ => 0) 0 0 n) (σ.2.2.2.1 k)) i = _
  rw [Nat.beq_refl]
  show va_cpy (σ.2.2.2.1 k) (fun _ => 0) 0 0 n i = _
  unfold va_cpy
  simp [h]
  rfl
theorem push_go {σ : S5} {top : Nat} (v : Int64) (h40 : gI σ 40 = nI top) (hL : Ln 11 (gN σ 1)) (htop : top ≤ gN σ 1) (ht : top < 1048576) : ∃ τ, f_X3_push v σ = some ((), τ) ∧ FpC σ τ ∧ gI τ 40 = nI (top + 1) ∧ gB τ 12 top = v ∧ (∀ j, j < top → gB τ 12 j = gB σ 12 j) ∧ Ln 11 (gN τ 1) ∧ top + 1 ≤ gN τ 1 ∧ gN σ 1 ≤ gN τ 1 := by
  obtain ⟨l1, l2⟩ := hL.b
  have hk : (gI σ 40) < (Int32.ofNat (gN σ 1)) ↔ top < gN σ 1 := by
    rw [h40]
    exact nI_lt31 (b := gN σ 1) (by omega) (by omega)
  by_cases hlt : top < gN σ 1
  · refine ⟨pI (pB σ 12 (nI top) v) 40 (nI (top + 1)), ?_, ⟨fun j a => by rw [gI_pI, if_neg a]; rfl, fun _ => rfl, fun _ => rfl, fun j a => gB_pB_ne a, fun _ _ => rfl⟩, rfl, gB_s (σ := σ) (by omega), fun j hj => gB_n (σ := σ) (by omega) (by omega), hL, hlt, Nat.le_refl _⟩
    unfold f_X3_push f_X3_push_b30
    rw [if_pos (hk.mpr hlt), h40, gdn hlt (by omega), nI_add1]
  · have he : top = gN σ 1 := by omega
    have hL2 := hL.d (y := top) (by omega) (by omega)
    refine ⟨pI (pB (pN (grB σ 12 (gN σ 1)) 1 (2 * gN σ 1)) 12 (nI top) v) 40 (nI (top + 1)), ?_, ⟨fun j a => by rw [gI_pI, if_neg a]; rfl, fun _ => rfl, fun _ => rfl, fun j a => ?_, fun k hk => ?_⟩, rfl, gB_s (σ := pN (grB σ 12 (gN σ 1)) 1 (2 * gN σ 1)) (by omega), fun j hj => ?_, ?_, ?_, ?_⟩
    · unfold f_X3_push f_X3_push_b30 gle
      rw [if_neg (fun w => hlt (hk.mp w)), if_pos l1, if_pos (by omega), show gI (pN (grB σ 12 (gN σ 1)) 1 (2 * gN σ 1)) 40 = gI σ 40 from rfl, h40, show gN (pN (grB σ 12 (gN σ 1)) 1 (2 * gN σ 1)) 1 = 2 * gN σ 1 from rfl, gdn (by omega) (by omega), nI_add1]
    · show gB (pB (pN (grB σ 12 (gN σ 1)) 1 (2 * gN σ 1)) 12 (nI top) v) j = _
      rw [gB_pB_ne a]
      exact grB_n a
    · show cond (Nat.beq k 1) _ _ = _
      rw [beq_ne hk]
      rfl
    · show gB (pB (pN (grB σ 12 (gN σ 1)) 1 (2 * gN σ 1)) 12 (nI top) v) 12 j = _
      rw [gB_n (by omega) (by omega)]
      show gB (grB σ 12 (gN σ 1)) 12 j = gB σ 12 j
      exact grB_s (by omega)
    · exact hL2
    · show top + 1 ≤ 2 * gN σ 1
      omega
    · show gN σ 1 ≤ 2 * gN σ 1
      omega
/-- what making room for variables leaves -/
def FoC (σ τ : S5) : Prop := (∀ j, gI τ j = gI σ j) ∧ (∀ j, gJ τ j = gJ σ j) ∧ (∀ j, gA τ j = gA σ j) ∧ (∀ j, ¬ j = 13 → gB τ j = gB σ j) ∧ ∀ k, ¬ k = 3 → gN τ k = gN σ k
theorem room_go {τ σ : S5} {f nvf edge : Nat} (hf : f < 630) (h6 : xA σ 6 (nI f) = nI nvf) (hnv : nvf ≤ 40) (h42 : gI σ 42 = nI edge) (hL : Ln 9 (gN σ 3)) (hed : edge ≤ gN σ 3) (he : edge + 40 < 262144) : ∃ τ, f_X3_makeRoom (nI f) σ = some ((), τ) ∧ FoC σ τ ∧ (∀ j, j < gN σ 3 → gB τ 13 j = gB σ 13 j) ∧ Ln 9 (gN τ 3) ∧ edge + nvf ≤ gN τ 3 ∧ gN σ 3 ≤ gN τ 3 := by
  obtain ⟨l1, l2⟩ := hL.b
  have hk : (gI σ 42) + (xA σ 6 (nI f)) ≤ (Int32.ofNat (gN σ 3)) ↔ edge + nvf ≤ gN σ 3 := by
    rw [h42, h6, nI_plus]
    exact nI_le31 (b := gN σ 3) (by omega) (by omega)
  by_cases hle : edge + nvf ≤ gN σ 3
  · refine ⟨σ, ?_, ⟨fun _ => rfl, fun _ => rfl, fun _ => rfl, fun _ _ => rfl, fun _ _ => rfl⟩, fun _ _ => rfl, hL, hle, Nat.le_refl _⟩
    unfold f_X3_makeRoom f_X3_makeRoom_b40
    rw [gdn hf (by omega), if_pos (hk.mpr hle)]
  · have hL2 := hL.d (y := edge + 40) (by omega) (by omega)
    refine ⟨pN (grB σ 13 (gN σ 3)) 3 (2 * gN σ 3), ?_, ⟨fun _ => rfl, fun _ => rfl, fun _ => rfl, fun j a => grB_n a, fun k hk => ?_⟩, fun j hj => (show gB (grB σ 13 (gN σ 3)) 13 j = gB σ 13 j from grB_s hj), hL2, ?_, ?_⟩
    · unfold f_X3_makeRoom f_X3_makeRoom_b40 gle
      rw [gdn hf (by omega), if_neg (fun w => hle (hk.mp w)), if_pos l1, if_pos (by omega)]
    · show cond (Nat.beq k 3) _ _ = _
      rw [beq_ne hk]
      rfl
    · show edge + nvf ≤ 2 * gN σ 3
      omega
    · show gN σ 3 ≤ 2 * gN σ 3
      omega
