/-- a word's signs are signs of a text -/
def okN (v : Int64) : Prop := ∀ j, j < 8 → byC v j = 0 ∨ okS (byC v j)
theorem byC_bit (v : Int64) {j : Nat} (hj : j < 8) (i : Nat) : (byC v j).toBitVec.getLsbD i = (decide (i < 8) && v.toBitVec.getLsbD (8 * j + i)) := by
  have h63 : ∀ j, j < 8 → ((nI (8 * j)).toInt64.toUInt64 &&& Int64.toUInt64 63) = UInt64.ofNat (8 * j) ∧ (UInt64.ofNat (8 * j)).toBitVec % 64 = BitVec.ofNat 64 (8 * j) := by decide
  obtain ⟨a1, a3⟩ := h63 j hj
  unfold byC j_lushr
  rw [a1]
  simp only [Int32.toBitVec_and, BitVec.getLsbD_and]
  by_cases h8 : i < 8
  · have h255 : (255 : Int32).toBitVec.getLsbD i = true := by
      have key : ∀ i, i < 8 → (255 : Int32).toBitVec.getLsbD i = true := by decide
      exact key i h8
    rw [h255, Bool.and_true]
    show (((v.toUInt64 >>> UInt64.ofNat (8 * j)).toBitVec).signExtend 32).getLsbD i = _
    rw [BitVec.getLsbD_signExtend, if_pos (by omega), UInt64.toBitVec_shiftRight, a3]
    show (decide (i < 32) && (v.toBitVec >>> (BitVec.ofNat 64 (8 * j)).toNat).getLsbD i) = _
    rw [BitVec.toNat_ofNat, Nat.mod_eq_of_lt (by omega), BitVec.getLsbD_ushiftRight, decide_eq_true (show i < 32 by omega), decide_eq_true h8]
  · by_cases h32 : i < 32
    · have h255 : (255 : Int32).toBitVec.getLsbD i = false := by
        have key : ∀ i, i < 32 → ¬ i < 8 → (255 : Int32).toBitVec.getLsbD i = false := by decide
        exact key i h32 h8
      rw [h255, Bool.and_false, decide_eq_false h8, Bool.false_and]
    · rw [BitVec.getLsbD_of_ge (255 : Int32).toBitVec i (by omega), Bool.and_false, decide_eq_false h8, Bool.false_and]
theorem okS_n {w : Int32} (h : okS w) : ∃ n, n < 127 ∧ w = nI n := by
  have h0 : 0 ≤ w := by
    rcases h with h | h
    · rw [h]; decide
    · grind
  have h1 : w ≤ 126 := by
    rcases h with h | h
    · rw [h]; decide
    · exact h.2
  refine ⟨w.toNatClampNeg, ?_, nI_tn h0⟩
  have := i_lt (n := 127) (a := w) (fun q => by grind) (by grind)
  exact this
theorem lshl8 (v : Int64) (i : Nat) : (j_lshl v 8).toBitVec.getLsbD i = (decide (i < 64) && decide (8 ≤ i) && v.toBitVec.getLsbD (i - 8)) := by
  unfold j_lshl
  have a2 : ((8 : Int32).toInt64 &&& 63).toBitVec.smod 64 = BitVec.ofNat 64 8 := by decide
  rw [Int64.toBitVec_shiftLeft, a2]
  show (v.toBitVec <<< (BitVec.ofNat 64 8).toNat).getLsbD i = _
  rw [BitVec.toNat_ofNat, Nat.mod_eq_of_lt (by omega), BitVec.getLsbD_shiftLeft]
  by_cases h : i < 8
  · rw [decide_eq_true h, decide_eq_false (show ¬ 8 ≤ i by omega)]
    simp
  · rw [decide_eq_false h, decide_eq_true (show 8 ≤ i by omega)]
    simp
theorem byC_sh0 (v : Int64) {n : Nat} (hn : n < 127) : byC ((j_lshl v 8) ||| (nI n).toInt64) 0 = nI n := by
  have e1 : ∀ n, n < 127 → (nI n).toInt64.toBitVec = BitVec.ofNat 64 n ∧ (nI n).toBitVec = BitVec.ofNat 32 n := by decide
  apply Int32.toBitVec_inj.mp
  apply BitVec.eq_of_getLsbD_eq
  intro i hi
  rw [byC_bit _ (by omega), Int64.toBitVec_or, BitVec.getLsbD_or, lshl8, (e1 n hn).1, (e1 n hn).2, BitVec.getLsbD_ofNat, BitVec.getLsbD_ofNat, Nat.mul_zero, Nat.zero_add]
  by_cases h8 : i < 8
  · rw [decide_eq_true h8, decide_eq_false (show ¬ 8 ≤ i by omega), decide_eq_true (show i < 64 by omega), decide_eq_true (show i < 32 by omega)]
    simp
  · have : n.testBit i = false := Nat.testBit_lt_two_pow (Nat.lt_of_lt_of_le (show n < 2 ^ 8 by omega) (Nat.pow_le_pow_right (by decide) (by omega)))
    rw [this, decide_eq_false h8]
    simp
theorem byC_sh (v : Int64) {n j : Nat} (hn : n < 127) (hj : j + 1 < 8) : byC ((j_lshl v 8) ||| (nI n).toInt64) (j + 1) = byC v j := by
  have e1 : ∀ n, n < 127 → (nI n).toInt64.toBitVec = BitVec.ofNat 64 n := by decide
  apply Int32.toBitVec_inj.mp
  apply BitVec.eq_of_getLsbD_eq
  intro i hi
  rw [byC_bit _ hj, byC_bit _ (by omega), Int64.toBitVec_or, BitVec.getLsbD_or, lshl8, e1 n hn, BitVec.getLsbD_ofNat]
  by_cases h8 : i < 8
  · have : n.testBit (8 * (j + 1) + i) = false := Nat.testBit_lt_two_pow (Nat.lt_of_lt_of_le (show n < 2 ^ 8 by omega) (Nat.pow_le_pow_right (by decide) (by omega)))
    rw [this, decide_eq_true h8, decide_eq_true (show 8 * (j + 1) + i < 64 by omega), decide_eq_true (show 8 ≤ 8 * (j + 1) + i by omega), show 8 * (j + 1) + i - 8 = 8 * j + i by omega]
    simp
  · rw [decide_eq_false h8, Bool.false_and, Bool.false_and]
theorem okN_sh {v : Int64} {w : Int32} (h : okN v) (hw : okS w) : okN ((j_lshl v 8) ||| w.toInt64) := by
  obtain ⟨n, hn, rfl⟩ := okS_n hw
  intro j hj
  cases j with
  | zero => rw [byC_sh0 v hn]; exact Or.inr hw
  | succ j => rw [byC_sh v hn hj]; exact h j (by omega)
theorem okN_0 : okN 0 := fun j hj => Or.inl ((by decide : ∀ j, j < 8 → byC 0 j = 0) j hj)
theorem okN_F : okN 302282208101 := fun j hj => (by decide : ∀ j, j < 8 → (byC 302282208101 j = 0 ∨ (byC 302282208101 j = 10 ∨ (32 ≤ byC 302282208101 j ∧ byC 302282208101 j ≤ 126)))) j hj
theorem okN_T : okN 1416787301 := fun j hj => (by decide : ∀ j, j < 8 → (byC 1416787301 j = 0 ∨ (byC 1416787301 j = 10 ∨ (32 ≤ byC 1416787301 j ∧ byC 1416787301 j ≤ 126)))) j hj
theorem okN.m {v : Int64} (h : okN v) : ∀ n, n ≤ 8 → ∀ b, b ∈ byL (byC v) n → okS b
  | 0, _, b, hb => absurd hb (List.not_mem_nil)
  | n + 1, hn, b, hb => by
    rcases List.mem_append.mp hb with w | w
    · by_cases h0 : byC v n = 0
      · rw [if_pos h0] at w
        exact absurd w (List.not_mem_nil)
      · rw [if_neg h0] at w
        rw [List.mem_singleton.mp w]
        exact (h n (by omega)).resolve_left h0
    · exact okN.m h n (by omega) b w
/-- the names' signs are signs of a text -/
def NKs (σ : S5) : Prop := okN (gJ σ 0) ∧ ∀ i, okN (gB σ 0 i)
theorem NKs_pI (σ : S5) (k : Nat) (v : Int32) (_ : True) (h : NKs σ) : NKs (pI σ k v) := h
theorem NKs_pN {σ : S5} {k v : Nat} (h : NKs σ) : NKs (pN σ k v) := h
theorem NKs_pA {σ : S5} {k : Nat} {i v : Int32} (h : NKs σ) : NKs (pA σ k i v) := h
theorem NKs_pB (σ : S5) (k : Nat) (i : Int32) (v : Int64) (hk : ¬ 0 = k) (h : NKs σ) : NKs (pB σ k i v) := ⟨h.1, fun x => by rw [gB_pB_ne hk]; exact h.2 x⟩
/-- how far a name is read -/
def WK (v : Int32) (σ : S5) : Prop := ∃ n : Nat, v = nI n ∧ (n : Int) ≤ (gI σ 16).toInt + 2147483648
theorem WK.s {v : Int32} {σ : S5} (h : WK v σ) (hl : gI σ 16 < gI σ 0) : (∃ n : Nat, v + 1 = nI n ∧ (n : Int) ≤ (gI σ 16 + 1).toInt + 2147483648) ∧ ¬ v + 1 = 0 := by
  obtain ⟨n, rfl, h1⟩ := h
  rw [Int32.lt_iff_toInt_lt] at hl
  have h2 := (gI σ 0).toInt_lt
  have h3 := (gI σ 16).le_toInt
  have e : (gI σ 16 + 1).toInt = (gI σ 16).toInt + 1 := by
    rw [Int32.toInt_add]
    show ((gI σ 16).toInt + 1).bmod (2 ^ 32) = _
    exact Int.bmod_eq_of_le (by omega) (by omega)
  refine ⟨⟨n + 1, nI_add1 n, by rw [e]; omega⟩, ?_⟩
  rw [nI_add1]
  intro w
  have w2 : (nI (n + 1)).toBitVec.toNat = 0 := by rw [w]; rfl
  have w3 : (nI (n + 1)).toBitVec.toNat = (n + 1) % 2 ^ 32 := rfl
  omega
theorem sg_st {a r : Int32} {σ τ : S5} (h : f_X8_signAt_text a σ = some (r, τ)) : τ = σ := by
  unfold f_X8_signAt_text at h
  split at h
  · cases h; rfl
  · split at h
    · cases h; rfl
    · have := (gd_some h).2
      cases this; rfl
theorem is_sm (v : Int32) (σ : S5) : f_X10_isSmall v σ = some (0, σ) ∨ (f_X10_isSmall v σ = some (1, σ) ∧ okS v) := by
  unfold f_X10_isSmall
  by_cases h : v < 97
  · rw [if_pos h]; exact Or.inl rfl
  · by_cases h2 : 122 < v
    · rw [if_neg h, if_pos h2]; exact Or.inl rfl
    · rw [if_neg h, if_neg h2]; exact Or.inr ⟨rfl, Or.inr ⟨by grind, by grind⟩⟩
theorem is_gr (v : Int32) (σ : S5) : f_X10_isGreat v σ = some (0, σ) ∨ (f_X10_isGreat v σ = some (1, σ) ∧ okS v) := by
  unfold f_X10_isGreat
  by_cases h : v < 65
  · rw [if_pos h]; exact Or.inl rfl
  · by_cases h2 : 90 < v
    · rw [if_neg h, if_pos h2]; exact Or.inl rfl
    · rw [if_neg h, if_neg h2]; exact Or.inr ⟨rfl, Or.inr ⟨by grind, by grind⟩⟩
theorem is_dg (v : Int32) (σ : S5) : f_X10_isDigit v σ = some (0, σ) ∨ (f_X10_isDigit v σ = some (1, σ) ∧ okS v) := by
  unfold f_X10_isDigit
  by_cases h : v < 48
  · rw [if_pos h]; exact Or.inl rfl
  · by_cases h2 : 57 < v
    · rw [if_neg h, if_pos h2]; exact Or.inl rfl
    · rw [if_neg h, if_neg h2]; exact Or.inr ⟨rfl, Or.inr ⟨by grind, by grind⟩⟩
