/-- the reference's number of a kind of word -/
def kMd (k : Int32) : Int32 := if k = 1 then 0 else if k = 2 then 1 else if k = 5 then 2 else if k = 3 then 3 else if k = 4 then 4 else if k ≤ 11 then k + 4 else if k < 128 then k + 100 else k - 108
/-- the kind of a word of signs: its first sign and the next -/
def kS (z w : Int32) : Int32 := if z = 45 ∧ w = 62 then 128 else if z = 61 ∧ w = 61 then 129 else if z = 60 ∧ w = 61 then 130 else if knS z then z else 2
theorem c_b99 (σ : S5) : f_X10_readSign_b99 σ = some ((), pI σ 16 (gI σ 16 + (if gI σ 17 < 128 then 1 else 2))) := by
  unfold f_X10_readSign_b99 f_X10_readSign_b119
  split <;> rfl
theorem kn_lt {z : Int32} (hz : okS z) : z < 128 := by rcases hz with rfl | ⟨h1, h2⟩ <;> grind
theorem c_sgn {z w : Int32} (hz : okS z) {σ : S5} (h : f_X8_signAt_text (gI σ 16 + 1) σ = some (w, σ)) : f_X10_readSign z σ = some ((), pI (pI σ 17 (kS z w)) 16 (gI σ 16 + (if kS z w < 128 then 1 else 2))) := by
  have hlt := kn_lt hz
  have h0 : f_X10_readSign_b80 z σ = some ((), pI (pI σ 17 (if knS z then z else 2)) 16 (gI σ 16 + (if (if knS z then z else 2) < 128 then 1 else 2))) := by
    rw [c_b80 hz]
    unfold f_X10_readSign_b96
    rw [c_b99]
    rfl
  unfold f_X10_readSign
  rw [h, bd_of]
  unfold f_X10_readSign_b36 f_X10_readSign_b58 kS
  rw [h0]
  by_cases c1 : z = 45
  · subst c1
    by_cases c2 : w = 62
    · simp [c2, c_b99, gI_pI]
    · simp [c2]
  by_cases c3 : z = 61
  · subst c3
    by_cases c4 : w = 61
    · simp [c4, c_b99, gI_pI]
    · simp [c4]
  by_cases c5 : z = 60
  · subst c5
    by_cases c4 : w = 61
    · simp [c4, c_b99, gI_pI]
    · simp [c4]
  simp [c1, c3, c5]
theorem m_b167 (z : Int32) (μ : S5) : f_X12_next_b167 z μ = some ((), pI (pI μ 3 (gI μ 3 + 1)) 4 (if knS z then 100 + z else 1)) := by
  by_cases h : knS z = true
  · rw [if_pos h]
    have h2 : z = 40 ∨ z = 41 ∨ z = 123 ∨ z = 125 ∨ z = 61 ∨ z = 59 ∨ z = 44 ∨ z = 92 ∨ z = 46 ∨ z = 95 ∨ z = 43 ∨ z = 45 ∨ z = 42 ∨ z = 47 ∨ z = 37 ∨ z = 60 ∨ z = 124 := by simpa [knS, or_assoc] using h
    rcases h2 with rfl | rfl | rfl | rfl | rfl | rfl | rfl | rfl | rfl | rfl | rfl | rfl | rfl | rfl | rfl | rfl | rfl <;> rfl
  · rw [if_neg h]
    simp only [knS, Bool.or_eq_true, beq_iff_eq, not_or] at h
    simp [f_X12_next_b167, f_X12_next_b226, f_X12_next_b284, f_X12_next_b308, h]
/-- what the reference does at a word of signs -/
def mSg (z w : Int32) (μ : S5) : Option (Unit × S5) :=
  if z = 45 then (if w = 62 then (f_X12_next_b126 z μ) else (f_X12_next_b102 z w μ)) else (f_X12_next_b102 z w μ)
theorem kMd_kn {z : Int32} (hz : okS z) : kMd (if knS z then z else 2) = if knS z then 100 + z else 1 := by
  have h := okS_all (fun z => decide (kMd (if knS z then z else 2) = if knS z then 100 + z else 1)) (by decide +kernel) hz
  simpa using h
theorem m_sgn {z w w2 : Int32} (hz : okS z) (h1 : w = 62 ↔ w2 = 62) (h2 : w = 61 ↔ w2 = 61) (μ : S5) : mSg z w2 μ = some ((), pI (pI μ 3 (gI μ 3 + (if kS z w < 128 then 1 else 2))) 4 (kMd (kS z w))) := by
  have hlt := kn_lt hz
  have hk := kMd_kn hz
  have hl : (if knS z then z else 2) < (128 : Int32) := by split <;> grind
  unfold mSg f_X12_next_b102 f_X12_next_b114 kS
  rw [m_b167]
  by_cases c1 : z = 45
  · subst c1
    by_cases c2 : w = 62
    · have c3 := h1.mp c2
      simp [c2, c3, f_X12_next_b126, f_X12_next_b161]
      rfl
    · have c3 : ¬ w2 = 62 := fun q => c2 (h1.mpr q)
      simp [c2, c3]
      rfl
  by_cases c3 : z = 61
  · subst c3
    by_cases c4 : w = 61
    · have c5 := h2.mp c4
      simp [c4, c5, f_X12_next_b126, f_X12_next_b161]
      rfl
    · have c5 : ¬ w2 = 61 := fun q => c4 (h2.mpr q)
      simp [c4, c5]
      rfl
  by_cases c5 : z = 60
  · subst c5
    by_cases c4 : w = 61
    · have c6 := h2.mp c4
      simp [c4, c6, f_X12_next_b126, f_X12_next_b161]
      rfl
    · have c6 : ¬ w2 = 61 := fun q => c4 (h2.mpr q)
      simp [c4, c6]
      rfl
  simp only [c1, c3, c5, false_and, if_false]
  rw [hk, if_pos hl]
/-- a word's kind -/
def okK (k : Int32) : Bool := (1 ≤ k && k ≤ 11) || knS k || (128 ≤ k && k ≤ 130)
theorem ok_kS {z : Int32} (hz : okS z) (w : Int32) : okK (kS z w) = true := by
  unfold kS
  split
  · decide
  split
  · decide
  split
  · decide
  split
  · rename_i h
    simp [okK, h]
  · decide
theorem ok_kw (z : Int64) : okK (kwC z) = true ∧ (kMd (kwC z) = kwM z) ∧ ¬ kwC z = 1 ∧ ¬ kwC z = 5 := by
  unfold kwC kwM
  split
  · decide
  split
  · decide
  split
  · decide
  split
  · decide
  split
  · decide
  split
  · decide
  decide
