/-- the signs of a word -/
def byM (v : Int64) (j : Nat) : Int32 := (((j_lshr v (nI (8 * j))) : Int64).toInt32) &&& 255
def byC (v : Int64) (j : Nat) : Int32 := (((j_lushr v (nI (8 * j))) : Int64).toInt32) &&& 255
def byL (b : Nat → Int32) : Nat → List Int32
  | 0 => []
  | j + 1 => (if b j = 0 then [] else [b j]) ++ byL b j
theorem n8_s (j : Nat) : nI (8 * (j + 1)) - 8 = nI (8 * j) := by
  rw [show (8 : Int32) = nI 8 from rfl, nI_sub (by omega), show 8 * (j + 1) - 8 = 8 * j by omega]
theorem n8_a (j : Nat) : nI (8 * j) + (-8) = nI (8 * j) - 8 := by grind
theorem sgM_l {v : Int64} : ∀ (j N : Nat) (μ ν : S5), j ≤ 8 → j < N → LWm (byL (byM v) j) μ ν → f_X12_signs_L3 N v (nI (8 * j) - 8) μ = some ((), ν) := by
  intro j
  induction j with
  | zero =>
    intro N μ ν hj hN h
    obtain ⟨N, rfl⟩ : ∃ n, N = n + 1 := ⟨N - 1, by omega⟩
    cases h
    rfl
  | succ j ih =>
    intro N μ ν hj hN h
    obtain ⟨N, rfl⟩ : ∃ n, N = n + 1 := ⟨N - 1, by omega⟩
    obtain ⟨ρ, h1, h2⟩ := LWm.ap h
    show f_X12_signs_B3 _ _ _ _ = _
    unfold f_X12_signs_B3 f_X12_signs_b28
    rw [n8_s, if_neg (nI_nneg (by omega)), n8_a]
    have e : (((j_lshr v (nI (8 * j))) : Int64).toInt32) &&& 255 = byM v j := rfl
    rw [e]
    by_cases h0 : byM v j = 0
    · rw [if_pos h0] at h1 ⊢
      cases h1
      exact ih N μ ν (by omega) (by omega) h2
    · rw [if_neg h0] at h1 ⊢
      obtain ⟨ρ', a, b⟩ := h1
      cases b
      rw [a, bd_of]
      exact ih N _ ν (by omega) (by omega) h2
theorem sgC_l {v : Int64} : ∀ (j N : Nat) (σ τ : S5), j ≤ 8 → j < N → LWc (byL (byC v) j) σ τ → f_X8_addName_draft_L3 N v (nI (8 * j) - 8) σ = some ((), τ) := by
  intro j
  induction j with
  | zero =>
    intro N μ ν hj hN h
    obtain ⟨N, rfl⟩ : ∃ n, N = n + 1 := ⟨N - 1, by omega⟩
    cases h
    rfl
  | succ j ih =>
    intro N μ ν hj hN h
    obtain ⟨N, rfl⟩ : ∃ n, N = n + 1 := ⟨N - 1, by omega⟩
    obtain ⟨ρ, h1, h2⟩ := LWc.ap h
    show f_X8_addName_draft_B3 _ _ _ _ = _
    unfold f_X8_addName_draft_B3 f_X8_addName_draft_b28
    rw [n8_s, if_neg (nI_nneg (by omega)), n8_a]
    have e : (((j_lushr v (nI (8 * j))) : Int64).toInt32) &&& 255 = byC v j := rfl
    rw [e]
    by_cases h0 : byC v j = 0
    · rw [if_pos h0] at h1 ⊢
      cases h1
      exact ih N μ ν (by omega) (by omega) h2
    · rw [if_neg h0] at h1 ⊢
      obtain ⟨ρ', a, b⟩ := h1
      cases b
      rw [a, bd_of]
      exact ih N _ ν (by omega) (by omega) h2
/-- a word's signs are written -/
theorem sgM_go {v : Int64} {μ ν : S5} (h : LWm (byL (byM v) 8) μ ν) : f_X12_signs v μ = some ((), ν) := by
  have hb := FU_big (n := 5000) (by decide)
  have := sgM_l 8 FU μ ν (by omega) (by omega) h
  rw [show nI (8 * 8) - 8 = 56 from rfl] at this
  unfold f_X12_signs
  exact this
theorem sgC_go {v : Int64} {σ τ : S5} (h : LWc (byL (byC v) 8) σ τ) : f_X8_addName_draft v σ = some ((), τ) := by
  have hb := FU_big (n := 5000) (by decide)
  have := sgC_l 8 FU σ τ (by omega) (by omega) h
  rw [show nI (8 * 8) - 8 = 56 from rfl] at this
  unfold f_X8_addName_draft
  exact this
