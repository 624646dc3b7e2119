/-- both write one and the same text -/
def TXt (Fc Fm : S5 → Option (Unit × S5)) (L : List Int32) : Prop := (∀ b, b ∈ L → okS b) ∧ (∀ σ τ, LWc L σ τ → Fc σ = some ((), τ)) ∧ ∀ μ ν, LWm L μ ν → Fm μ = some ((), ν)
theorem tx_1 {b : Int32} (hb : okS b) : TXt (f_X8_add_draft b) (f_X12_letters b) [b] := ⟨fun x hx => by rw [List.mem_singleton.mp hx]; exact hb, fun σ τ ⟨ρ, h1, h2⟩ => by cases h2; exact h1, fun μ ν ⟨ρ, h1, h2⟩ => by cases h2; exact h1⟩
/-- the digits of a number -/
theorem tx_dg {v : Nat} (hv : v < 2 ^ 31) : ∀ (m w : Nat), w < 10 ^ m → w < 2 ^ 31 → ∃ L, (∀ b, b ∈ L → okS b) ∧ (∀ N, m < N → ∀ σ τ, LWc L σ τ → f_X8_addNumber_draft_L29 N (nI v) (nI w) σ = some ((), τ)) ∧ ∀ N, m < N → ∀ μ ν, LWm L μ ν → f_X12_digits_L20 N (nI v) (nI w) μ = some ((), ν) := by
  intro m
  induction m with
  | zero =>
    intro w hw h31
    obtain rfl : w = 0 := by omega
    refine ⟨[], fun b hb => absurd hb (List.not_mem_nil), fun N hN σ τ h => ?_, fun N hN μ ν h => ?_⟩
    · obtain ⟨N, rfl⟩ : ∃ n, N = n + 1 := ⟨N - 1, by omega⟩
      cases h
      rfl
    · obtain ⟨N, rfl⟩ : ∃ n, N = n + 1 := ⟨N - 1, by omega⟩
      cases h
      rfl
  | succ m ih =>
    intro w hw h31
    by_cases hw0 : w = 0
    · subst hw0
      refine ⟨[], fun b hb => absurd hb (List.not_mem_nil), fun N hN σ τ h => ?_, fun N hN μ ν h => ?_⟩
      · obtain ⟨N, rfl⟩ : ∃ n, N = n + 1 := ⟨N - 1, by omega⟩
        cases h
        rfl
      · obtain ⟨N, rfl⟩ : ∃ n, N = n + 1 := ⟨N - 1, by omega⟩
        cases h
        rfl
    · have hn0 : ¬ nI w ≤ 0 := fun z => by have := (nI_le31 (a := w) (b := 0) h31 (by omega)).mp z; omega
      have hne : ¬ nI w = 0 := fun z => hn0 (by rw [z]; exact Int32.le_refl _)
      have hd : v / w < 2 ^ 31 := Nat.lt_of_le_of_lt (Nat.div_le_self v w) hv
      have e1 : 48 + (nI v / nI w - nI v / nI w / 10 * 10) = nI (48 + (v / w) % 10) := by
        rw [nI_dv hv h31]
        exact dg_ok _ hd
      have e2 : nI w / 10 = nI (w / 10) := nI_dv (b := 10) h31 (by decide)
      have hp : 10 ^ (m + 1) = 10 * 10 ^ m := by rw [Nat.pow_succ, Nat.mul_comm]
      obtain ⟨L, a1, a2, a3⟩ := ih (w / 10) (by omega) (by omega)
      refine ⟨nI (48 + (v / w) % 10) :: L, fun b hb => ?_, fun N hN σ τ ⟨ρ, h1, h2⟩ => ?_, fun N hN μ ν ⟨ρ, h1, h2⟩ => ?_⟩
      · rcases List.mem_cons.mp hb with w' | w'
        · rw [w']
          exact okS_d (by omega)
        · exact a1 b w'
      · obtain ⟨N, rfl⟩ : ∃ n, N = n + 1 := ⟨N - 1, by omega⟩
        show f_X8_addNumber_draft_B29 _ _ _ _ = _
        unfold f_X8_addNumber_draft_B29 gz
        rw [if_neg hn0, if_neg hne, e1, h1, bd_of, e2]
        exact a2 N (by omega) _ _ h2
      · obtain ⟨N, rfl⟩ : ∃ n, N = n + 1 := ⟨N - 1, by omega⟩
        show f_X12_digits_B20 _ _ _ _ = _
        unfold f_X12_digits_B20 gz
        rw [if_neg hn0, if_neg hne, e1, h1, bd_of, e2]
        exact a3 N (by omega) _ _ h2
/-- a number is one and the same text -/
theorem tx_nm {v : Nat} (hv : v < 2 ^ 31) : ∃ L, TXt (f_X8_addNumber_draft (nI v)) (f_X12_digits (nI v)) L := by
  have hb := FU_big (n := 5000) (by decide)
  have key : ∀ (m j : Nat), j + m = 9 → ∃ L, (∀ b, b ∈ L → okS b) ∧ (∀ N, m < N → ∀ σ τ, LWc L σ τ → f_X8_addNumber_draft_L4 N (nI v) (nI (10 ^ j)) (nI j) σ = some ((), τ)) ∧ ∀ N, m < N → ∀ μ ν, LWm L μ ν → f_X12_digits_L2 N (nI v) (nI (10 ^ j)) μ = some ((), ν) := by
    intro m
    induction m with
    | zero =>
      intro j hj
      obtain rfl : j = 9 := by omega
      obtain ⟨L, a1, a2, a3⟩ := tx_dg hv 10 (10 ^ 9) (by decide) (by decide)
      refine ⟨L, a1, fun N hN σ τ h => ?_, fun N hN μ ν h => ?_⟩
      · obtain ⟨N, rfl⟩ : ∃ n, N = n + 1 := ⟨N - 1, by omega⟩
        show f_X8_addNumber_draft_B4 _ _ _ _ _ = _
        unfold f_X8_addNumber_draft_B4
        rw [if_pos (by decide)]
        exact a2 FU (by omega) _ _ h
      · obtain ⟨N, rfl⟩ : ∃ n, N = n + 1 := ⟨N - 1, by omega⟩
        show f_X12_digits_B2 _ _ _ _ = _
        unfold f_X12_digits_B2 gz
        rw [if_neg (by decide), nI_dv hv (by decide), if_pos (show nI (v / 10 ^ 9) ≤ 9 from (nI_le31 (b := 9) (by omega) (by omega)).mpr (by omega))]
        exact a3 FU (by omega) _ _ h
    | succ m ih =>
      intro j hj
      have hp : 10 ^ j ≤ 10 ^ 8 := Nat.pow_le_pow_right (by decide) (by omega)
      have hp0 : 0 < 10 ^ j := Nat.pos_of_ne_zero (by have := Nat.pow_le_pow_right (n := 10) (by decide) (Nat.zero_le j); omega)
      have h31 : 10 ^ j < 2 ^ 31 := by omega
      have hne : ¬ nI (10 ^ j) = 0 := fun z => by
        have := congrArg Int32.toNatClampNeg z
        rw [nI_clamp h31] at this
        have e : (0 : Int32).toNatClampNeg = 0 := rfl
        omega
      have h9 : ¬ (9 : Int32) ≤ nI j := fun w => by have := (nI_le31 (a := 9) (b := j) (by omega) (by omega)).mp w; omega
      have hd : v / 10 ^ j < 2 ^ 31 := Nat.lt_of_le_of_lt (Nat.div_le_self _ _) hv
      have hc : ∀ N σ, f_X8_addNumber_draft_L4 (N + 1) (nI v) (nI (10 ^ j)) (nI j) σ = if nI (v / 10 ^ j) < 10 then f_X8_addNumber_draft_L29 FU (nI v) (nI (10 ^ j)) σ else f_X8_addNumber_draft_L4 N (nI v) (nI (10 ^ (j + 1))) (nI (j + 1)) σ := fun N σ => by
        show f_X8_addNumber_draft_B4 _ _ _ _ _ = _
        unfold f_X8_addNumber_draft_B4 gz
        rw [if_neg h9, if_neg hne, nI_dv hv h31, nI_add1, show nI (10 ^ j) * 10 = nI (10 ^ (j + 1)) from nI_mu (10 ^ j) 10]
      have hm : ∀ N μ, f_X12_digits_L2 (N + 1) (nI v) (nI (10 ^ j)) μ = if nI (v / 10 ^ j) ≤ 9 then f_X12_digits_L20 FU (nI v) (nI (10 ^ j)) μ else f_X12_digits_L2 N (nI v) (nI (10 ^ (j + 1))) μ := fun N μ => by
        show f_X12_digits_B2 _ _ _ _ = _
        unfold f_X12_digits_B2 gz
        rw [if_neg hne, nI_dv hv h31, show nI (10 ^ j) * 10 = nI (10 ^ (j + 1)) from nI_mu (10 ^ j) 10]
      by_cases hl : v / 10 ^ j < 10
      · obtain ⟨L, a1, a2, a3⟩ := tx_dg hv 9 (10 ^ j) (by have e9 : (10 : Nat) ^ 9 = 1000000000 := rfl; have e8 : (10 : Nat) ^ 8 = 100000000 := rfl; omega) h31
        refine ⟨L, a1, fun N hN σ τ h => ?_, fun N hN μ ν h => ?_⟩
        · obtain ⟨N, rfl⟩ : ∃ n, N = n + 1 := ⟨N - 1, by omega⟩
          rw [hc, if_pos (show nI (v / 10 ^ j) < 10 from (nI_lt31 (b := 10) (by omega) (by omega)).mpr hl)]
          exact a2 FU (by omega) _ _ h
        · obtain ⟨N, rfl⟩ : ∃ n, N = n + 1 := ⟨N - 1, by omega⟩
          rw [hm, if_pos (show nI (v / 10 ^ j) ≤ 9 from (nI_le31 (b := 9) (by omega) (by omega)).mpr (by omega))]
          exact a3 FU (by omega) _ _ h
      · obtain ⟨L, a1, a2, a3⟩ := ih (j + 1) (by omega)
        refine ⟨L, a1, fun N hN σ τ h => ?_, fun N hN μ ν h => ?_⟩
        · obtain ⟨N, rfl⟩ : ∃ n, N = n + 1 := ⟨N - 1, by omega⟩
          rw [hc, if_neg (show ¬ nI (v / 10 ^ j) < 10 from fun w => hl ((nI_lt31 (b := 10) (by omega) (by omega)).mp w))]
          exact a2 N (by omega) _ _ h
        · obtain ⟨N, rfl⟩ : ∃ n, N = n + 1 := ⟨N - 1, by omega⟩
          rw [hm, if_neg (show ¬ nI (v / 10 ^ j) ≤ 9 from fun w => by have := (nI_le31 (b := 9) (by omega) (by omega)).mp w; omega)]
          exact a3 N (by omega) _ _ h
  obtain ⟨L, a1, a2, a3⟩ := key 9 0 rfl
  have e1 : nI (10 ^ 0) = 1 := rfl
  have e0 : nI 0 = 0 := rfl
  refine ⟨L, a1, fun σ τ h => ?_, fun μ ν h => ?_⟩
  · have := a2 FU (by omega) σ τ h
    rw [e1, e0] at this
    unfold f_X8_addNumber_draft
    exact this
  · have := a3 FU (by omega) μ ν h
    rw [e1] at this
    unfold f_X12_digits
    exact this
