theorem nI_toI {a : Nat} (h : a < 2 ^ 31) : (nI a).toInt = a := by
  have h1 := i_nat (i_le0 (nI_nneg h))
  rw [nI_clamp h] at h1
  exact h1.symm
theorem nI_dv {a b : Nat} (ha : a < 2 ^ 31) (hb : b < 2 ^ 31) : nI a / nI b = nI (a / b) := by
  apply Int32.toInt_inj.mp
  have hd : a / b < 2 ^ 31 := Nat.lt_of_le_of_lt (Nat.div_le_self a b) ha
  rw [Int32.toInt_div_of_ne_left, nI_toI ha, nI_toI hb, nI_toI hd]
  · rfl
  · intro h
    have := congrArg Int32.toInt h
    rw [nI_toI ha] at this
    have e : Int32.minValue.toInt = -2147483648 := rfl
    omega
theorem nI_mu (a b : Nat) : nI a * nI b = nI (a * b) := by
  unfold nI
  rw [Int32.ofNat_mul]
theorem dg_ok (n : Nat) (hn : n < 2 ^ 31) : 48 + (nI n - nI n / 10 * 10) = nI (48 + n % 10) := by
  rw [show (10 : Int32) = nI 10 from rfl, nI_dv hn (by decide), nI_mu, nI_sub (by omega), show (48 : Int32) = nI 48 from rfl, nI_plus, show n - n / 10 * 10 = n % 10 by omega]
theorem okS_d {n : Nat} (h : n < 10) : okS (nI (48 + n)) := by
  have key : ∀ n, n < 10 → (32 ≤ nI (48 + n) ∧ nI (48 + n) ≤ 126) := by decide
  exact Or.inr (key n h)
/-- the digits of a number -/
theorem wr_dg {v : Nat} (hv : v < 2 ^ 31) : ∀ (m w N N' : Nat) (σ μ : S5), w < 10 ^ m → w < 2 ^ 31 → m < N → m < N' → WR σ μ → ∃ τ ν, f_X8_addNumber_draft_L29 N (nI v) (nI w) σ = some ((), τ) ∧ f_X12_digits_L20 N' (nI v) (nI w) μ = some ((), ν) ∧ WR τ ν ∧ FrWc σ τ ∧ FrWm μ ν ∧ gA ν 28 = gA μ 28 ∧ gA ν 29 = gA μ 29 := by
  intro m
  induction m with
  | zero =>
    intro w N N' σ μ hw h31 hN hN' h
    obtain ⟨N, rfl⟩ : ∃ n, N = n + 1 := ⟨N - 1, by omega⟩
    obtain ⟨N', rfl⟩ : ∃ n, N' = n + 1 := ⟨N' - 1, by omega⟩
    obtain rfl : w = 0 := by omega
    exact ⟨σ, μ, rfl, rfl, h, FrWc.rf σ, FrWm.rf μ, rfl, rfl⟩
  | succ m ih =>
    intro w N N' σ μ hw h31 hN hN' h
    obtain ⟨N, rfl⟩ : ∃ n, N = n + 1 := ⟨N - 1, by omega⟩
    obtain ⟨N', rfl⟩ : ∃ n, N' = n + 1 := ⟨N' - 1, by omega⟩
    by_cases hw0 : w = 0
    · subst hw0
      exact ⟨σ, μ, rfl, rfl, h, FrWc.rf σ, FrWm.rf μ, rfl, rfl⟩
    · have hn0 : ¬ nI w ≤ 0 := fun z => by have := (nI_le31 (a := w) (b := 0) h31 (by omega)).mp z; omega
      have hne : ¬ nI w = 0 := fun z => hn0 (by rw [z]; exact Int32.le_refl _)
      have hd : v / w < 2 ^ 31 := Nat.lt_of_le_of_lt (Nat.div_le_self v w) hv
      have e1 : 48 + (nI v / nI w - nI v / nI w / 10 * 10) = nI (48 + (v / w) % 10) := by
        rw [nI_dv hv h31]
        exact dg_ok _ hd
      have e2 : nI w / 10 = nI (w / 10) := nI_dv (b := 10) h31 (by decide)
      obtain ⟨τ, ν, a1, a2, a3, a4, a5, a6, a7⟩ := wr_1 h (okS_d (n := (v / w) % 10) (by omega))
      have hp : 10 ^ (m + 1) = 10 * 10 ^ m := by rw [Nat.pow_succ, Nat.mul_comm]
      obtain ⟨τ', ν', b1, b2, b3, b4, b5, b6, b7⟩ := ih (w / 10) N N' τ ν (by omega) (by omega) (by omega) (by omega) a3
      refine ⟨τ', ν', ?_, ?_, b3, a4.tr b4, a5.tr b5, b6.trans a6, b7.trans a7⟩
      · show f_X8_addNumber_draft_B29 _ _ _ _ = _
        unfold f_X8_addNumber_draft_B29 gz
        rw [if_neg hn0, if_neg hne, e1, a1, bd_of, e2]
        exact b1
      · show f_X12_digits_B20 _ _ _ _ = _
        unfold f_X12_digits_B20 gz
        rw [if_neg hn0, if_neg hne, e1, a2, bd_of, e2]
        exact b2
/-- a number is written -/
theorem wr_nm {v : Nat} (hv : v < 2 ^ 31) {σ μ : S5} (h : WR σ μ) : ∃ τ ν, f_X8_addNumber_draft (nI v) σ = some ((), τ) ∧ f_X12_digits (nI v) μ = some ((), ν) ∧ WR τ ν ∧ FrWc σ τ ∧ FrWm μ ν ∧ gA ν 28 = gA μ 28 ∧ gA ν 29 = gA μ 29 := by
  have hb := FU_big (n := 5000) (by decide)
  have key : ∀ (m j N N' : Nat), j + m = 9 → m < N → m < N' → ∃ τ ν, f_X8_addNumber_draft_L4 N (nI v) (nI (10 ^ j)) (nI j) σ = some ((), τ) ∧ f_X12_digits_L2 N' (nI v) (nI (10 ^ j)) μ = some ((), ν) ∧ WR τ ν ∧ FrWc σ τ ∧ FrWm μ ν ∧ gA ν 28 = gA μ 28 ∧ gA ν 29 = gA μ 29 := by
    intro m
    induction m with
    | zero =>
      intro j N N' hj hN hN'
      obtain ⟨N, rfl⟩ : ∃ n, N = n + 1 := ⟨N - 1, by omega⟩
      obtain ⟨N', rfl⟩ : ∃ n, N' = n + 1 := ⟨N' - 1, by omega⟩
      obtain rfl : j = 9 := by omega
      obtain ⟨τ, ν, a1, a2, a3⟩ := wr_dg hv 10 (10 ^ 9) FU FU σ μ (by decide) (by decide) (by omega) (by omega) h
      refine ⟨τ, ν, ?_, ?_, a3⟩
      · show f_X8_addNumber_draft_B4 _ _ _ _ _ = _
        unfold f_X8_addNumber_draft_B4
        rw [if_pos (by decide)]
        exact a1
      · show f_X12_digits_B2 _ _ _ _ = _
        unfold f_X12_digits_B2 gz
        rw [if_neg (by decide), nI_dv hv (by decide), if_pos (show nI (v / 10 ^ 9) ≤ 9 from (nI_le31 (b := 9) (by omega) (by omega)).mpr (by omega))]
        exact a2
    | succ m ih =>
      intro j N N' hj hN hN'
      obtain ⟨N, rfl⟩ : ∃ n, N = n + 1 := ⟨N - 1, by omega⟩
      obtain ⟨N', rfl⟩ : ∃ n, N' = n + 1 := ⟨N' - 1, by omega⟩
      have hp : 10 ^ j ≤ 10 ^ 8 := Nat.pow_le_pow_right (by decide) (by omega)
      have hp0 : 0 < 10 ^ j := Nat.pos_of_ne_zero (by have := Nat.pow_le_pow_right (n := 10) (by decide) (Nat.zero_le j); omega)
      have h31 : 10 ^ j < 2 ^ 31 := by omega
      have hne : ¬ nI (10 ^ j) = 0 := fun z => by
        have := congrArg Int32.toNatClampNeg z
        rw [nI_clamp h31] at this
        have e : (0 : Int32).toNatClampNeg = 0 := rfl
        omega
      have h9 : ¬ (9 : Int32) ≤ nI j := fun w => by have := (nI_le31 (a := 9) (b := j) (by omega) (by omega)).mp w; omega
      have hd : v / 10 ^ j < 2 ^ 31 := Nat.lt_of_le_of_lt (Nat.div_le_self _ _) hv
      have hc : f_X8_addNumber_draft_L4 (N + 1) (nI v) (nI (10 ^ j)) (nI j) σ = if nI (v / 10 ^ j) < 10 then f_X8_addNumber_draft_L29 FU (nI v) (nI (10 ^ j)) σ else f_X8_addNumber_draft_L4 N (nI v) (nI (10 ^ (j + 1))) (nI (j + 1)) σ := by
        show f_X8_addNumber_draft_B4 _ _ _ _ _ = _
        unfold f_X8_addNumber_draft_B4 gz
        rw [if_neg h9, if_neg hne, nI_dv hv h31, nI_add1, show nI (10 ^ j) * 10 = nI (10 ^ (j + 1)) from nI_mu (10 ^ j) 10]
      have hm : f_X12_digits_L2 (N' + 1) (nI v) (nI (10 ^ j)) μ = if nI (v / 10 ^ j) ≤ 9 then f_X12_digits_L20 FU (nI v) (nI (10 ^ j)) μ else f_X12_digits_L2 N' (nI v) (nI (10 ^ (j + 1))) μ := by
        show f_X12_digits_B2 _ _ _ _ = _
        unfold f_X12_digits_B2 gz
        rw [if_neg hne, nI_dv hv h31, show nI (10 ^ j) * 10 = nI (10 ^ (j + 1)) from nI_mu (10 ^ j) 10]
      rw [hc, hm]
      by_cases hl : v / 10 ^ j < 10
      · rw [if_pos (show nI (v / 10 ^ j) < 10 from (nI_lt31 (b := 10) (by omega) (by omega)).mpr hl), if_pos (show nI (v / 10 ^ j) ≤ 9 from (nI_le31 (b := 9) (by omega) (by omega)).mpr (by omega))]
        exact wr_dg hv 9 (10 ^ j) FU FU σ μ (by have e9 : (10 : Nat) ^ 9 = 1000000000 := rfl; have e8 : (10 : Nat) ^ 8 = 100000000 := rfl; omega) h31 (by omega) (by omega) h
      · rw [if_neg (show ¬ nI (v / 10 ^ j) < 10 from fun w => hl ((nI_lt31 (b := 10) (by omega) (by omega)).mp w)), if_neg (show ¬ nI (v / 10 ^ j) ≤ 9 from fun w => by have := (nI_le31 (b := 9) (by omega) (by omega)).mp w; omega)]
        exact ih (j + 1) N N' (by omega) (by omega) (by omega)
  obtain ⟨τ, ν, a1, a2, a3⟩ := key 9 0 FU FU rfl (by omega) (by omega)
  have e1 : nI (10 ^ 0) = 1 := rfl
  have e0 : nI 0 = 0 := rfl
  rw [e1, e0] at a1
  rw [e1] at a2
  exact ⟨τ, ν, by unfold f_X8_addNumber_draft; exact a1, by unfold f_X12_digits; exact a2, a3⟩
