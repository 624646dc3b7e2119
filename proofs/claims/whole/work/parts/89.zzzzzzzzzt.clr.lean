/-- a row of the machine is emptied: the others stay -/
def FrRw (r : Nat) (σ σ' : S5) : Prop := (∀ j, gI σ' j = gI σ j) ∧ (∀ j, gJ σ' j = gJ σ j) ∧ (∀ j, ¬ j = r → gA σ' j = gA σ j) ∧ (∀ j, gB σ' j = gB σ j) ∧ σ'.2.2.2.2 = σ.2.2.2.2
theorem FrRw.put {r : Nat} {σ σ' : S5} (h : FrRw r σ σ') (i v : Int32) : FrRw r σ (pA σ' r i v) := ⟨h.1, h.2.1, fun j hj => (gA_pA_ne hj).trans (h.2.2.1 j hj), h.2.2.2.1, h.2.2.2.2⟩
theorem FrRw.rf (r : Nat) (σ : S5) : FrRw r σ σ := ⟨fun _ => rfl, fun _ => rfl, fun _ _ => rfl, fun _ => rfl, rfl⟩
theorem fc_L5 {σ : S5} : ∀ (m i N : Nat) (σi : S5), i + m = 10 → m < N → (FrRw 40 σ σi ∧ ∀ x, x < i → gA σi 40 x = 0) → ∃ σ', f_J7_fill_53178_mach_counts_L5 N 0 (nI i) 10 σi = some ((), σ') ∧ FrRw 40 σ σ' ∧ ∀ x, x < 10 → gA σ' 40 x = 0 := by
  intro m
  induction m with
  | zero =>
    intro i N σi hi hN h
    obtain ⟨N, rfl⟩ : ∃ n, N = n + 1 := ⟨N - 1, by omega⟩
    obtain rfl : i = 10 := by omega
    exact ⟨σi, rfl, h.1, h.2⟩
  | succ m ih =>
    intro i N σi hi hN h
    obtain ⟨N, rfl⟩ : ∃ n, N = n + 1 := ⟨N - 1, by omega⟩
    have st : f_J7_fill_53178_mach_counts_L5 (N + 1) 0 (nI i) 10 σi = f_J7_fill_53178_mach_counts_L5 N 0 (nI (i + 1)) 10 (pA σi 40 (nI i) 0) := by
      show f_J7_fill_53178_mach_counts_B5 _ _ _ _ _ = _
      unfold f_J7_fill_53178_mach_counts_B5
      rw [if_neg (fun w => by have := (nI_le31 (a := 10) (b := i) (by omega) (by omega)).mp w; omega), gdn (by omega) (by omega), nI_add1]
    rw [st]
    refine ih (i + 1) N _ (by omega) (by omega) ⟨h.1.put _ _, fun x hx => ?_⟩
    rw [gA_pA, nI_clamp (by omega)]
    by_cases e : x = i
    · rw [if_pos ⟨rfl, e⟩]
    · rw [if_neg (fun w => e w.2)]
      exact h.2 x (by omega)
theorem ft_L5 {σ : S5} : ∀ (m i N : Nat) (σi : S5), i + m = 630 → m < N → (FrRw 41 σ σi ∧ ∀ x, x < i → gA σi 41 x = 0) → ∃ σ', f_J7_fill_53178_mach_timesCalled_L5 N 0 (nI i) 630 σi = some ((), σ') ∧ FrRw 41 σ σ' ∧ ∀ x, x < 630 → gA σ' 41 x = 0 := by
  intro m
  induction m with
  | zero =>
    intro i N σi hi hN h
    obtain ⟨N, rfl⟩ : ∃ n, N = n + 1 := ⟨N - 1, by omega⟩
    obtain rfl : i = 630 := by omega
    refine ⟨σi, ?_, h.1, h.2⟩
    show f_J7_fill_53178_mach_timesCalled_B5 _ _ _ _ _ = _
    unfold f_J7_fill_53178_mach_timesCalled_B5
    rw [if_pos (by decide)]
  | succ m ih =>
    intro i N σi hi hN h
    obtain ⟨N, rfl⟩ : ∃ n, N = n + 1 := ⟨N - 1, by omega⟩
    have st : f_J7_fill_53178_mach_timesCalled_L5 (N + 1) 0 (nI i) 630 σi = f_J7_fill_53178_mach_timesCalled_L5 N 0 (nI (i + 1)) 630 (pA σi 41 (nI i) 0) := by
      show f_J7_fill_53178_mach_timesCalled_B5 _ _ _ _ _ = _
      unfold f_J7_fill_53178_mach_timesCalled_B5
      rw [if_neg (fun w => by have := (nI_le31 (a := 630) (b := i) (by omega) (by omega)).mp w; omega), gdn (by omega) (by omega), nI_add1]
    rw [st]
    refine ih (i + 1) N _ (by omega) (by omega) ⟨h.1.put _ _, fun x hx => ?_⟩
    rw [gA_pA, nI_clamp (by omega)]
    by_cases e : x = i
    · rw [if_pos ⟨rfl, e⟩]
    · rw [if_neg (fun w => e w.2)]
      exact h.2 x (by omega)
theorem fm_L52 {σ : S5} : ∀ (m i N : Nat) (σi : S5), i + m = 640 → m < N → (FrRw 57 σ σi ∧ ∀ x, x < i → gA σi 57 x = 0) → ∃ σ', f_X12_clearRun_L52 N (nI i) σi = some ((), σ') ∧ FrRw 57 σ σ' ∧ ∀ x, x < 640 → gA σ' 57 x = 0 := by
  intro m
  induction m with
  | zero =>
    intro i N σi hi hN h
    obtain ⟨N, rfl⟩ : ∃ n, N = n + 1 := ⟨N - 1, by omega⟩
    obtain rfl : i = 640 := by omega
    refine ⟨σi, ?_, h.1, h.2⟩
    show f_X12_clearRun_B52 _ _ _ = _
    unfold f_X12_clearRun_B52
    rw [if_pos (by decide)]
  | succ m ih =>
    intro i N σi hi hN h
    obtain ⟨N, rfl⟩ : ∃ n, N = n + 1 := ⟨N - 1, by omega⟩
    have st : f_X12_clearRun_L52 (N + 1) (nI i) σi = f_X12_clearRun_L52 N (nI (i + 1)) (pA σi 57 (nI i) 0) := by
      show f_X12_clearRun_B52 _ _ _ = _
      unfold f_X12_clearRun_B52
      rw [if_neg (fun w => by have := (nI_le31 (a := 640) (b := i) (by omega) (by omega)).mp w; omega), gdn (by omega) (by omega), nI_add1]
    rw [st]
    refine ih (i + 1) N _ (by omega) (by omega) ⟨h.1.put _ _, fun x hx => ?_⟩
    rw [gA_pA, nI_clamp (by omega)]
    by_cases e : x = i
    · rw [if_pos ⟨rfl, e⟩]
    · rw [if_neg (fun w => e w.2)]
      exact h.2 x (by omega)
/-- the machine forgets -/
theorem fo_go (σ : S5) : ∃ τ, f_X3_forget σ = some ((), τ) ∧ (∀ j, gI τ j = gI σ j) ∧ (∀ j, gJ τ j = gJ σ j) ∧ (∀ j, ¬ j = 40 → ¬ j = 41 → gA τ j = gA σ j) ∧ (∀ j, gB τ j = gB σ j) ∧ τ.2.2.2.2 = σ.2.2.2.2 ∧ (∀ x, x < 10 → gA τ 40 x = 0) ∧ ∀ x, x < 630 → gA τ 41 x = 0 := by
  have hb := FU_big (n := 5000) (by decide)
  obtain ⟨σ1, a1, a2, a3⟩ := fc_L5 (σ := σ) 10 0 FU σ rfl (by omega) ⟨FrRw.rf _ _, fun x hx => absurd hx (Nat.not_lt_zero x)⟩
  obtain ⟨σ2, b1, b2, b3⟩ := ft_L5 (σ := σ1) 630 0 FU σ1 rfl (by omega) ⟨FrRw.rf _ _, fun x hx => absurd hx (Nat.not_lt_zero x)⟩
  refine ⟨σ2, ?_, fun j => (b2.1 j).trans (a2.1 j), fun j => (b2.2.1 j).trans (a2.2.1 j), fun j h1 h2 => (b2.2.2.1 j h2).trans (a2.2.2.1 j h1), fun j => (b2.2.2.2.1 j).trans (a2.2.2.2.1 j), b2.2.2.2.2.trans a2.2.2.2.2, fun x hx => ?_, b3⟩
  · unfold f_X3_forget f_J7_fill_53178_mach_counts f_J7_fill_53178_mach_timesCalled
    rw [show (0 : Int32) = nI 0 from rfl] at *
    rw [a1, bd_of, b1, bd_of]
  · rw [b2.2.2.1 40 (by decide)]
    exact a3 x hx
/-- the other forgets -/
theorem cr_go (μ : S5) : ∃ ν, f_X12_clearRun μ = some ((), ν) ∧ (∀ j, gI ν j = if j = 44 ∨ j = 45 ∨ j = 38 ∨ j = 34 ∨ j = 39 ∨ j = 40 ∨ j = 41 ∨ j = 42 ∨ j = 43 ∨ j = 46 then 0 else gI μ j) ∧ (∀ j, gJ ν j = gJ μ j) ∧ (∀ j, ¬ j = 57 → gA ν j = gA μ j) ∧ (∀ j, gB ν j = gB μ j) ∧ ν.2.2.2.2 = μ.2.2.2.2 ∧ ∀ x, x < 640 → gA ν 57 x = 0 := by
  have hb := FU_big (n := 5000) (by decide)
  obtain ⟨σ1, a1, a2, a3⟩ := fm_L52 (σ := pI (pI (pI (pI (pI (pI (pI (pI (pI (pI μ 44 0) 45 0) 38 0) 34 0) 39 0) 40 0) 41 0) 42 0) 43 0) 46 0) 640 0 FU _ rfl (by omega) ⟨FrRw.rf _ _, fun x hx => absurd hx (Nat.not_lt_zero x)⟩
  refine ⟨σ1, a1, fun j => ?_, a2.2.1, a2.2.2.1, a2.2.2.2.1, a2.2.2.2.2, a3⟩
  rw [a2.1 j]
  simp only [gI_pI]
  split <;> rename_i h
  all_goals (repeat' split) <;> first | rfl | omega
