/-- the lowest bit goes -/
theorem low_b : ∀ (X : Nat), 0 < X → ∃ j, X.testBit j = true ∧ ∀ i, (X &&& (X - 1)).testBit i = (X.testBit i && decide (¬ i = j)) := by
  intro X
  induction X using Nat.strongRecOn with
  | _ X ih =>
    intro h0
    by_cases h : X % 2 = 1
    · refine ⟨0, by rw [Nat.testBit_zero, decide_eq_true h], fun i => ?_⟩
      rw [Nat.testBit_and]
      cases i with
      | zero =>
        rw [Nat.testBit_zero (X - 1), decide_eq_false (show ¬ (X - 1) % 2 = 1 by omega), decide_eq_false (show ¬ ¬ (0 : Nat) = 0 by omega)]
      | succ i =>
        rw [Nat.testBit_succ, Nat.testBit_succ, show (X - 1) / 2 = X / 2 by omega, decide_eq_true (show ¬ i + 1 = 0 by omega), Bool.and_self, Bool.and_true]
    · obtain ⟨j, h1, h2⟩ := ih (X / 2) (by omega) (by omega)
      refine ⟨j + 1, by rw [Nat.testBit_succ]; exact h1, fun i => ?_⟩
      rw [Nat.testBit_and]
      cases i with
      | zero =>
        rw [Nat.testBit_zero X, decide_eq_false h, Bool.false_and, Bool.false_and]
      | succ i =>
        have := h2 i
        rw [Nat.testBit_and] at this
        rw [Nat.testBit_succ, Nat.testBit_succ, show (X - 1) / 2 = X / 2 - 1 by omega, this]
        congr 1
        by_cases hij : i = j
        · rw [decide_eq_false (show ¬ ¬ i = j from fun w => w hij), decide_eq_false (show ¬ ¬ i + 1 = j + 1 by omega)]
        · rw [decide_eq_true hij, decide_eq_true (show ¬ i + 1 = j + 1 by omega)]
theorem pcn_low {X Y j : Nat} (h1 : X.testBit j = true) (h2 : ∀ i, Y.testBit i = (X.testBit i && decide (¬ i = j))) : ∀ m, pcn X m = pcn Y m + if j < m then 1 else 0
  | 0 => by rw [if_neg (Nat.not_lt_zero j)]; rfl
  | m + 1 => by
    show pcn X m + (X.testBit m).toNat = pcn Y m + (Y.testBit m).toNat + _
    rw [pcn_low h1 h2 m, h2 m]
    by_cases hm : m = j
    · subst hm
      rw [h1, decide_eq_false (show ¬ ¬ m = m from fun w => w rfl), if_neg (Nat.lt_irrefl m), if_pos (Nat.lt_succ_self m)]
      rfl
    · rw [decide_eq_true hm, Bool.and_true]
      by_cases hjm : j < m
      · rw [if_pos hjm, if_pos (show j < m + 1 by omega)]
        omega
      · rw [if_neg hjm, if_neg (show ¬ j < m + 1 by omega)]
        omega
theorem pcn_and {X : Nat} (h0 : 0 < X) {m : Nat} (hX : X < 2 ^ m) : pcn X m = pcn (X &&& (X - 1)) m + 1 := by
  obtain ⟨j, h1, h2⟩ := low_b X h0
  have hj : j < m := by
    by_cases h : j < m
    · exact h
    · rw [tb0 hX (by omega)] at h1
      exact absurd h1 (by decide)
  rw [pcn_low h1 h2 m, if_pos hj]
theorem i64n_0 {a : Int64} (h : i64n a = 0) : a = 0 := Int64.toBitVec_inj.mp (BitVec.eq_of_toNat_eq h)
/-- THE BITS ARE COUNTED, on the other side -/
theorem on_l : ∀ (m N v : Nat) (a : Int64) (μ : S5), pcn (i64n a) 40 = m → i64n a < 2 ^ 40 → m < N → f_X12_ones_L4 N (nI v) a μ = some (nI (v + m), μ) := by
  intro m
  induction m with
  | zero =>
    intro N v a μ hm hX hN
    obtain ⟨N, rfl⟩ : ∃ n, N = n + 1 := ⟨N - 1, by omega⟩
    have h0 : i64n a = 0 := by
      by_cases h : 0 < i64n a
      · have := pcn_and h hX
        omega
      · omega
    show f_X12_ones_B4 _ _ _ _ = _
    unfold f_X12_ones_B4
    rw [if_pos ((lg_cmp_eq _ _).mpr (i64n_0 h0))]
    rfl
  | succ m ih =>
    intro N v a μ hm hX hN
    obtain ⟨N, rfl⟩ : ∃ n, N = n + 1 := ⟨N - 1, by omega⟩
    have h0 : 0 < i64n a := by
      by_cases h : 0 < i64n a
      · exact h
      · have h' : i64n a = 0 := by omega
        rw [h'] at hm
        have : pcn 0 40 = 0 := by decide
        omega
    have ha : ¬ a = 0 := fun w => by
      rw [w] at h0
      exact absurd h0 (by decide)
    have e1 : i64n (a &&& (a - 1)) = i64n a &&& (i64n a - 1) := by
      rw [i64n_and, i64n_sub (show i64n 1 ≤ i64n a from h0)]
      rfl
    have hle : i64n a &&& (i64n a - 1) ≤ i64n a := Nat.and_le_left
    have hp := pcn_and h0 hX
    show f_X12_ones_B4 _ _ _ _ = _
    unfold f_X12_ones_B4
    rw [if_neg (fun w => ha ((lg_cmp_eq _ _).mp w)), nI_add1, ih N (v + 1) (a &&& (a - 1)) μ (by rw [e1]; omega) (by rw [e1]; omega) (by omega), show v + 1 + m = v + (m + 1) by omega]
theorem on_go {a : Int64} (hX : i64n a < 2 ^ 40) (μ : S5) : f_X12_ones a μ = some (nI (pcn (i64n a) 40), μ) := by
  have hb := FU_big (n := 5000) (by decide)
  have hl := pcn_le (X := i64n a) 40
  have := on_l (pcn (i64n a) 40) FU 0 a μ rfl hX (by omega)
  rw [Nat.zero_add] at this
  unfold f_X12_ones
  exact this
/-- a variable is used -/
def ub (a : Int64) (x : Nat) : Bool := (i64n a).testBit x
theorem ub_c {a : Int64} {x : Nat} (hx : x < 64) : ((j_lushr a (nI x)) &&& 1) = if ub a x then 1 else 0 := i64_ext (fun j hj => by
  rw [Int64.toBitVec_and, BitVec.getLsbD_and, ush_b _ hx]
  have h1 : (1 : Int64).toBitVec.getLsbD j = decide (j = 0) := by
    have key : ∀ j, j < 64 → (1 : Int64).toBitVec.getLsbD j = decide (j = 0) := by decide
    exact key j hj
  rw [h1]
  have hz : (0 : Int64).toBitVec.getLsbD j = false := by rw [show (0 : Int64).toBitVec = 0#64 from rfl, BitVec.getLsbD_zero]
  by_cases h : j = 0
  · subst h
    rw [decide_eq_true rfl, Bool.and_true, Nat.add_zero]
    by_cases hu : ub a x = true
    · rw [if_pos hu, h1]
      exact hu
    · rw [if_neg hu, hz]
      exact Bool.eq_false_iff.mpr hu
  · rw [decide_eq_false h, Bool.and_false]
    by_cases hu : ub a x = true
    · rw [if_pos hu, h1, decide_eq_false h]
    · rw [if_neg hu, hz])
theorem ub_m {a : Int64} {x : Nat} (hx : x < 64) : ((j_lshr a (nI x)) &&& 1) = if ub a x then 1 else 0 := i64_ext (fun j hj => by
  rw [Int64.toBitVec_and, BitVec.getLsbD_and]
  have h1 : (1 : Int64).toBitVec.getLsbD j = decide (j = 0) := by
    have key : ∀ j, j < 64 → (1 : Int64).toBitVec.getLsbD j = decide (j = 0) := by decide
    exact key j hj
  rw [h1]
  have hz : (0 : Int64).toBitVec.getLsbD j = false := by rw [show (0 : Int64).toBitVec = 0#64 from rfl, BitVec.getLsbD_zero]
  by_cases h : j = 0
  · subst h
    rw [ssh_b _ hx (by omega), decide_eq_true rfl, Bool.and_true, Nat.add_zero]
    by_cases hu : ub a x = true
    · rw [if_pos hu, h1]
      exact hu
    · rw [if_neg hu, hz]
      exact Bool.eq_false_iff.mpr hu
  · rw [decide_eq_false h, Bool.and_false]
    by_cases hu : ub a x = true
    · rw [if_pos hu, h1, decide_eq_false h]
    · rw [if_neg hu, hz])
