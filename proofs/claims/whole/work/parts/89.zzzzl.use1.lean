theorem div5 {s : Int32} {i : Nat} (h0 : 0 ≤ s) (h1 : s < 700) (hi : i ≤ 4) : (s * 5 + nI i) / 5 = s := by
  have hs := nI_tn h0
  have hl : s.toNatClampNeg < 700 := i_lt (n := 700) (fun w => by grind) h1
  generalize s.toNatClampNeg = a at hs hl
  subst hs
  rw [show nI a * 5 + nI i = nI (a * 5 + i) from by unfold nI; rw [Int32.ofNat_add, Int32.ofNat_mul]; rfl]
  apply Int32.toInt_inj.mp
  have e1 : (nI (a * 5 + i)).toInt = ((a * 5 + i : Nat) : Int) := by
    unfold nI
    exact Int32.toInt_ofNat_of_lt (by omega)
  have e2 : (nI a).toInt = ((a : Nat) : Int) := by
    unfold nI
    exact Int32.toInt_ofNat_of_lt (by omega)
  rw [Int32.toInt_div_of_ne_left, e1, e2]
  · rw [show (5 : Int32).toInt = 5 from rfl, Int.tdiv_eq_ediv_of_nonneg (by omega)]
    omega
  · intro w
    have := congrArg Int32.toInt w
    rw [e1, show Int32.minValue.toInt = -2147483648 from rfl] at this
    omega
/-- the class's rows stay as they were read -/
def Al (σ τ : S5) : Prop := (∀ x, xA τ 20 x = xA σ 20 x) ∧ (∀ x, xA τ 21 x = xA σ 21 x) ∧ (∀ x, xA τ 22 x = xA σ 22 x) ∧ (∀ x, xA τ 27 x = xA σ 27 x) ∧ gI τ 10 = gI σ 10
/-- the class goes on to the next use -/
theorem ff_neg {τ : S5} {u U : Nat} (h10 : gI τ 10 = nI U) (hu : u < U) (hU : U ≤ 600) (h30 : xA τ 30 (nI u) < 0) (m : Nat) : f_X2_findFree_L2 (m + 1) (nI u) τ = f_X2_findFree_L2 m (nI (u + 1)) τ := by
  show f_X2_findFree_B2 _ _ _ = _
  unfold f_X2_findFree_B2 f_X2_findFree_b49
  rw [h10, if_neg (fun w => by have := (nI_le31 (by omega) (by omega)).mp w; omega), gdn (by omega) (by omega), if_pos h30, nI_add1]
theorem ff_pos {τ τ' : S5} {u U : Nat} {h s y : Int32} {i : Nat} (h10 : gI τ 10 = nI U) (hu : u < U) (hU : U ≤ 600) (h30 : xA τ 30 (nI u) = y) (hy : y = s * 5 + nI i) (s0 : 0 ≤ s) (s1 : s < 700) (hi : i ≤ 4) (h27 : xA τ 27 (nI u) = h) (h0 : 0 ≤ h) (h1 : h < 700) (hp : f_X2_passThrough_L18 FU y (xA τ 22 s) (xA τ 22 h) 0 τ = some ((), τ')) (m : Nat) : f_X2_findFree_L2 (m + 1) (nI u) τ = f_X2_findFree_L2 m (nI (u + 1)) τ' := by
  have hr := s5_rg (i := i) s0 s1 hi
  have hd : y / 5 = s := by rw [hy]; exact div5 s0 s1 hi
  show f_X2_findFree_B2 _ _ _ = _
  unfold f_X2_findFree_B2 f_X2_findFree_b49 f_X2_passThrough
  rw [h10, if_neg (fun w => by have := (nI_le31 (by omega) (by omega)).mp w; omega), gdn (by omega) (by omega), h30, if_neg (by rw [hy]; grind), gdn (by omega) (by omega), h27, gd700 h0 h1, hd, gd700 s0 s1, hp, bd_of, nI_add1]
/-- the reference says what a use means -/
def mUs (μ : S5) (n a b : Int32) : S5 := pA (pA μ 8 n a) 7 n b
theorem use_var {μ : S5} {n x : Int32} {p : Nat} (hn0 : 0 ≤ n) (hn1 : n < 3200) (hp : p < 3200) (hx : xA μ 26 (nI p) = x) : f_X12_use_b33 n (nI p) μ = f_X12_use_L66 FU x (gI μ 25 - 1) (mUs μ n 1 x) := by
  unfold f_X12_use_b33 mUs
  rw [if_neg (nI_nneg (by omega)), gdn hp (by omega), gd3200 hn0 hn1, gd3200 hn0 hn1, hx]
theorem use_top {μ : S5} {n : Int32} {r k : Nat} (hn0 : 0 ≤ n) (hn1 : n < 3200) (h13 : gI μ 13 = nI k) (hr : r < k) (hk : k ≤ 30) : f_X12_use_b133 n (nI r) μ = some ((), mUs μ n 0 (nI r)) := by
  unfold f_X12_use_b133 mUs
  rw [gd3200 hn0 hn1, gd3200 hn0 hn1, h13, if_neg (fun w => by have := nI_inj (by omega) (by omega) w; omega)]
theorem use_none {μ : S5} {n : Int32} {k : Nat} (hn0 : 0 ≤ n) (hn1 : n < 3200) (h13 : gI μ 13 = nI k) : f_X12_use_b133 n (nI k) μ = some ((), if gI μ 7 = 0 then pI (pI (mUs μ n 0 (nI k)) 7 5) 8 (xA μ 6 n) else mUs μ n 0 (nI k)) := by
  unfold f_X12_use_b133
  rw [gd3200 hn0 hn1, gd3200 hn0 hn1, h13, if_pos rfl, gd3200 hn0 hn1]
  by_cases h7 : gI μ 7 = 0
  · rw [m_fail0 _ _ (show gI (pA (pA μ 8 n 0) 7 n (nI k)) 7 = 0 from h7), bd_of, if_pos h7]
    rfl
  · rw [m_failF _ _ (show ¬ gI (pA (pA μ 8 n 0) 7 n (nI k)) 7 = 0 from h7), bd_of, if_neg h7]
    rfl
