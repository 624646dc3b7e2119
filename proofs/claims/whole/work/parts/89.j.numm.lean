theorem dg_val {z : Int32} (h : ¬ dg z = 0) : (z - 48).toInt64 = z.toInt64 - 48 := by
  have h1 : ¬ z < 48 := fun q => h (by unfold dg; rw [if_pos q])
  have h2 : ¬ 57 < z := fun q => h (by unfold dg; rw [if_neg h1, if_pos q])
  rw [Int32.lt_iff_toInt_lt] at h1 h2
  rw [show (48 : Int32).toInt = 48 from rfl] at h1
  rw [show (57 : Int32).toInt = 57 from rfl] at h2
  rcases (show z.toInt = 48 ∨ z.toInt = 49 ∨ z.toInt = 50 ∨ z.toInt = 51 ∨ z.toInt = 52 ∨ z.toInt = 53 ∨ z.toInt = 54 ∨ z.toInt = 55 ∨ z.toInt = 56 ∨ z.toInt = 57 by omega) with e | e | e | e | e | e | e | e | e | e
  · obtain rfl : z = 48 := Int32.toInt_inj.mp e
    decide
  · obtain rfl : z = 49 := Int32.toInt_inj.mp e
    decide
  · obtain rfl : z = 50 := Int32.toInt_inj.mp e
    decide
  · obtain rfl : z = 51 := Int32.toInt_inj.mp e
    decide
  · obtain rfl : z = 52 := Int32.toInt_inj.mp e
    decide
  · obtain rfl : z = 53 := Int32.toInt_inj.mp e
    decide
  · obtain rfl : z = 54 := Int32.toInt_inj.mp e
    decide
  · obtain rfl : z = 55 := Int32.toInt_inj.mp e
    decide
  · obtain rfl : z = 56 := Int32.toInt_inj.mp e
    decide
  · obtain rfl : z = 57 := Int32.toInt_inj.mp e
    decide
theorem l_step (v w : Int64) : ((10 * v) + w) - 48 = (v * 10) + (w - 48) := by
  rw [Int64.mul_comm 10 v, Int64.sub_eq_add_neg, Int64.sub_eq_add_neg, Int64.add_assoc]
/-- what the reference does behind a number's last digit -/
def mEn (v1 : Int64) (μ : S5) : Option (Unit × S5) :=
  if 10 < ((gI μ 3) - (gI μ 5)) then
    (f_X12_readNumber_b90 (v1) μ)
  else
    (if (lg_cmp v1 2147483647) ≤ 0 then
      (f_X12_readNumber_b95 (v1) (2) μ)
    else
      (f_X12_readNumber_b90 (v1) μ))
theorem m_numLoop {T : Nat → Int32} {n k0 : Nat} (hn3 : n ≤ 3000) : ∀ (d k : Nat) (μ : S5) (m : Nat), gA μ 0 = T → gI μ 1 = nI n → gI μ 3 = nI k → gI μ 5 = nI k0 → k0 ≤ k → k + d = n → d < m →
    f_X12_readNumber_L2 m (nuV T k0 (min (k - k0) 10)) μ = mEn (nuV T k0 (min (nuT T d k - k0) 10)) (pI μ 3 (nI (nuT T d k))) := by
  intro d
  induction d with
  | zero =>
    intro k μ m hT hn hk h5 hk0 hkd hm
    obtain ⟨m, rfl⟩ : ∃ m', m = m' + 1 := ⟨m - 1, by omega⟩
    show f_X12_readNumber_B2 _ _ _ = _
    unfold f_X12_readNumber_B2
    rw [hk, m_sg (T := T) hT hn hn3 (by omega), bd_of, m_dg, bd_of, show sgM T n k = 0 from if_neg (by omega), if_pos (by decide), hk]
    show _ = mEn (nuV T k0 (min (k - k0) 10)) (pI μ 3 (nI k))
    rw [pI_self μ 3 hk]
    unfold mEn
    rw [hk]
  | succ d ih =>
    intro k μ m hT hn hk h5 hk0 hkd hm
    obtain ⟨m, rfl⟩ : ∃ m', m = m' + 1 := ⟨m - 1, by omega⟩
    have hs : sgM T n k = T k := if_pos (by omega)
    have nx : ∀ v : Int64, v = nuV T k0 (min (k + 1 - k0) 10) → f_X12_readNumber_b53 (f_X12_readNumber_L2 m) v μ = mEn (nuV T k0 (min (nuT T d (k + 1) - k0) 10)) (pI μ 3 (nI (nuT T d (k + 1)))) := by
      intro v hv
      subst hv
      unfold f_X12_readNumber_b53
      rw [hk, nI_add1, ih (k + 1) (pI μ 3 (nI (k + 1))) m hT hn rfl h5 (by omega) (by omega) (by omega), pI_same]
    show f_X12_readNumber_B2 _ _ _ = _
    unfold f_X12_readNumber_B2
    rw [hk, m_sg (T := T) hT hn hn3 (by omega), bd_of, m_dg, bd_of, hs]
    unfold nuT
    by_cases c1 : dg (T k) = 0
    · rw [if_pos c1, if_pos c1, pI_self μ 3 hk]
      rfl
    rw [if_neg c1, if_neg c1, hk, h5, nI_sub hk0]
    by_cases c2 : 10 ≤ k - k0
    · rw [if_pos (show (10 : Int32) ≤ nI (k - k0) from (nI_le31 (a := 10) (by omega) (by omega)).mpr c2)]
      exact nx _ (by rw [show min (k - k0) 10 = 10 by omega, show min (k + 1 - k0) 10 = 10 by omega])
    · rw [if_neg (show ¬ (10 : Int32) ≤ nI (k - k0) from fun h => c2 ((nI_le31 (a := 10) (by omega) (by omega)).mp h)), m_sg (T := T) hT hn hn3 (by omega), bd_of, hs]
      refine nx _ ?_
      rw [show min (k - k0) 10 = k - k0 by omega, show min (k + 1 - k0) 10 = (k - k0) + 1 by omega, l_step]
      show _ = (nuV T k0 (k - k0) * 10) + (T (k0 + (k - k0)) - 48).toInt64
      rw [show k0 + (k - k0) = k by omega, dg_val c1]
/-- the reference reads a number -/
theorem m_num {T : Nat → Int32} {n k0 : Nat} {μ : S5} (hn3 : n ≤ 3000) (hT : gA μ 0 = T) (hn : gI μ 1 = nI n) (hk : gI μ 3 = nI k0) (h5 : gI μ 5 = nI k0) (hk0 : k0 ≤ n) :
    f_X12_readNumber μ = mEn (nuV T k0 (min (nuT T (n - k0) k0 - k0) 10)) (pI μ 3 (nI (nuT T (n - k0) k0))) := by
  unfold f_X12_readNumber
  have h := m_numLoop (k0 := k0) hn3 (n - k0) k0 μ FU hT hn hk h5 (Nat.le_refl _) (by omega) (FU_big (by omega))
  rw [show min (k0 - k0) 10 = 0 by omega] at h
  exact h
