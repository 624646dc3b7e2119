theorem c_b79 (v1 : Int64) (v3 : Int32) (σ : S5) : f_X10_readNumber_b79 v1 v3 σ = some ((), if 10 < v3 then pI (pI σ 17 2) 19 0 else if 0 < lg_cmp v1 2147483647 then pI (pI σ 17 2) 19 0 else pI (pI σ 17 5) 19 v1.toInt32) := by
  have h0 : f_X10_readNumber_b97 v1 σ = some ((), pI (pI σ 17 2) 19 0) := by
    unfold f_X10_readNumber_b97 f_X10_readNumber_b98 f_X10_readNumber_b111 f_X10_readNumber_b126
    rw [if_pos rfl, if_pos rfl]
  have h1 : f_X10_readNumber_b98 v1 1 σ = some ((), pI (pI σ 17 5) 19 v1.toInt32) := by
    unfold f_X10_readNumber_b98 f_X10_readNumber_b111 f_X10_readNumber_b126
    rw [if_neg (by decide), if_neg (by decide)]
  unfold f_X10_readNumber_b79
  by_cases c1 : 10 < v3
  · rw [if_pos c1, if_pos c1, h0]
  rw [if_neg c1, if_neg c1]
  by_cases c2 : 0 < lg_cmp v1 2147483647
  · rw [if_pos c2, if_pos c2, h0]
  · rw [if_neg c2, if_neg c2, h1]
theorem m_mEn {e k0 : Nat} (v1 : Int64) {μ : S5} (h3 : gI μ 3 = nI e) (h5 : gI μ 5 = nI k0) (hk : k0 ≤ e) (he : e ≤ 3000) : mEn v1 μ = some ((), pI (pI μ 4 (if 10 < e - k0 then 1 else if lg_cmp v1 2147483647 ≤ 0 then 2 else 1)) 6 v1.toInt32) := by
  unfold mEn
  rw [h3, h5, nI_sub hk]
  by_cases c1 : 10 < e - k0
  · rw [if_pos (show (10 : Int32) < nI (e - k0) from (nI_lt31 (a := 10) (by omega) (by omega)).mpr c1), if_pos c1]
    rfl
  rw [if_neg (show ¬ (10 : Int32) < nI (e - k0) from fun h => c1 ((nI_lt31 (a := 10) (by omega) (by omega)).mp h)), if_neg c1]
  by_cases c2 : lg_cmp v1 2147483647 ≤ 0
  · rw [if_pos c2, if_pos c2]
    rfl
  · rw [if_neg c2, if_neg c2]
    rfl
