/-- the class reads a name -/
theorem c_name {T : Nat → Int32} {n k0 : Nat} {σ : S5} (hn3 : n ≤ 3000) (hT : gA σ 0 = T) (hn : gI σ 0 = nI n) (hk : gI σ 16 = nI k0) (hk0 : k0 < n) :
    f_X10_readName (T k0) σ = f_X10_readName_b83 (T k0) (nI (nmT T (n - (k0 + 1)) (k0 + 1) - k0)) (pI (pJ σ 0 (nmV T k0 (nmT T (n - (k0 + 1)) (k0 + 1) - k0))) 16 (nI (nmT T (n - (k0 + 1)) (k0 + 1)))) := by
  unfold f_X10_readName
  obtain ⟨m, hm⟩ : ∃ m', FU = m' + 1 := ⟨FU - 1, by have := FU_big (n := 5000) (by decide); omega⟩
  have hm2 : n < m := by have := FU_big (n := 5000) (by decide); omega
  rw [hm]
  show f_X10_readName_B9 (f_X10_readName_L9 m) (T k0) 0 (T k0) (pJ σ 0 0) = _
  unfold f_X10_readName_B9
  rw [if_neg (show ¬ gI (pJ σ 0 0) 0 ≤ gI (pJ σ 0 0) 16 by show ¬ gI σ 0 ≤ gI σ 16; rw [hn, hk, nI_le31 (by omega) (by omega)]; omega), if_pos rfl]
  unfold f_X10_readName_b41
  have e1 : ((j_lshl (gJ (pJ σ 0 0) 0) 8) ||| ((T k0).toInt64)) = nmV T k0 (k0 + 1 - k0) := by
    rw [show k0 + 1 - k0 = 0 + 1 by omega]
    rfl
  have e2 : (gI (pJ σ 0 0) 16 + 1) = nI (k0 + 1) := by
    show gI σ 16 + 1 = nI (k0 + 1)
    rw [hk, nI_add1]
  rw [e1, e2, pJ_same, c_sg (σ := pI (pJ σ 0 (nmV T k0 (k0 + 1 - k0))) 16 (nI (k0 + 1))) (T := T) (n := n) (k := k0 + 1) hT hn hn3 (by omega), bd_of]
  have h := c_nameLoop (k0 := k0) hn3 (T k0) (n - (k0 + 1)) (k0 + 1) (pI (pJ σ 0 (nmV T k0 (k0 + 1 - k0))) 16 (nI (k0 + 1))) m hT hn rfl rfl (by omega) (by omega) (by omega)
  rw [show k0 + 1 - k0 = 1 by omega] at h ⊢
  rw [show (0 : Int32) + 1 = nI 1 by decide, h, pJ_pI, pJ_same, pI_same]
theorem c_b83 (v1 v2 : Int32) (σ : S5) : f_X10_readName_b83 v1 v2 σ = some ((), pI σ 17 (if v2 ≤ 8 then (if gr v1 = 0 then kwC (gJ σ 0) else 4) else 2)) := by
  unfold f_X10_readName_b83
  by_cases c1 : v2 ≤ 8
  · rw [if_pos c1, if_pos c1, c_gr, bd_of]
    by_cases c2 : gr v1 = 0
    · rw [if_pos c2, if_pos c2, c_kw, bd_of]
      rfl
    · rw [if_neg c2, if_neg c2]
      rfl
  · rw [if_neg c1, if_neg c1]
/-- the reference reads a name -/
theorem m_name {T : Nat → Int32} {n k0 : Nat} {μ : S5} (hn3 : n ≤ 3000) (v1 : Int32) (hT : gA μ 0 = T) (hn : gI μ 1 = nI n) (hk : gI μ 3 = nI k0) (h5 : gI μ 5 = nI k0) (hk0 : k0 < n) :
    f_X12_readName v1 μ = mEx v1 (nmV T k0 (min (nmT T (n - (k0 + 1)) (k0 + 1) - k0) 8)) (pI μ 3 (nI (nmT T (n - (k0 + 1)) (k0 + 1)))) := by
  unfold f_X12_readName
  obtain ⟨m, hm⟩ : ∃ m', FU = m' + 1 := ⟨FU - 1, by have := FU_big (n := 5000) (by decide); omega⟩
  have hm2 : n < m := by have := FU_big (n := 5000) (by decide); omega
  rw [hm]
  show f_X12_readName_B2 (f_X12_readName_L2 m) v1 0 μ = _
  have h1 : f_X12_readName_b41 (f_X12_readName_L2 m) v1 0 μ = mEx v1 (nmV T k0 (min (nmT T (n - (k0 + 1)) (k0 + 1) - k0) 8)) (pI μ 3 (nI (nmT T (n - (k0 + 1)) (k0 + 1)))) := by
    have h := m_name41 (k0 := k0) hn3 (f_X12_readName_L2 m) v1 hT hn hk h5 (Nat.le_refl _) hk0
    rw [show min (k0 - k0) 8 = 0 by omega] at h
    rw [show (0 : Int64) = nmV T k0 0 from rfl, h, m_nameLoop (k0 := k0) hn3 v1 (n - (k0 + 1)) (k0 + 1) (pI μ 3 (nI (k0 + 1))) m hT hn rfl h5 (by omega) (by omega) (by omega), pI_same]
  rw [m_nameB hn3 _ _ _ hT hn hk (by omega), if_pos (show gI μ 3 = gI μ 5 by rw [hk, h5]), h1, ite_self, ite_self]
theorem m_mEx {e k0 : Nat} (v1 : Int32) (z : Int64) {μ : S5} (h3 : gI μ 3 = nI e) (h5 : gI μ 5 = nI k0) (hk : k0 ≤ e) (he : e ≤ 3000) : mEx v1 z μ = some ((), pI (pJ μ 0 z) 4 (if e - k0 ≤ 8 then (if v1 = 0 then kwM z else 4) else 1)) := by
  unfold mEx
  rw [h3, h5, nI_sub hk]
  by_cases c1 : e - k0 ≤ 8
  · rw [if_pos (show nI (e - k0) ≤ (8 : Int32) from (nI_le31 (b := 8) (by omega) (by omega)).mpr c1), if_pos c1]
    by_cases c2 : v1 = 0
    · rw [if_pos c2, if_pos c2, m_kw, bd_of]
      rfl
    · rw [if_neg c2, if_neg c2]
      rfl
  · rw [if_neg (show ¬ nI (e - k0) ≤ (8 : Int32) from fun h => c1 ((nI_le31 (b := 8) (by omega) (by omega)).mp h)), if_neg c1]
    rfl
