theorem bd_of {α β : Type} (a : α) (σ : S5) (f : α → S5 → Option β) : bd (some (a, σ)) f = f a σ := rfl
theorem nI_sub {a b : Nat} (h : b ≤ a) : nI a - nI b = nI (a - b) := by
  have e : nI a = nI (a - b) + nI b := by
    show Int32.ofNat a = Int32.ofNat (a - b) + Int32.ofNat b
    rw [← Int32.ofNat_add, Nat.sub_add_cancel h]
  rw [e, Int32.add_sub_cancel]
/-- what the reference does behind a name's last sign -/
def mEx (v1 : Int32) (v2 : Int64) (μ : S5) : Option (Unit × S5) :=
  if ((gI μ 3) - (gI μ 5)) ≤ 8 then
    (if v1 = 0 then
      (bd (f_X12_keyword (v2) (pJ μ 0 v2)) (fun r120 τ120 => f_X12_readName_b123 (r120) τ120))
    else
      (f_X12_readName_b123 (4) (pJ μ 0 v2)))
  else
    (f_X12_readName_b123 (1) (pJ μ 0 v2))
/-- the reference's sign at a place: 0 behind the last -/
def sgM (T : Nat → Int32) (n k : Nat) : Int32 := if k < n then T k else 0
theorem m_sg {μ : S5} {T : Nat → Int32} {n k : Nat} (hT : gA μ 0 = T) (hn : gI μ 1 = nI n) (hn3 : n ≤ 3000) (hk : k ≤ 4000) : f_X12_sign (nI k) μ = some (sgM T n k, μ) := by
  unfold sgM
  by_cases h : k < n
  · rw [if_pos h, m_sign hn hn3 h, hT]
  · rw [if_neg h, m_sign_end hn (by omega) hk hn3]
theorem m_nameB {T : Nat → Int32} {n k : Nat} (hn3 : n ≤ 3000) (rc : Int32 → Int64 → S5 → Option (Unit × S5)) (v1 : Int32) (v2 : Int64) {μ : S5} (hT : gA μ 0 = T) (hn : gI μ 1 = nI n) (hk : gI μ 3 = nI k) (hk3 : k ≤ n) :
    f_X12_readName_B2 rc v1 v2 μ = if sm (sgM T n k) = 0 then (if dg (sgM T n k) = 0 then (if gI μ 3 = gI μ 5 then f_X12_readName_b41 rc v1 v2 μ else mEx v1 v2 μ) else f_X12_readName_b41 rc v1 v2 μ) else f_X12_readName_b41 rc v1 v2 μ := by
  unfold f_X12_readName_B2
  rw [hk, m_sg hT hn hn3 (by omega), bd_of, m_sm, bd_of]
  by_cases c1 : sm (sgM T n k) = 0
  · rw [if_pos c1, if_pos c1, hk, m_sg hT hn hn3 (by omega), bd_of, m_dg, bd_of]
    by_cases c2 : dg (sgM T n k) = 0
    · rw [if_pos c2, if_pos c2, hk]
      by_cases c3 : nI k = gI μ 5
      · rw [if_pos c3, if_pos c3]
      · rw [if_neg c3, if_neg c3]
        unfold mEx
        rw [hk]
    · rw [if_neg c2, if_neg c2]
  · rw [if_neg c1, if_neg c1]
theorem m_name41 {T : Nat → Int32} {n k k0 : Nat} (hn3 : n ≤ 3000) (rc : Int32 → Int64 → S5 → Option (Unit × S5)) (v1 : Int32) {μ : S5} (hT : gA μ 0 = T) (hn : gI μ 1 = nI n) (hk : gI μ 3 = nI k) (h5 : gI μ 5 = nI k0) (hk0 : k0 ≤ k) (hk3 : k < n) :
    f_X12_readName_b41 rc v1 (nmV T k0 (min (k - k0) 8)) μ = rc v1 (nmV T k0 (min (k + 1 - k0) 8)) (pI μ 3 (nI (k + 1))) := by
  unfold f_X12_readName_b41
  rw [hk, h5, nI_sub hk0]
  by_cases c1 : 8 ≤ k - k0
  · rw [if_pos (show (8 : Int32) ≤ nI (k - k0) from (nI_le31 (a := 8) (by omega) (by omega)).mpr c1), show min (k - k0) 8 = 8 by omega, show min (k + 1 - k0) 8 = 8 by omega]
    unfold f_X12_readName_b73
    rw [hk, nI_add1]
  · rw [if_neg (show ¬ (8 : Int32) ≤ nI (k - k0) from fun h => c1 ((nI_le31 (a := 8) (by omega) (by omega)).mp h)), m_sg hT hn hn3 (by omega), bd_of, show min (k - k0) 8 = k - k0 by omega, show min (k + 1 - k0) 8 = (k - k0) + 1 by omega]
    show f_X12_readName_b73 rc v1 ((j_lshl (nmV T k0 (k - k0)) 8) ||| (sgM T n k).toInt64) μ = rc v1 ((j_lshl (nmV T k0 (k - k0)) 8) ||| (T (k0 + (k - k0))).toInt64) _
    rw [show sgM T n k = T k from if_pos hk3, show k0 + (k - k0) = k by omega]
    unfold f_X12_readName_b73
    rw [hk, nI_add1]
theorem m_nameLoop {T : Nat → Int32} {n k0 : Nat} (hn3 : n ≤ 3000) (v1 : Int32) : ∀ (d k : Nat) (μ : S5) (m : Nat), gA μ 0 = T → gI μ 1 = nI n → gI μ 3 = nI k → gI μ 5 = nI k0 → k0 < k → k + d = n → d < m →
    f_X12_readName_L2 m v1 (nmV T k0 (min (k - k0) 8)) μ = mEx v1 (nmV T k0 (min (nmT T d k - k0) 8)) (pI μ 3 (nI (nmT T d k))) := by
  intro d
  induction d with
  | zero =>
    intro k μ m hT hn hk h5 hk0 hkd hm
    obtain ⟨m, rfl⟩ : ∃ m', m = m' + 1 := ⟨m - 1, by omega⟩
    show f_X12_readName_B2 _ _ _ _ = _
    rw [m_nameB hn3 _ _ _ hT hn hk (by omega), show sgM T n k = 0 from if_neg (by omega), if_pos (by decide), if_pos (by decide), if_neg (by rw [hk, h5, nI_eq (by omega) (by omega)]; omega)]
    show _ = mEx v1 (nmV T k0 (min (k - k0) 8)) (pI μ 3 (nI k))
    rw [pI_self μ 3 hk]
  | succ d ih =>
    intro k μ m hT hn hk h5 hk0 hkd hm
    obtain ⟨m, rfl⟩ : ∃ m', m = m' + 1 := ⟨m - 1, by omega⟩
    have step : f_X12_readName_b41 (f_X12_readName_L2 m) v1 (nmV T k0 (min (k - k0) 8)) μ = mEx v1 (nmV T k0 (min (nmT T d (k + 1) - k0) 8)) (pI μ 3 (nI (nmT T d (k + 1)))) := by
      rw [m_name41 hn3 _ _ hT hn hk h5 (by omega) (by omega), ih (k + 1) (pI μ 3 (nI (k + 1))) m hT hn rfl h5 (by omega) (by omega) (by omega), pI_same]
    show f_X12_readName_B2 _ _ _ _ = _
    rw [m_nameB hn3 _ _ _ hT hn hk (by omega), show sgM T n k = T k from if_pos (by omega)]
    unfold nmT
    by_cases c1 : sm (T k) = 0
    · rw [if_pos c1, if_pos c1]
      by_cases c2 : dg (T k) = 0
      · rw [if_pos c2, if_pos c2, if_neg (by rw [hk, h5, nI_eq (by omega) (by omega)]; omega), pI_self μ 3 hk]
      · rw [if_neg c2, if_neg c2, step]
    · rw [if_neg c1, if_neg c1, step]
