/-- where a number's digits end -/
def nuT (T : Nat → Int32) : Nat → Nat → Nat
  | 0, k => k
  | d + 1, k => if dg (T k) = 0 then k else nuT T d (k + 1)
/-- what the first j digits from place k on say -/
def nuV (T : Nat → Int32) (k : Nat) : Nat → Int64
  | 0 => 0
  | j + 1 => (nuV T k j * 10) + (T (k + j) - 48).toInt64
theorem nuT_le (T : Nat → Int32) : ∀ (d k : Nat), k ≤ nuT T d k ∧ nuT T d k ≤ k + d
  | 0, k => ⟨Nat.le_refl _, Nat.le_refl _⟩
  | d + 1, k => by
    unfold nuT
    have h := nuT_le T d (k + 1)
    split <;> omega
theorem c_numLoop {T : Nat → Int32} {n k0 : Nat} (hn3 : n ≤ 3000) : ∀ (d k : Nat) (σ : S5) (m : Nat), gA σ 0 = T → gI σ 0 = nI n → gI σ 16 = nI k → k0 ≤ k → k + d = n → d < m →
    f_X10_readNumber_L4 m (nuV T k0 (min (k - k0) 10)) (nI (k - k0)) σ = f_X10_readNumber_b79 (nuV T k0 (min (nuT T d k - k0) 10)) (nI (nuT T d k - k0)) (pI σ 16 (nI (nuT T d k))) := by
  intro d
  induction d with
  | zero =>
    intro k σ m hT hn hk hk0 hkd hm
    obtain ⟨m, rfl⟩ : ∃ m', m = m' + 1 := ⟨m - 1, by omega⟩
    show f_X10_readNumber_B4 _ _ _ _ = _
    unfold f_X10_readNumber_B4
    rw [if_pos (by rw [hn, hk, nI_le31 (by omega) (by omega)]; omega)]
    show _ = f_X10_readNumber_b79 (nuV T k0 (min (k - k0) 10)) (nI (k - k0)) (pI σ 16 (nI k))
    rw [pI_self σ 16 hk]
  | succ d ih =>
    intro k σ m hT hn hk hk0 hkd hm
    obtain ⟨m, rfl⟩ : ∃ m', m = m' + 1 := ⟨m - 1, by omega⟩
    have hs : sgC T n k = T k := if_pos (by omega)
    have nx : ∀ v : Int64, v = nuV T k0 (min (k + 1 - k0) 10) → f_X10_readNumber_b66 (f_X10_readNumber_L4 m) v (nI (k + 1 - k0)) σ = f_X10_readNumber_b79 (nuV T k0 (min (nuT T d (k + 1) - k0) 10)) (nI (nuT T d (k + 1) - k0)) (pI σ 16 (nI (nuT T d (k + 1)))) := by
      intro v hv
      subst hv
      unfold f_X10_readNumber_b66
      rw [hk, nI_add1, ih (k + 1) (pI σ 16 (nI (k + 1))) m hT hn rfl (by omega) (by omega) (by omega), pI_same]
    show f_X10_readNumber_B4 _ _ _ _ = _
    unfold f_X10_readNumber_B4
    rw [if_neg (by rw [hn, hk, nI_le31 (by omega) (by omega)]; omega), hk, c_sg (T := T) hT hn hn3 (by omega), bd_of, c_dg, bd_of, hs]
    unfold nuT
    by_cases c1 : dg (T k) = 0
    · rw [if_pos c1, if_pos c1, pI_self σ 16 hk]
    rw [if_neg c1, if_neg c1, nI_add1, show k - k0 + 1 = k + 1 - k0 by omega]
    by_cases c2 : 10 < k + 1 - k0
    · rw [if_pos (show (10 : Int32) < nI (k + 1 - k0) from (nI_lt31 (a := 10) (by omega) (by omega)).mpr c2)]
      exact nx _ (by rw [show min (k - k0) 10 = 10 by omega, show min (k + 1 - k0) 10 = 10 by omega])
    · rw [if_neg (show ¬ (10 : Int32) < nI (k + 1 - k0) from fun h => c2 ((nI_lt31 (a := 10) (by omega) (by omega)).mp h)), hk, c_sg (T := T) hT hn hn3 (by omega), bd_of, hs]
      refine nx _ ?_
      rw [show min (k - k0) 10 = k - k0 by omega, show min (k + 1 - k0) 10 = (k - k0) + 1 by omega]
      show _ = (nuV T k0 (k - k0) * 10) + (T (k0 + (k - k0)) - 48).toInt64
      rw [show k0 + (k - k0) = k by omega]
/-- the class reads a number -/
theorem c_num {T : Nat → Int32} {n k0 : Nat} {σ : S5} (hn3 : n ≤ 3000) (hT : gA σ 0 = T) (hn : gI σ 0 = nI n) (hk : gI σ 16 = nI k0) (hk0 : k0 ≤ n) :
    f_X10_readNumber σ = f_X10_readNumber_b79 (nuV T k0 (min (nuT T (n - k0) k0 - k0) 10)) (nI (nuT T (n - k0) k0 - k0)) (pI σ 16 (nI (nuT T (n - k0) k0))) := by
  unfold f_X10_readNumber
  have h := c_numLoop (k0 := k0) hn3 (n - k0) k0 σ FU hT hn hk (Nat.le_refl _) (by omega) (FU_big (by omega))
  rw [show min (k0 - k0) 10 = 0 by omega, show k0 - k0 = 0 by omega] at h
  exact h
