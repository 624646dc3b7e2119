def sm (a : Int32) : Int32 := if a < 97 then 0 else if 122 < a then 0 else 1
def gr (a : Int32) : Int32 := if a < 65 then 0 else if 90 < a then 0 else 1
def dg (a : Int32) : Int32 := if a < 48 then 0 else if 57 < a then 0 else 1
theorem ite_some {α : Type} {P : Prop} {h : Decidable P} (a b : α) (σ : S5) : (if P then (some (a, σ) : Option (α × S5)) else some (b, σ)) = some (if P then a else b, σ) := by
  by_cases q : P
  · rw [if_pos q, if_pos q]
  · rw [if_neg q, if_neg q]
theorem c_sm (a : Int32) (σ : S5) : f_X10_isSmall a σ = some (sm a, σ) := by unfold f_X10_isSmall sm; rw [ite_some, ite_some]
theorem c_gr (a : Int32) (σ : S5) : f_X10_isGreat a σ = some (gr a, σ) := by unfold f_X10_isGreat gr; rw [ite_some, ite_some]
theorem c_dg (a : Int32) (σ : S5) : f_X10_isDigit a σ = some (dg a, σ) := by unfold f_X10_isDigit dg; rw [ite_some, ite_some]
theorem m_sm (a : Int32) (σ : S5) : f_X12_isSmall a σ = some (sm a, σ) := by unfold f_X12_isSmall sm; rw [ite_some, ite_some]
theorem m_gr (a : Int32) (σ : S5) : f_X12_isCapital a σ = some (gr a, σ) := by unfold f_X12_isCapital gr; rw [ite_some, ite_some]
theorem m_dg (a : Int32) (σ : S5) : f_X12_isDigit a σ = some (dg a, σ) := by unfold f_X12_isDigit dg; rw [ite_some, ite_some]
theorem pJ_same (σ : S5) (k : Nat) (a b : Int64) : pJ (pJ σ k a) k b = pJ σ k b := by
  refine Prod.ext rfl (Prod.ext (funext fun j => ?_) rfl)
  show cond (Nat.beq j k) b (cond (Nat.beq j k) a (σ.2.1 j)) = cond (Nat.beq j k) b (σ.2.1 j)
  cases Nat.beq j k <;> rfl
theorem pJ_pI (σ : S5) (k j : Nat) (a : Int32) (b : Int64) : pJ (pI σ k a) j b = pI (pJ σ j b) k a := rfl
/-- where a name ends: from place k on, d signs left -/
def nmT (T : Nat → Int32) : Nat → Nat → Nat
  | 0, k => k
  | d + 1, k => if sm (T k) = 0 then (if dg (T k) = 0 then k else nmT T d (k + 1)) else nmT T d (k + 1)
/-- the number of j signs from place k on, a byte each -/
def nmV (T : Nat → Int32) (k : Nat) : Nat → Int64
  | 0 => 0
  | j + 1 => (j_lshl (nmV T k j) 8) ||| (T (k + j)).toInt64
theorem nmT_le (T : Nat → Int32) : ∀ (d k : Nat), k ≤ nmT T d k ∧ nmT T d k ≤ k + d
  | 0, k => ⟨Nat.le_refl _, Nat.le_refl _⟩
  | d + 1, k => by
    unfold nmT
    have h := nmT_le T d (k + 1)
    split
    · split <;> omega
    · omega
/-- the class's sign at a place: -1 behind the last -/
def sgC (T : Nat → Int32) (n k : Nat) : Int32 := if k < n then T k else -1
theorem c_sg {σ : S5} {T : Nat → Int32} {n k : Nat} (hT : gA σ 0 = T) (hn : gI σ 0 = nI n) (hn3 : n ≤ 3000) (hk : k ≤ 4000) : f_X8_signAt_text (nI k) σ = some (sgC T n k, σ) := by
  unfold sgC
  by_cases h : k < n
  · rw [if_pos h, c_signAt hn hn3 h, hT]
  · rw [if_neg h, c_signAt_end hn (by omega) hk]
theorem c_nameLoop {T : Nat → Int32} {n k0 : Nat} (hn3 : n ≤ 3000) (v1 : Int32) : ∀ (d k : Nat) (σ : S5) (m : Nat), gA σ 0 = T → gI σ 0 = nI n → gI σ 16 = nI k → gJ σ 0 = nmV T k0 (k - k0) → k0 < k → k + d = n → d < m →
    f_X10_readName_L9 m v1 (nI (k - k0)) (sgC T n k) σ = f_X10_readName_b83 v1 (nI (nmT T d k - k0)) (pI (pJ σ 0 (nmV T k0 (nmT T d k - k0))) 16 (nI (nmT T d k))) := by
  intro d
  induction d with
  | zero =>
    intro k σ m hT hn hk hJ hk0 hkd hm
    obtain ⟨m, rfl⟩ : ∃ m', m = m' + 1 := ⟨m - 1, by omega⟩
    show f_X10_readName_B9 _ _ _ _ _ = _
    unfold f_X10_readName_B9
    rw [if_pos (by rw [hn, hk, nI_le31 (by omega) (by omega)]; omega)]
    show _ = f_X10_readName_b83 v1 (nI (k - k0)) (pI (pJ σ 0 (nmV T k0 (k - k0))) 16 (nI k))
    have e : pI (pJ σ 0 (nmV T k0 (k - k0))) 16 (nI k) = σ := by
      have e1 : pJ σ 0 (nmV T k0 (k - k0)) = σ := by
        rw [← hJ]
        refine Prod.ext rfl (Prod.ext (funext fun j => ?_) rfl)
        show cond (Nat.beq j 0) (σ.2.1 0) (σ.2.1 j) = σ.2.1 j
        cases hb : Nat.beq j 0 with
        | false => rfl
        | true => rw [Nat.eq_of_beq_eq_true hb]; rfl
      rw [e1, pI_self σ 16 hk]
    rw [e]
  | succ d ih =>
    intro k σ m hT hn hk hJ hk0 hkd hm
    obtain ⟨m, rfl⟩ : ∃ m', m = m' + 1 := ⟨m - 1, by omega⟩
    have hs : sgC T n k = T k := if_pos (by omega)
    have step : f_X10_readName_b41 (f_X10_readName_L9 m) v1 (nI (k - k0)) (sgC T n k) σ = f_X10_readName_b83 v1 (nI (nmT T d (k + 1) - k0)) (pI (pJ σ 0 (nmV T k0 (nmT T d (k + 1) - k0))) 16 (nI (nmT T d (k + 1)))) := by
      unfold f_X10_readName_b41
      have e1 : ((j_lshl (gJ σ 0) 8) ||| ((sgC T n k).toInt64)) = nmV T k0 (k + 1 - k0) := by
        rw [hJ, hs, show k + 1 - k0 = (k - k0) + 1 by omega]
        show _ = (j_lshl (nmV T k0 (k - k0)) 8) ||| (T (k0 + (k - k0))).toInt64
        rw [show k0 + (k - k0) = k by omega]
      rw [e1, hk, nI_add1, c_sg (σ := pI (pJ σ 0 (nmV T k0 (k + 1 - k0))) 16 (nI (k + 1))) (T := T) (n := n) (k := k + 1) hT hn hn3 (by omega)]
      show f_X10_readName_L9 m v1 (nI (k - k0) + 1) (sgC T n (k + 1)) (pI (pJ σ 0 (nmV T k0 (k + 1 - k0))) 16 (nI (k + 1))) = _
      rw [nI_add1, show k - k0 + 1 = k + 1 - k0 by omega, ih (k + 1) (pI (pJ σ 0 (nmV T k0 (k + 1 - k0))) 16 (nI (k + 1))) m hT hn rfl rfl (by omega) (by omega) (by omega), pJ_pI, pJ_same, pI_same]
    show f_X10_readName_B9 _ _ _ _ _ = _
    unfold f_X10_readName_B9
    rw [if_neg (by rw [hn, hk, nI_le31 (by omega) (by omega)]; omega), if_neg (by show ¬ nI (k - k0) = nI 0; rw [nI_eq (by omega) (by omega)]; omega), c_sm]
    show (if sm (sgC T n k) = 0 then _ else _) = _
    unfold nmT
    rw [hs]
    by_cases c1 : sm (T k) = 0
    · rw [if_pos c1, if_pos c1, c_dg]
      show (if dg (T k) = 0 then _ else _) = _
      by_cases c2 : dg (T k) = 0
      · rw [if_pos c2, if_pos c2]
        have e : pI (pJ σ 0 (nmV T k0 (k - k0))) 16 (nI k) = σ := by
          have e1 : pJ σ 0 (nmV T k0 (k - k0)) = σ := by
            rw [← hJ]
            refine Prod.ext rfl (Prod.ext (funext fun j => ?_) rfl)
            show cond (Nat.beq j 0) (σ.2.1 0) (σ.2.1 j) = σ.2.1 j
            cases hb : Nat.beq j 0 with
            | false => rfl
            | true => rw [Nat.eq_of_beq_eq_true hb]; rfl
          rw [e1, pI_self σ 16 hk]
        rw [e]
      · rw [if_neg c2, if_neg c2, ← hs, step]
    · rw [if_neg c1, if_neg c1, ← hs, step]
