theorem pI_same (σ : S5) (k : Nat) (a b : Int32) : pI (pI σ k a) k b = pI σ k b := by
  refine Prod.ext (funext fun j => ?_) rfl
  show cond (Nat.beq j k) b (cond (Nat.beq j k) a (σ.1 j)) = cond (Nat.beq j k) b (σ.1 j)
  cases Nat.beq j k <;> rfl
theorem pI_self (σ : S5) (k : Nat) {a : Int32} (h : gI σ k = a) : pI σ k a = σ := by
  subst h
  refine Prod.ext (funext fun j => ?_) rfl
  show cond (Nat.beq j k) (σ.1 k) (σ.1 j) = σ.1 j
  cases hb : Nat.beq j k with
  | false => rfl
  | true => rw [Nat.eq_of_beq_eq_true hb]; rfl
theorem nI_lt31 {a b : Nat} (ha : a < 2 ^ 31) (hb : b < 2 ^ 31) : (nI a < nI b) ↔ a < b := nI_ltI ha hb
theorem nI_le31 {a b : Nat} (ha : a < 2 ^ 31) (hb : b < 2 ^ 31) : (nI a ≤ nI b) ↔ a ≤ b := nI_leI ha hb
theorem nI_nneg {a : Nat} (ha : a < 2 ^ 31) : ¬ nI a < 0 := nI_pos ha
/-- behind blanks and remarks: d signs are left from place k on -/
def skR (T : Nat → Int32) : Nat → Nat → Int32 → Nat
  | 0, k, _ => k
  | d + 1, k, rem => if T k = 10 then skR T d (k + 1) 0 else if T k = 35 then skR T d (k + 1) 1 else if T k = 32 then skR T d (k + 1) rem else if rem = 0 then k else skR T d (k + 1) rem
theorem c_signAt {σ : S5} {n k : Nat} (hn : gI σ 0 = nI n) (hn3 : n ≤ 3000) (hk : k < n) : f_X8_signAt_text (nI k) σ = some (gA σ 0 k, σ) := by
  have c1 : ¬ nI k < 0 := nI_nneg (by omega)
  have c2 : ¬ gI σ 0 ≤ nI k := by rw [hn, nI_le31 (by omega) (by omega)]; omega
  have c3 : (nI k).toNatClampNeg = k := nI_clamp (by omega)
  have c4 : xA σ 0 (nI k) = gA σ 0 k := by show σ.2.2.1 0 (nI k).toNatClampNeg = σ.2.2.1 0 k; rw [c3]
  unfold f_X8_signAt_text
  rw [if_neg c1, if_neg c2, gd_in c1 (by rw [c3]; omega), c4]
theorem c_signAt_end {σ : S5} {n k : Nat} (hn : gI σ 0 = nI n) (hk : n ≤ k) (hk3 : k ≤ 4000) : f_X8_signAt_text (nI k) σ = some (-1, σ) := by
  have c1 : ¬ nI k < 0 := nI_nneg (by omega)
  have c2 : gI σ 0 ≤ nI k := by rw [hn, nI_le31 (by omega) (by omega)]; exact hk
  unfold f_X8_signAt_text
  rw [if_neg c1, if_pos c2]
theorem c_pass {T : Nat → Int32} {n : Nat} (hn3 : n ≤ 3000) : ∀ (d k : Nat) (rem : Int32) (σ : S5) (m : Nat), gA σ 0 = T → gI σ 0 = nI n → gI σ 16 = nI k → k + d = n → d < m → f_X10_passBlanks_L2 m rem σ = some ((), pI σ 16 (nI (skR T d k rem))) := by
  intro d
  induction d with
  | zero =>
    intro k rem σ m hT hn hk hkd hm
    obtain ⟨m, rfl⟩ : ∃ m', m = m' + 1 := ⟨m - 1, by omega⟩
    show f_X10_passBlanks_B2 _ _ _ = _
    unfold f_X10_passBlanks_B2
    rw [if_pos (by rw [hn, hk, nI_le31 (by omega) (by omega)]; omega)]
    show _ = some ((), pI σ 16 (nI k))
    rw [pI_self σ 16 hk]
  | succ d ih =>
    intro k rem σ m hT hn hk hkd hm
    obtain ⟨m, rfl⟩ : ∃ m', m = m' + 1 := ⟨m - 1, by omega⟩
    have step : ∀ r : Int32, f_X10_passBlanks_b61 (f_X10_passBlanks_L2 m) r σ = some ((), pI σ 16 (nI (skR T d (k + 1) r))) := by
      intro r
      unfold f_X10_passBlanks_b61
      rw [hk, nI_add1]
      rw [ih (k + 1) r (pI σ 16 (nI (k + 1))) m hT hn rfl (by omega) (by omega), pI_same]
    show f_X10_passBlanks_B2 _ _ _ = _
    unfold f_X10_passBlanks_B2
    rw [if_neg (by rw [hn, hk, nI_le31 (by omega) (by omega)]; omega), hk, c_signAt hn hn3 (by omega), hT]
    show (if T k = 10 then _ else _) = _
    unfold skR
    by_cases c1 : T k = 10
    · rw [if_pos c1, if_pos c1, step]
    rw [if_neg c1, if_neg c1]
    by_cases c2 : T k = 35
    · rw [if_pos c2, if_pos c2, step]
    rw [if_neg c2, if_neg c2]
    by_cases c3 : T k = 32
    · rw [if_pos c3, if_pos c3, step]
    rw [if_neg c3, if_neg c3]
    by_cases c4 : rem = 0
    · rw [if_pos c4, if_pos c4, pI_self σ 16 hk]
    · rw [if_neg c4, if_neg c4, step]
theorem m_sign {μ : S5} {n k : Nat} (hn : gI μ 1 = nI n) (hn3 : n ≤ 3000) (hk : k < n) : f_X12_sign (nI k) μ = some (gA μ 0 k, μ) := by
  have c1 : ¬ nI k < 0 := nI_nneg (by omega)
  have c2 : ¬ gI μ 1 ≤ nI k := by rw [hn, nI_le31 (by omega) (by omega)]; omega
  have c3 : (nI k).toNatClampNeg = k := nI_clamp (by omega)
  have c4 : xA μ 0 (nI k) = gA μ 0 k := by show μ.2.2.1 0 (nI k).toNatClampNeg = μ.2.2.1 0 k; rw [c3]
  unfold f_X12_sign
  rw [if_neg c2, gd_in c1 (by rw [c3]; omega), c4]
theorem m_sign_end {μ : S5} {n k : Nat} (hn : gI μ 1 = nI n) (hk : n ≤ k) (hk3 : k ≤ 4000) (hn3 : n ≤ 3000) : f_X12_sign (nI k) μ = some (0, μ) := by
  unfold f_X12_sign
  rw [if_pos (by rw [hn, nI_le31 (by omega) (by omega)]; exact hk)]
/-- where a remark ends -/
def skE (T : Nat → Int32) : Nat → Nat → Nat
  | 0, k => k
  | d + 1, k => if T k = 10 then k else skE T d (k + 1)
theorem skE_le (T : Nat → Int32) : ∀ (d k : Nat), k ≤ skE T d k ∧ skE T d k ≤ k + d
  | 0, k => ⟨Nat.le_refl _, Nat.le_refl _⟩
  | d + 1, k => by
    unfold skE
    have h := skE_le T d (k + 1)
    split <;> omega
theorem skR_rem (T : Nat → Int32) : ∀ (d k : Nat), skR T d k 1 = skR T (k + d - skE T d k) (skE T d k) 0
  | 0, k => by
    unfold skE
    rw [Nat.add_zero, Nat.sub_self]
    rfl
  | d + 1, k => by
    by_cases c1 : T k = 10
    · have e : skE T (d + 1) k = k := by unfold skE; rw [if_pos c1]
      rw [e, show k + (d + 1) - k = d + 1 by omega]
      unfold skR
      rw [if_pos c1, if_pos c1]
    · have e : skE T (d + 1) k = skE T d (k + 1) := by unfold skE; rw [if_neg c1]; cases d <;> rfl
      have h := skR_rem T d (k + 1)
      rw [e, show k + (d + 1) - skE T d (k + 1) = k + 1 + d - skE T d (k + 1) by omega, ← h]
      show (if T k = 10 then _ else _) = _
      rw [if_neg c1]
      by_cases c2 : T k = 35
      · rw [if_pos c2]
      rw [if_neg c2]
      by_cases c3 : T k = 32
      · rw [if_pos c3]
      rw [if_neg c3, if_neg (by decide)]
theorem FU_big {n : Nat} (h : n < 1000000) : n < FU := Nat.lt_of_lt_of_le h (by decide)
theorem m_inner {T : Nat → Int32} {n : Nat} (hn3 : n ≤ 3000) (rec2 : Int32 → S5 → Option (Unit × S5)) (v : Int32) : ∀ (d k : Nat) (μ : S5) (m : Nat), gA μ 0 = T → gI μ 1 = nI n → gI μ 3 = nI k → k + d = n → d < m → f_X12_passBlanks_L30 rec2 m v μ = rec2 v (pI μ 3 (nI (skE T d k))) := by
  intro d
  induction d with
  | zero =>
    intro k μ m hT hn hk hkd hm
    obtain ⟨m, rfl⟩ : ∃ m', m = m' + 1 := ⟨m - 1, by omega⟩
    show f_X12_passBlanks_B30 _ _ _ _ = _
    unfold f_X12_passBlanks_B30
    rw [if_pos (by rw [hn, hk, nI_le31 (by omega) (by omega)]; omega)]
    show _ = rec2 v (pI μ 3 (nI k))
    rw [pI_self μ 3 hk]
  | succ d ih =>
    intro k μ m hT hn hk hkd hm
    obtain ⟨m, rfl⟩ : ∃ m', m = m' + 1 := ⟨m - 1, by omega⟩
    show f_X12_passBlanks_B30 _ _ _ _ = _
    unfold f_X12_passBlanks_B30
    rw [if_neg (by rw [hn, hk, nI_le31 (by omega) (by omega)]; omega), hk, m_sign hn hn3 (by omega), hT]
    show (if T k = 10 then _ else _) = _
    unfold skE
    by_cases c1 : T k = 10
    · rw [if_pos c1, if_pos c1, pI_self μ 3 hk]
    · rw [if_neg c1, if_neg c1, hk, nI_add1, ih (k + 1) (pI μ 3 (nI (k + 1))) m hT hn rfl (by omega) (by omega), pI_same]
theorem m_pass {T : Nat → Int32} {n : Nat} (hn3 : n ≤ 3000) : ∀ (d k : Nat) (μ : S5) (m : Nat), gA μ 0 = T → gI μ 1 = nI n → gI μ 3 = nI k → k + d = n → d + 1 < m → f_X12_passBlanks_L2 m 1 μ = some ((), pI μ 3 (nI (skR T d k 0))) := by
  intro d
  induction d using Nat.strongRecOn with
  | ind d ih =>
    intro k μ m hT hn hk hkd hm
    obtain ⟨m, rfl⟩ : ∃ m', m = m' + 1 := ⟨m - 1, by omega⟩
    show f_X12_passBlanks_B2 _ _ _ = _
    unfold f_X12_passBlanks_B2
    rw [if_neg (by decide)]
    cases d with
    | zero =>
      rw [if_pos (by rw [hn, hk, nI_le31 (by omega) (by omega)]; omega)]
      show _ = some ((), pI μ 3 (nI k))
      rw [pI_self μ 3 hk]
    | succ d =>
      have go : ∀ q d2 : Nat, d2 < d + 1 → q + d2 = n → f_X12_passBlanks_L2 m 1 (pI μ 3 (nI q)) = some ((), pI μ 3 (nI (skR T d2 q 0))) := by
        intro q d2 h1 h2
        rw [ih d2 h1 q (pI μ 3 (nI q)) m hT hn rfl h2 (by omega), pI_same]
      rw [if_neg (by rw [hn, hk, nI_le31 (by omega) (by omega)]; omega), hk, m_sign hn hn3 (by omega), hT]
      show (if T k = 35 then _ else _) = _
      unfold skR
      by_cases c2 : T k = 35
      · have c1 : ¬ T k = 10 := by rw [c2]; decide
        have hq := skE_le T d (k + 1)
        have e : skE T (d + 1) k = skE T d (k + 1) := by unfold skE; rw [if_neg c1]; cases d <;> rfl
        rw [if_pos c2, if_neg c1, if_pos c2, m_inner hn3 _ _ (d + 1) k μ FU hT hn hk hkd (FU_big (by omega)), e, go (skE T d (k + 1)) (k + 1 + d - skE T d (k + 1)) (by omega) (by omega), skR_rem]
      rw [if_neg c2, hk, m_sign hn hn3 (by omega), hT]
      show (if T k = 32 then _ else _) = _
      by_cases c3 : T k = 32
      · have c1 : ¬ T k = 10 := by rw [c3]; decide
        rw [if_pos c3, if_neg c1, if_neg c2, if_pos c3]
        unfold f_X12_passBlanks_b93
        rw [hk, nI_add1, go (k + 1) d (by omega) (by omega)]
      rw [if_neg c3, hk, m_sign hn hn3 (by omega), hT]
      show (if T k = 10 then _ else _) = _
      by_cases c1 : T k = 10
      · rw [if_pos c1, if_pos c1]
        unfold f_X12_passBlanks_b93
        rw [hk, nI_add1, go (k + 1) d (by omega) (by omega)]
      rw [if_neg c1, if_neg c1, if_neg c2, if_neg c3, if_pos rfl, pI_self μ 3 hk]
      obtain ⟨m, rfl⟩ : ∃ m', m = m' + 1 := ⟨m - 1, by omega⟩
      show f_X12_passBlanks_B2 _ _ _ = _
      unfold f_X12_passBlanks_B2
      rw [if_pos rfl]
