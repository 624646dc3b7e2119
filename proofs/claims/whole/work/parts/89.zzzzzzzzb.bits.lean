/-- bit l of a word -/
def lb (w : Int64) (l : Nat) : Bool := w.toBitVec.getLsbD l
theorem lb_and (a b : Int64) (l : Nat) : lb (a &&& b) l = (lb a l && lb b l) := by
  unfold lb
  rw [Int64.toBitVec_and, BitVec.getLsbD_and]
theorem lb_or (a b : Int64) (l : Nat) : lb (a ||| b) l = (lb a l || lb b l) := by
  unfold lb
  rw [Int64.toBitVec_or, BitVec.getLsbD_or]
theorem lb_0 (l : Nat) : lb 0 l = false := by
  unfold lb
  show (0#64).getLsbD l = false
  rw [BitVec.getLsbD_zero]
theorem lb_m1 {l : Nat} (h : l < 64) : lb (-1) l = true := by
  unfold lb
  show (BitVec.allOnes 64).getLsbD l = true
  rw [BitVec.getLsbD_allOnes]
  exact decide_eq_true h
theorem lb_ext {a b : Int64} (h : ∀ l, l < 64 → lb a l = lb b l) : a = b := by
  apply Int64.toBitVec_inj.mp
  apply BitVec.eq_of_getLsbD_eq
  intro i hi
  exact h i hi
/-- a word of one bit -/
theorem lb_1 (l : Nat) : lb 1 l = decide (l = 0) := by
  unfold lb
  show (1#64).getLsbD l = _
  rw [BitVec.getLsbD_one]
  simp
theorem ls_tv : ∀ l, l < 64 → ((nI l).toInt64.toUInt64 &&& Int64.toUInt64 63) = UInt64.ofNat l := by
  decide
theorem ls_tv2 : ∀ l, l < 64 → ((nI l).toInt64 &&& 63) = Int64.ofNat l := by
  decide
theorem lb_ushr (w : Int64) {l : Nat} (hl : l < 64) (m : Nat) : lb (j_lushr w (nI l)) m = lb w (l + m) := by
  unfold lb j_lushr
  rw [ls_tv l hl]
  show ((w.toUInt64 >>> UInt64.ofNat l).toBitVec).getLsbD m = _
  rw [UInt64.toBitVec_shiftRight]
  have : (UInt64.ofNat l).toBitVec % 64 = BitVec.ofNat 64 l := by
    revert hl; revert l; decide
  rw [this]
  show (w.toBitVec >>> (BitVec.ofNat 64 l).toNat).getLsbD m = _
  rw [BitVec.toNat_ofNat, Nat.mod_eq_of_lt (by omega), BitVec.getLsbD_ushiftRight]
theorem lb_shl (w : Int64) {l : Nat} (hl : l < 64) (m : Nat) : lb (j_lshl w (nI l)) m = (decide (m < 64) && (!decide (m < l) && lb w (m - l))) := by
  unfold lb j_lshl
  rw [ls_tv2 l hl, Int64.toBitVec_shiftLeft]
  have : (Int64.ofNat l).toBitVec.smod 64 = BitVec.ofNat 64 l := by
    revert hl; revert l; decide
  rw [this]
  show (w.toBitVec <<< (BitVec.ofNat 64 l).toNat).getLsbD m = _
  rw [BitVec.toNat_ofNat, Nat.mod_eq_of_lt (by omega), BitVec.getLsbD_shiftLeft]
  rw [Bool.and_assoc]
theorem lw1 (w : Int64) : w &&& 1 = if lb w 0 = true then 1 else 0 := by
  apply lb_ext
  intro l hl
  rw [lb_and, lb_1]
  by_cases h : l = 0
  · subst h
    by_cases hb : lb w 0 = true
    · rw [if_pos hb, hb]; rfl
    · rw [if_neg hb]
      have : lb w 0 = false := by simpa using hb
      rw [this]; rfl
  · rw [decide_eq_false h, Bool.and_false]
    by_cases hb : lb w 0 = true
    · rw [if_pos hb, lb_1, decide_eq_false h]
    · rw [if_neg hb, lb_0]
theorem lw2 (w : Int64) : w.toInt32 &&& 1 = if lb w 0 = true then 1 else 0 := by
  have e : w.toInt32 &&& 1 = (w &&& 1).toInt32 := by
    rw [Int64.toInt32_and]; rfl
  rw [e, lw1]
  split <;> rfl
theorem lw3 (w : Int64) : -(w &&& 1) = if lb w 0 = true then -1 else 0 := by
  rw [lw1]
  split <;> rfl
/-- a row's number -/
def rwN (ρ : Nat → Bool) : Nat → Nat
  | 0 => 0
  | k + 1 => rwN ρ k + if ρ k = true then 2 ^ k else 0
theorem rwN_lt (ρ : Nat → Bool) : ∀ k, rwN ρ k < 2 ^ k
  | 0 => Nat.zero_lt_one
  | k + 1 => by
    have := rwN_lt ρ k
    show rwN ρ k + (if ρ k = true then 2 ^ k else 0) < 2 ^ (k + 1)
    rw [Nat.pow_succ]
    split <;> omega
theorem rwN_cg {ρ ρ' : Nat → Bool} : ∀ k, (∀ i, i < k → ρ i = ρ' i) → rwN ρ k = rwN ρ' k
  | 0, _ => rfl
  | k + 1, h => by
    show rwN ρ k + (if ρ k = true then 2 ^ k else 0) = rwN ρ' k + (if ρ' k = true then 2 ^ k else 0)
    rw [rwN_cg k (fun i hi => h i (by omega)), h k (by omega)]
theorem rwN_bit (ρ : Nat → Bool) : ∀ k i, i < k → (rwN ρ k).testBit i = ρ i
  | 0, _, h => absurd h (by omega)
  | k + 1, i, h => by
    have h1 := rwN_lt ρ k
    show (rwN ρ k + (if ρ k = true then 2 ^ k else 0)).testBit i = ρ i
    by_cases hk : i = k
    · subst hk
      by_cases hb : ρ i = true
      · rw [if_pos hb, Nat.add_comm, Nat.testBit_two_pow_add_eq, Nat.testBit_lt_two_pow h1, hb]; rfl
      · rw [if_neg hb, Nat.add_zero, Nat.testBit_lt_two_pow h1]
        simp at hb
        exact hb.symm
    · have ih := rwN_bit ρ k i (by omega)
      by_cases hb : ρ k = true
      · rw [if_pos hb, Nat.add_comm, Nat.testBit_two_pow_add_gt (by omega)]
        exact ih
      · rw [if_neg hb, Nat.add_zero]
        exact ih
/-- every number is a row's -/
theorem rwN_of {k r : Nat} (h : r < 2 ^ k) : rwN (fun i => r.testBit i) k = r := by
  apply Nat.eq_of_testBit_eq
  intro i
  by_cases hi : i < k
  · exact rwN_bit _ k i hi
  · have h1 : rwN (fun i => r.testBit i) k < 2 ^ i := Nat.lt_of_lt_of_le (rwN_lt _ k) (Nat.pow_le_pow_right (by omega) (by omega))
    have h2 : r < 2 ^ i := Nat.lt_of_lt_of_le h (Nat.pow_le_pow_right (by omega) (by omega))
    rw [Nat.testBit_lt_two_pow h1, Nat.testBit_lt_two_pow h2]
theorem rw_or {k r : Nat} (hk : k < 8) (hr : r < 2 ^ k) (b : Bool) : nI r ||| ((if b = true then (1 : Int32) else 0) <<< (nI k &&& 31)) = nI (r + if b = true then 2 ^ k else 0) := by
  have e2 : ∀ k, k < 8 → (1 : Int32) <<< (nI k &&& 31) = nI (2 ^ k) := by decide
  cases b with
  | false =>
    have e1 : ∀ k, k < 8 → (0 : Int32) <<< (nI k &&& 31) = 0 := by decide
    rw [if_neg (by decide), if_neg (by decide), e1 k hk, Nat.add_zero]
    apply Int32.toBitVec_inj.mp
    rw [Int32.toBitVec_or]
    show _ ||| 0#32 = _
    rw [BitVec.or_zero]
  | true =>
    rw [if_pos rfl, if_pos rfl, e2 k hk]
    have h28 : (2 : Nat) ^ k ≤ 2 ^ 7 := Nat.pow_le_pow_right (by omega) (by omega)
    have h7 : (2 : Nat) ^ 7 = 128 := by decide
    have e := Nat.two_pow_add_eq_or_of_lt hr 1
    rw [Nat.mul_one] at e
    apply Int32.toBitVec_inj.mp
    rw [Int32.toBitVec_or]
    show BitVec.ofNat 32 r ||| BitVec.ofNat 32 (2 ^ k) = BitVec.ofNat 32 (r + 2 ^ k)
    rw [← BitVec.ofNat_or, Nat.or_comm, ← e, Nat.add_comm]
theorem ro_6 {r : Nat} (h : r < 256) : (j_iushr (nI r) 6 &&& 3) = nI (r / 64) := by
  have key : ∀ a, a < 4 → ∀ b, b < 64 → (j_iushr (nI (64 * a + b)) 6 &&& 3) = nI a := by decide
  have e := key (r / 64) (by omega) (r % 64) (by omega)
  rw [Nat.div_add_mod] at e
  exact e
theorem ro_63 {r : Nat} (h : r < 256) : (nI r &&& 63) = nI (r % 64) := by
  have key : ∀ a, a < 4 → ∀ b, b < 64 → (nI (64 * a + b) &&& 63) = nI b := by decide
  have e := key (r / 64) (by omega) (r % 64) (by omega)
  rw [Nat.div_add_mod] at e
  exact e
