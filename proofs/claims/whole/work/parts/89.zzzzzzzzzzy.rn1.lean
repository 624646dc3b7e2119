theorem sh_am : ∀ m, m < 64 → ((nI m).toInt64.toUInt64 &&& Int64.toUInt64 63) = UInt64.ofNat m ∧ ((nI m).toInt64 &&& 63).toBitVec.smod 64 = BitVec.ofNat 64 m ∧ (UInt64.ofNat m).toBitVec % 64 = BitVec.ofNat 64 m := by decide
/-- the bits behind shifts -/
theorem ush_b (v : Int64) {m : Nat} (hm : m < 64) (i : Nat) : (j_lushr v (nI m)).toBitVec.getLsbD i = v.toBitVec.getLsbD (m + i) := by
  obtain ⟨a1, a2, a3⟩ := sh_am m hm
  unfold j_lushr
  rw [a1]
  show ((v.toUInt64 >>> UInt64.ofNat m).toBitVec).getLsbD i = _
  rw [UInt64.toBitVec_shiftRight, a3]
  show (v.toBitVec >>> (BitVec.ofNat 64 m).toNat).getLsbD i = _
  rw [BitVec.toNat_ofNat, Nat.mod_eq_of_lt (by omega), BitVec.getLsbD_ushiftRight]
theorem ssh_b (v : Int64) {m : Nat} (hm : m < 64) {i : Nat} (hi : m + i < 64) : (j_lshr v (nI m)).toBitVec.getLsbD i = v.toBitVec.getLsbD (m + i) := by
  obtain ⟨a1, a2, a3⟩ := sh_am m hm
  unfold j_lshr
  rw [Int64.toBitVec_shiftRight, a2]
  show (v.toBitVec.sshiftRight (BitVec.ofNat 64 m).toNat).getLsbD i = _
  rw [BitVec.toNat_ofNat, Nat.mod_eq_of_lt (by omega), BitVec.getLsbD_sshiftRight, if_pos hi, decide_eq_false (show ¬ 64 ≤ i by omega)]
  rfl
theorem lsh_b (v : Int64) {m : Nat} (hm : m < 64) (i : Nat) : (j_lshl v (nI m)).toBitVec.getLsbD i = (decide (i < 64) && decide (m ≤ i) && v.toBitVec.getLsbD (i - m)) := by
  obtain ⟨a1, a2, a3⟩ := sh_am m hm
  unfold j_lshl
  rw [Int64.toBitVec_shiftLeft, a2]
  show (v.toBitVec <<< (BitVec.ofNat 64 m).toNat).getLsbD i = _
  rw [BitVec.toNat_ofNat, Nat.mod_eq_of_lt (by omega), BitVec.getLsbD_shiftLeft]
  by_cases h : i < m
  · rw [decide_eq_true h, decide_eq_false (show ¬ m ≤ i by omega)]
    simp
  · rw [decide_eq_false h, decide_eq_true (show m ≤ i by omega)]
    simp
theorem l2i_b (x : Int64) {i : Nat} (hi : i < 32) : x.toInt32.toBitVec.getLsbD i = x.toBitVec.getLsbD i := by
  show (x.toBitVec.signExtend 32).getLsbD i = _
  rw [BitVec.getLsbD_signExtend, if_pos (by omega), decide_eq_true hi, Bool.true_and]
theorem i2l_b (x : Int32) {i : Nat} (hi : i < 32) : x.toInt64.toBitVec.getLsbD i = x.toBitVec.getLsbD i := by
  show (x.toBitVec.signExtend 64).getLsbD i = _
  rw [BitVec.getLsbD_signExtend, if_pos hi, decide_eq_true (show i < 64 by omega), Bool.true_and]
theorem i2l_nI {a : Nat} (h : a < 2 ^ 31) : (nI a).toInt64.toBitVec = BitVec.ofNat 64 a := by
  apply BitVec.eq_of_toInt_eq
  show (nI a).toInt64.toInt = _
  have e : (BitVec.ofNat 64 a).toNat = a := by rw [BitVec.toNat_ofNat, Nat.mod_eq_of_lt (by omega)]
  rw [Int32.toInt_toInt64, nI_toI h, BitVec.toInt_eq_toNat_of_lt (by rw [e]; omega), e]
theorem nI_b {a : Nat} (h : a < 2 ^ 31) {i : Nat} (hi : i < 32) : (nI a).toBitVec.getLsbD i = a.testBit i := by
  rw [← i2l_b _ hi, i2l_nI h, BitVec.getLsbD_ofNat, decide_eq_true (show i < 64 by omega), Bool.true_and]
theorem nIl_b {a : Nat} (h : a < 2 ^ 31) {i : Nat} (hi : i < 64) : (nI a).toInt64.toBitVec.getLsbD i = a.testBit i := by
  rw [i2l_nI h, BitVec.getLsbD_ofNat, decide_eq_true hi, Bool.true_and]
theorem i32_ext {x y : Int32} (h : ∀ i, i < 32 → x.toBitVec.getLsbD i = y.toBitVec.getLsbD i) : x = y := Int32.toBitVec_inj.mp (BitVec.eq_of_getLsbD_eq (fun i hi => h i hi))
theorem i64_ext {x y : Int64} (h : ∀ i, i < 64 → x.toBitVec.getLsbD i = y.toBitVec.getLsbD i) : x = y := Int64.toBitVec_inj.mp (BitVec.eq_of_getLsbD_eq (fun i hi => h i hi))
/-- a value of a run: its sort and its number -/
def vv (t i : Int32) : Int64 := (j_lshl (t.toInt64) 32) ||| ((i.toInt64) &&& 4294967295)
theorem m32_b {i : Nat} (hi : i < 64) : (4294967295 : Int64).toBitVec.getLsbD i = decide (i < 32) := by
  have key : ∀ i, i < 64 → (4294967295 : Int64).toBitVec.getLsbD i = decide (i < 32) := by decide
  exact key i hi
theorem vv_b (t i : Int32) {j : Nat} (hj : j < 64) : (vv t i).toBitVec.getLsbD j = if j < 32 then i.toBitVec.getLsbD j else t.toBitVec.getLsbD (j - 32) := by
  unfold vv
  rw [Int64.toBitVec_or, BitVec.getLsbD_or, show (32 : Int32) = nI 32 from rfl, lsh_b _ (by decide), Int64.toBitVec_and, BitVec.getLsbD_and, m32_b hj, decide_eq_true hj]
  by_cases h : j < 32
  · rw [if_pos h, decide_eq_true h, decide_eq_false (show ¬ 32 ≤ j by omega), i2l_b _ h]
    simp
  · rw [if_neg h, decide_eq_false h, decide_eq_true (show 32 ≤ j by omega), i2l_b _ (by omega)]
    simp
theorem vv_tag (t i : Int32) : (j_lushr (vv t i) 32).toInt32 = t := i32_ext (fun j hj => by
  rw [l2i_b _ hj, show (32 : Int32) = nI 32 from rfl, ush_b _ (by decide), vv_b _ _ (by omega), if_neg (by omega), show 32 + j - 32 = j by omega])
theorem vv_kd (t i : Int32) : (j_lshr (vv t i) 32).toInt32 = t := i32_ext (fun j hj => by
  rw [l2i_b _ hj, show (32 : Int32) = nI 32 from rfl, ssh_b _ (by decide) (by omega), vv_b _ _ (by omega), if_neg (by omega), show 32 + j - 32 = j by omega])
theorem vv_of (t i : Int32) : (vv t i).toInt32 = i := i32_ext (fun j hj => by rw [l2i_b _ hj, vv_b _ _ (by omega), if_pos hj])
theorem vv_inj {t i t' i' : Int32} (h : vv t i = vv t' i') : t = t' ∧ i = i' := ⟨by rw [← vv_tag t i, h, vv_tag], by rw [← vv_of t i, h, vv_of]⟩
theorem vv_msb (t i : Int32) : (vv t i).toBitVec.msb = t.toBitVec.msb := by
  rw [BitVec.msb_eq_getLsbD_last, BitVec.msb_eq_getLsbD_last]
  show (vv t i).toBitVec.getLsbD 63 = t.toBitVec.getLsbD 31
  rw [vv_b _ _ (by decide), if_neg (by decide)]
theorem vv_nn {t : Nat} (ht : t < 8) (i : Int32) : 0 ≤ (vv (nI t) i).toInt := by
  have h1 : (nI t).toBitVec.msb = false := by
    have key : ∀ t, t < 8 → (nI t).toBitVec.msb = false := by decide
    exact key t ht
  have h2 := vv_msb (nI t) i
  rw [h1] at h2
  show 0 ≤ (vv (nI t) i).toBitVec.toInt
  rw [BitVec.toInt_eq_msb_cond, h2]
  simp
theorem fresh_b {j : Nat} (hj : j < 64) : (2305843009213693952 : Int64).toBitVec.getLsbD j = decide (j = 61) := by
  have key : ∀ j, j < 64 → (2305843009213693952 : Int64).toBitVec.getLsbD j = decide (j = 61) := by decide
  exact key j hj
theorem black_b {j : Nat} (hj : j < 64) : (4611686018427387904 : Int64).toBitVec.getLsbD j = decide (j = 62) := by
  have key : ∀ j, j < 64 → (4611686018427387904 : Int64).toBitVec.getLsbD j = decide (j = 62) := by decide
  exact key j hj
theorem t8_b {t : Nat} (ht : t < 8) {j : Nat} (hj : 3 ≤ j) (hj2 : j < 32) : (nI t).toBitVec.getLsbD j = false := by
  rw [nI_b (by omega) hj2]
  exact Nat.testBit_lt_two_pow (Nat.lt_of_lt_of_le (show t < 2 ^ 3 by omega) (Nat.pow_le_pow_right (by decide) hj))
/-- a value is not the sign of a suspension that waits, nor of a black one -/
theorem vv_fr {t : Nat} (ht : t < 8) (i : Int32) : vv (nI t) i &&& 2305843009213693952 = 0 := i64_ext (fun j hj => by
  rw [Int64.toBitVec_and, BitVec.getLsbD_and, fresh_b hj]
  by_cases h : j = 61
  · subst h
    rw [vv_b _ _ (by decide), if_neg (by decide), t8_b ht (by decide) (by decide)]
    rfl
  · rw [decide_eq_false h, Bool.and_false]
    show false = (0 : Int64).toBitVec.getLsbD j
    rw [show (0 : Int64).toBitVec = 0#64 from rfl, BitVec.getLsbD_zero])
theorem vv_bl {t : Nat} (ht : t < 8) (i : Int32) : ¬ vv (nI t) i = 4611686018427387904 := fun h => by
  have h1 := congrArg (fun x : Int64 => x.toBitVec.getLsbD 62) h
  rw [black_b (by decide), vv_b _ _ (by decide), if_neg (by decide), t8_b ht (by decide) (by decide)] at h1
  exact absurd h1 (by decide)
