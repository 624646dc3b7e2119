theorem msk_b {m : Nat} (hm : m < 31) {i : Nat} (hi : i < 32) : (nI (2 ^ m - 1)).toBitVec.getLsbD i = decide (i < m) := by
  have hp : 2 ^ m ≤ 2 ^ 30 := Nat.pow_le_pow_right (by decide) (by omega)
  rw [nI_b (by omega) hi, Nat.testBit_two_pow_sub_one]
theorem tb0 {a m i : Nat} (h : a < 2 ^ m) (hi : m ≤ i) : a.testBit i = false := Nat.testBit_lt_two_pow (Nat.lt_of_lt_of_le h (Nat.pow_le_pow_right (by decide) hi))
/-- what waits, on the stack -/
def fr (k a b : Nat) : Int64 := ((j_lshl (nI k).toInt64 56) ||| (j_lshl (nI a).toInt64 28)) ||| (nI b).toInt64
theorem fr_bit {k a b : Nat} (hk : k < 128) (ha : a < 2 ^ 28) (hb : b < 2 ^ 28) {j : Nat} (hj : j < 64) : (fr k a b).toBitVec.getLsbD j = if j < 28 then b.testBit j else if j < 56 then a.testBit (j - 28) else k.testBit (j - 56) := by
  unfold fr
  rw [Int64.toBitVec_or, BitVec.getLsbD_or, Int64.toBitVec_or, BitVec.getLsbD_or, show (56 : Int32) = nI 56 from rfl, show (28 : Int32) = nI 28 from rfl, lsh_b _ (by decide), lsh_b _ (by decide), nIl_b (by omega) hj, decide_eq_true hj]
  by_cases h1 : j < 28
  · rw [if_pos h1, decide_eq_false (show ¬ 28 ≤ j by omega), decide_eq_false (show ¬ 56 ≤ j by omega)]
    simp
  · rw [if_neg h1, tb0 hb (show 28 ≤ j by omega), decide_eq_true (show 28 ≤ j by omega), nIl_b (a := a) (by omega) (by omega), nIl_b (a := k) (by omega) (by omega)]
    by_cases h2 : j < 56
    · rw [if_pos h2, decide_eq_false (show ¬ 56 ≤ j by omega)]
      simp
    · rw [if_neg h2, decide_eq_true (show 56 ≤ j by omega), tb0 ha (show 28 ≤ j - 28 by omega)]
      simp
theorem fr_k {k a b : Nat} (hk : k < 128) (ha : a < 2 ^ 28) (hb : b < 2 ^ 28) : (j_lushr (fr k a b) 56).toInt32 = nI k := i32_ext (fun j hj => by
  rw [l2i_b _ hj, show (56 : Int32) = nI 56 from rfl, ush_b _ (by decide), nI_b (by omega) hj]
  by_cases h : 56 + j < 64
  · rw [fr_bit hk ha hb h, if_neg (by omega), if_neg (by omega), show 56 + j - 56 = j by omega]
  · rw [BitVec.getLsbD_of_ge _ _ (by omega), tb0 (show k < 2 ^ 7 by omega) (by omega)])
theorem fr_a {k a b : Nat} (hk : k < 128) (ha : a < 2 ^ 28) (hb : b < 2 ^ 28) : ((j_lushr (fr k a b) 28).toInt32 &&& 268435455) = nI a := i32_ext (fun j hj => by
  rw [Int32.toBitVec_and, BitVec.getLsbD_and, l2i_b _ hj, show (28 : Int32) = nI 28 from rfl, ush_b _ (by decide), show (268435455 : Int32) = nI (2 ^ 28 - 1) from rfl, msk_b (by decide) hj, nI_b (by omega) hj, fr_bit hk ha hb (by omega), if_neg (by omega)]
  by_cases h : j < 28
  · rw [if_pos (by omega), decide_eq_true h, Bool.and_true, show 28 + j - 28 = j by omega]
  · rw [decide_eq_false h, Bool.and_false, tb0 ha (by omega)])
theorem fr_bb {k a b : Nat} (hk : k < 128) (ha : a < 2 ^ 28) (hb : b < 2 ^ 28) : ((fr k a b).toInt32 &&& 268435455) = nI b := i32_ext (fun j hj => by
  rw [Int32.toBitVec_and, BitVec.getLsbD_and, l2i_b _ hj, show (268435455 : Int32) = nI (2 ^ 28 - 1) from rfl, msk_b (by decide) hj, nI_b (by omega) hj, fr_bit hk ha hb (by omega)]
  by_cases h : j < 28
  · rw [if_pos (by omega), decide_eq_true h, Bool.and_true]
  · rw [decide_eq_false h, Bool.and_false, tb0 hb (by omega)])
/-- a suspension that waits -/
def sw (f c : Nat) : Int64 := (2305843009213693952 ||| (j_lshl (nI f).toInt64 24)) ||| (nI c).toInt64
theorem sw_bit {f c : Nat} (hf : f < 2 ^ 24) (hc : c < 2 ^ 24) {j : Nat} (hj : j < 64) : (sw f c).toBitVec.getLsbD j = if j < 24 then c.testBit j else (decide (j = 61) || f.testBit (j - 24)) := by
  unfold sw
  rw [Int64.toBitVec_or, BitVec.getLsbD_or, Int64.toBitVec_or, BitVec.getLsbD_or, show (24 : Int32) = nI 24 from rfl, lsh_b _ (by decide), nIl_b (by omega) hj, decide_eq_true hj, fresh_b hj]
  by_cases h1 : j < 24
  · rw [if_pos h1, decide_eq_false (show ¬ 24 ≤ j by omega), decide_eq_false (show ¬ j = 61 by omega)]
    simp
  · rw [if_neg h1, tb0 hc (show 24 ≤ j by omega), decide_eq_true (show 24 ≤ j by omega), nIl_b (by omega) (by omega)]
    simp
theorem sw_f {f c : Nat} (hf : f < 2 ^ 24) (hc : c < 2 ^ 24) : ((j_lushr (sw f c) 24).toInt32 &&& 16777215) = nI f := i32_ext (fun j hj => by
  rw [Int32.toBitVec_and, BitVec.getLsbD_and, l2i_b _ hj, show (24 : Int32) = nI 24 from rfl, ush_b _ (by decide), show (16777215 : Int32) = nI (2 ^ 24 - 1) from rfl, msk_b (by decide) hj, nI_b (by omega) hj, sw_bit hf hc (by omega), if_neg (by omega)]
  by_cases h : j < 24
  · rw [decide_eq_true h, Bool.and_true, show 24 + j - 24 = j by omega, decide_eq_false (show ¬ 24 + j = 61 by omega), Bool.false_or]
  · rw [decide_eq_false h, Bool.and_false, tb0 hf (by omega)])
theorem sw_c {f c : Nat} (hf : f < 2 ^ 24) (hc : c < 2 ^ 24) : ((sw f c).toInt32 &&& 16777215) = nI c := i32_ext (fun j hj => by
  rw [Int32.toBitVec_and, BitVec.getLsbD_and, l2i_b _ hj, show (16777215 : Int32) = nI (2 ^ 24 - 1) from rfl, msk_b (by decide) hj, nI_b (by omega) hj, sw_bit hf hc (by omega)]
  by_cases h : j < 24
  · rw [if_pos h, decide_eq_true h, Bool.and_true]
  · rw [decide_eq_false h, Bool.and_false, tb0 hc (by omega)])
theorem sw_fr {f c : Nat} (hf : f < 2 ^ 24) (hc : c < 2 ^ 24) : ¬ sw f c &&& 2305843009213693952 = 0 := fun h => by
  have h1 := congrArg (fun x : Int64 => x.toBitVec.getLsbD 61) h
  rw [Int64.toBitVec_and, BitVec.getLsbD_and, fresh_b (by decide), sw_bit hf hc (by decide), if_neg (by decide)] at h1
  simp at h1
theorem sw_bl {f c : Nat} (hf : f < 2 ^ 24) (hc : c < 2 ^ 24) : ¬ sw f c = 4611686018427387904 := fun h => by
  have h1 := congrArg (fun x : Int64 => x.toBitVec.getLsbD 61) h
  rw [black_b (by decide), sw_bit hf hc (by decide), if_neg (by decide)] at h1
  simp at h1
theorem lg_nn {v : Int64} (h : 0 ≤ v.toInt) : 0 ≤ lg_cmp v 0 ∧ ¬ lg_cmp v 0 < 0 := by
  unfold lg_cmp
  by_cases h1 : v > 0
  · rw [if_pos h1]; decide
  · rw [if_neg h1]
    have : v = 0 := by
      apply Int64.toInt_inj.mp
      have h2 : ¬ (0 : Int64) < v := h1
      rw [Int64.lt_iff_toInt_lt] at h2
      rw [show (0 : Int64).toInt = 0 from rfl] at h2 ⊢
      omega
    rw [if_pos this]; decide
theorem lg_m1 : ¬ 0 ≤ lg_cmp (-1) 0 ∧ lg_cmp (-1) 0 < 0 := by decide
theorem i2l2i (x : Int32) : x.toInt64.toInt32 = x := i32_ext (fun j hj => by rw [l2i_b _ hj, i2l_b _ hj])
theorem i2l_inj {x y : Int32} : x.toInt64 = y.toInt64 ↔ x = y := ⟨fun h => by rw [← i2l2i x, h, i2l2i], fun h => by rw [h]⟩
