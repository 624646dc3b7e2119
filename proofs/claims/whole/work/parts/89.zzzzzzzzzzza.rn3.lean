/-- how many bits are set below m -/
def pcn (X : Nat) : Nat → Nat
  | 0 => 0
  | m + 1 => pcn X m + (X.testBit m).toNat
/-- n digits of w bits, the lowest first, from number k on -/
def vw (w : Nat) (e : Nat → Nat) : Nat → Nat → Nat
  | 0, _ => 0
  | n + 1, k => 2 ^ w * vw w e n (k + 1) + e k
theorem vw_tb {w : Nat} (hw : 0 < w) {e : Nat → Nat} (he : ∀ k, e k < 2 ^ w) : ∀ (n k j : Nat), (vw w e n k).testBit j = (decide (j < w * n) && (e (k + j / w)).testBit (j % w))
  | 0, k, j => by
    rw [Nat.mul_zero, decide_eq_false (Nat.not_lt_zero j), Bool.false_and]
    exact Nat.zero_testBit j
  | n + 1, k, j => by
    show (2 ^ w * vw w e n (k + 1) + e k).testBit j = _
    rw [Nat.testBit_two_pow_mul_add _ (he k), Nat.mul_succ]
    by_cases h : j < w
    · rw [if_pos h, decide_eq_true (show j < w * n + w by omega), Bool.true_and, Nat.div_eq_of_lt h, Nat.mod_eq_of_lt h, Nat.add_zero]
    · have e1 : j / w = (j - w) / w + 1 := Nat.div_eq_sub_div hw (by omega)
      have e2 : j % w = (j - w) % w := Nat.mod_eq_sub_mod (by omega)
      rw [if_neg h, vw_tb hw he n (k + 1) (j - w), e1, e2, show k + 1 + (j - w) / w = k + ((j - w) / w + 1) by omega]
      congr 1
      by_cases h2 : j - w < w * n
      · rw [decide_eq_true h2, decide_eq_true (show j < w * n + w by omega)]
      · rw [decide_eq_false h2, decide_eq_false (show ¬ j < w * n + w by omega)]
theorem vw_add {w : Nat} {e e' : Nat → Nat} : ∀ (n k : Nat), vw w e n k + vw w e' n k = vw w (fun i => e i + e' i) n k
  | 0, _ => rfl
  | n + 1, k => by
    show 2 ^ w * vw w e n (k + 1) + e k + (2 ^ w * vw w e' n (k + 1) + e' k) = 2 ^ w * vw w (fun i => e i + e' i) n (k + 1) + (e k + e' k)
    rw [← vw_add n (k + 1), Nat.mul_add]
    omega
theorem vw_cg {w : Nat} {e e' : Nat → Nat} (h : ∀ k, e k = e' k) (n k : Nat) : vw w e n k = vw w e' n k := by rw [show e = e' from funext h]
theorem vw_pair {w : Nat} {e : Nat → Nat} : ∀ (n k : Nat), vw w e (2 * n) (2 * k) = vw (2 * w) (fun i => e (2 * i) + 2 ^ w * e (2 * i + 1)) n k
  | 0, _ => rfl
  | n + 1, k => by
    have h := vw_pair (w := w) (e := e) n (k + 1)
    rw [show 2 * (n + 1) = 2 * n + 1 + 1 by omega]
    show 2 ^ w * (2 ^ w * vw w e (2 * n) (2 * k + 1 + 1) + e (2 * k + 1)) + e (2 * k) = 2 ^ (2 * w) * vw (2 * w) _ n (k + 1) + (e (2 * k) + 2 ^ w * e (2 * k + 1))
    rw [show 2 * k + 1 + 1 = 2 * (k + 1) by omega, h, show 2 * w = w + w by omega, Nat.pow_add, Nat.mul_add, Nat.mul_assoc]
    omega
theorem vw_lt {w : Nat} {e : Nat → Nat} (he : ∀ k, e k < 2 ^ w) : ∀ (n k : Nat), vw w e n k < 2 ^ (w * n)
  | 0, _ => by rw [Nat.mul_zero]; exact Nat.one_pos
  | n + 1, k => by
    show 2 ^ w * vw w e n (k + 1) + e k < _
    have h1 := vw_lt he n (k + 1)
    have h2 := he k
    rw [Nat.mul_succ, Nat.add_comm (w * n) w, Nat.pow_add]
    have h3 : 2 ^ w * (vw w e n (k + 1) + 1) ≤ 2 ^ w * 2 ^ (w * n) := Nat.mul_le_mul_left _ h1
    rw [Nat.mul_add, Nat.mul_one] at h3
    omega
/-- a number is its bits -/
theorem vw_bits {X : Nat} : ∀ (n k : Nat), X / 2 ^ k < 2 ^ n → vw 1 (fun i => (X.testBit i).toNat) n k = X / 2 ^ k
  | 0, k, h => by
    show 0 = _
    exact (Nat.lt_one_iff.mp h).symm
  | n + 1, k, h => by
    show 2 ^ 1 * vw 1 _ n (k + 1) + (X.testBit k).toNat = _
    have e : X / 2 ^ (k + 1) = X / 2 ^ k / 2 := by rw [Nat.pow_succ, Nat.div_div_eq_div_mul]
    have h' : X / 2 ^ k / 2 < 2 ^ n := by
      rw [Nat.pow_succ] at h
      generalize X / 2 ^ k = y at h
      omega
    rw [vw_bits n (k + 1) (by rw [e]; exact h'), e]
    have e2 : (X.testBit k).toNat = X / 2 ^ k % 2 := by
      rw [Nat.testBit_eq_decide_div_mod_eq]
      by_cases h2 : X / 2 ^ k % 2 = 1
      · rw [decide_eq_true h2, h2]; rfl
      · rw [decide_eq_false h2]
        have : X / 2 ^ k % 2 = 0 := by omega
        rw [this]; rfl
    rw [e2]
    generalize X / 2 ^ k = y
    omega
theorem pcn_sum {X : Nat} : ∀ m, pcn X m = pre (fun i => (X.testBit i).toNat) m
  | 0 => rfl
  | m + 1 => by
    show pcn X m + _ = pre _ m + _
    rw [pcn_sum m]
theorem pre_pair {e : Nat → Nat} : ∀ n, pre e (2 * n) = pre (fun i => e (2 * i) + e (2 * i + 1)) n
  | 0 => rfl
  | n + 1 => by
    rw [show 2 * (n + 1) = 2 * n + 1 + 1 by omega]
    show pre e (2 * n) + e (2 * n) + e (2 * n + 1) = pre _ n + (e (2 * n) + e (2 * n + 1))
    rw [pre_pair n]
    omega
def i64n (v : Int64) : Nat := v.toBitVec.toNat
theorem i64n_and (x y : Int64) : i64n (x &&& y) = i64n x &&& i64n y := by
  unfold i64n
  rw [Int64.toBitVec_and, BitVec.toNat_and]
theorem i64n_add {x y : Int64} (h : i64n x + i64n y < 2 ^ 64) : i64n (x + y) = i64n x + i64n y := by
  unfold i64n at *
  rw [Int64.toBitVec_add, BitVec.toNat_add, Nat.mod_eq_of_lt h]
theorem i64n_sub {x y : Int64} (h : i64n y ≤ i64n x) : i64n (x - y) = i64n x - i64n y := by
  unfold i64n at *
  rw [Int64.toBitVec_sub, BitVec.toNat_sub_of_le (BitVec.le_def.mpr h)]
theorem i64n_ush (v : Int64) {m : Nat} (hm : m < 64) : i64n (j_lushr v (nI m)) = i64n v >>> m := by
  apply Nat.eq_of_testBit_eq
  intro i
  rw [Nat.testBit_shiftRight]
  exact ush_b v hm i
