/-- both take the same signs out of a word -/
theorem byMC (v : Int64) {j : Nat} (hj : j < 8) : byM v j = byC v j := by
  have h63 : ∀ j, j < 8 → ((nI (8 * j)).toInt64.toUInt64 &&& Int64.toUInt64 63) = UInt64.ofNat (8 * j) ∧ ((nI (8 * j)).toInt64 &&& 63).toBitVec.smod 64 = BitVec.ofNat 64 (8 * j) ∧ (UInt64.ofNat (8 * j)).toBitVec % 64 = BitVec.ofNat 64 (8 * j) := by decide
  obtain ⟨a1, a2, a3⟩ := h63 j hj
  unfold byM byC j_lshr j_lushr
  rw [a1]
  apply Int32.toBitVec_inj.mp
  apply BitVec.eq_of_getLsbD_eq
  intro i hi
  simp only [Int32.toBitVec_and, BitVec.getLsbD_and]
  by_cases h8 : i < 8
  · congr 1
    show ((v >>> ((nI (8 * j)).toInt64 &&& 63)).toBitVec.signExtend 32).getLsbD i = (((v.toUInt64 >>> UInt64.ofNat (8 * j)).toBitVec).signExtend 32).getLsbD i
    rw [BitVec.getLsbD_signExtend, BitVec.getLsbD_signExtend, if_pos (by omega), if_pos (by omega), Int64.toBitVec_shiftRight, UInt64.toBitVec_shiftRight, a2, a3]
    show (decide (i < 32) && (v.toBitVec.sshiftRight (BitVec.ofNat 64 (8 * j)).toNat).getLsbD i) = (decide (i < 32) && (v.toBitVec >>> (BitVec.ofNat 64 (8 * j)).toNat).getLsbD i)
    rw [BitVec.toNat_ofNat, Nat.mod_eq_of_lt (by omega), BitVec.getLsbD_ushiftRight, BitVec.getLsbD_sshiftRight, if_pos (by omega)]
    have : ¬ 64 ≤ i := by omega
    simp [this]
  · have : (255 : Int32).toBitVec.getLsbD i = false := by
      have key : ∀ i, i < 32 → ¬ i < 8 → (255 : Int32).toBitVec.getLsbD i = false := by decide
      exact key i hi h8
    rw [this, Bool.and_false, Bool.and_false]
theorem byL_cg {b b' : Nat → Int32} : ∀ n, (∀ j, j < n → b j = b' j) → byL b n = byL b' n
  | 0, _ => rfl
  | n + 1, h => by
    show (if b n = 0 then [] else [b n]) ++ byL b n = (if b' n = 0 then [] else [b' n]) ++ byL b' n
    rw [h n (by omega), byL_cg n (fun j hj => h j (by omega))]
/-- a name is one and the same text -/
theorem tx_name {v : Int64} (hok : ∀ b, b ∈ byL (byC v) 8 → okS b) : TXt (f_X8_addName_draft v) (f_X12_signs v) (byL (byC v) 8) := ⟨hok, fun _ _ h => sgC_go h, fun _ _ h => sgM_go (by rw [byL_cg 8 (fun j hj => byMC v hj)]; exact h)⟩
