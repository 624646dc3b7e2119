/-- the signs of a number -/
def by8 (v : Int32) (i : Nat) : Int32 := (j_iushr v (8 * nI i)) &&& 255
theorem by8_bits (v : Int32) (s : Nat) (hs : s ≤ 24) (x : Int32) (hx : x = nI s) : ((j_iushr v x) &&& 255) = ((v >>> (x &&& 31)) &&& 255) := by
  have h31 : ∀ s, s < 25 → ((nI s).toUInt32 &&& Int32.toUInt32 31) = UInt32.ofNat s ∧ (nI s &&& 31) = nI s ∧ (nI s).toBitVec.smod 32 = BitVec.ofNat 32 s := by decide
  obtain ⟨a1, a2, a3⟩ := h31 s (by omega)
  apply Int32.toBitVec_inj.mp
  rw [hx]
  unfold j_iushr
  rw [a1, a2]
  apply BitVec.eq_of_getLsbD_eq
  intro i hi
  simp only [Int32.toBitVec_and, BitVec.getLsbD_and]
  by_cases h8 : i < 8
  · congr 1
    show (v.toUInt32 >>> UInt32.ofNat s).toBitVec.getLsbD i = (v >>> nI s).toBitVec.getLsbD i
    rw [UInt32.toBitVec_shiftRight, Int32.toBitVec_shiftRight]
    have e1 : (UInt32.ofNat s).toBitVec % 32 = BitVec.ofNat 32 s := by
      have key : ∀ s, s < 25 → (UInt32.ofNat s).toBitVec % 32 = BitVec.ofNat 32 s := by decide
      exact key s (by omega)
    rw [e1, a3]
    show (v.toBitVec >>> (BitVec.ofNat 32 s).toNat).getLsbD i = (v.toBitVec.sshiftRight (BitVec.ofNat 32 s).toNat).getLsbD i
    rw [BitVec.toNat_ofNat, Nat.mod_eq_of_lt (by omega), BitVec.getLsbD_ushiftRight, BitVec.getLsbD_sshiftRight, if_pos (by omega)]
    simp
    omega
  · have : (255 : Int32).toBitVec.getLsbD i = false := by
      have key : ∀ i, i < 32 → ¬ i < 8 → (255 : Int32).toBitVec.getLsbD i = false := by decide
      exact key i hi h8
    rw [this, Bool.and_false, Bool.and_false]
