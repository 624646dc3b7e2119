/-- at most d signs wait on the pile, above something else; each has its left operand -/
def PB (d : Nat) (μ : S5) : Prop := nI d + 1 ≤ gI μ 16 ∧ gI μ 16 < 3200 ∧ nI d ≤ gI μ 17 ∧ gI μ 17 < 3100 ∧ ¬ xA μ 14 (gI μ 16 - 1 - nI d) = 7 ∧ ∀ i : Nat, i < d → xA μ 14 (gI μ 16 - 1 - nI i) = 7 ∧ 0 ≤ xA μ 15 (gI μ 16 - 1 - nI i) ∧ xA μ 15 (gI μ 16 - 1 - nI i) < 3200
/-- the reference joins two operands by the sign on top -/
def mRd (μ : S5) : S5 := pI (pA (pA (pI (pA (pI (pI μ 16 (gI μ 16 - 1)) 17 (gI μ 17 - 1)) 4 (xA μ 15 (gI μ 16 - 1)) (xA μ 18 (gI μ 17 - 1))) 17 (gI μ 17 - 1 - 1)) 3 (xA μ 15 (gI μ 16 - 1)) (xA μ 18 (gI μ 17 - 1 - 1))) 18 (gI μ 17 - 1 - 1) (xA μ 15 (gI μ 16 - 1))) 17 (gI μ 17 - 1 - 1 + 1)
theorem red_step {μ : S5} {v : Int32} (F : Nat) (h0 : 0 < gI μ 16) (h1 : gI μ 16 < 3200) (h7 : xA μ 14 (gI μ 16 - 1) = 7) (hv : ¬ xA μ 16 (gI μ 16 - 1) < v) (hn : 0 ≤ xA μ 15 (gI μ 16 - 1)) (hn' : xA μ 15 (gI μ 16 - 1) < 3200) (ho : 2 ≤ gI μ 17) (ho' : gI μ 17 < 3200) : f_X12_reduce_L0 (F + 1) v μ = f_X12_reduce_L0 F v (mRd μ) := by
  show f_X12_reduce_B0 (f_X12_reduce_L0 F) v μ = _
  unfold f_X12_reduce_B0
  have a0 : 0 ≤ gI μ 16 - 1 := by grind
  have a1 : gI μ 16 - 1 < 3200 := by grind
  have o1 : 0 ≤ gI μ 17 - 1 := by grind
  have o2 : gI μ 17 - 1 < 3200 := by grind
  have o3 : gI μ 17 - 1 - 1 < 3200 := by grind
  have o4 : 0 ≤ gI μ 17 - 1 - 1 := by grind
  rw [if_neg (by grind), gd3200 a0 a1, if_pos h7, gd3200 a0 a1, if_neg hv, gd3200 a0 a1, m_taken (μ := pI μ 16 (gI μ 16 - 1)) o1 o2, bd_of, gd3200 hn hn', m_taken (μ := pA (pI (pI μ 16 (gI μ 16 - 1)) 17 (gI (pI μ 16 (gI μ 16 - 1)) 17 - 1)) 4 (xA μ 15 (gI μ 16 - 1)) (xA (pI μ 16 (gI μ 16 - 1)) 18 (gI (pI μ 16 (gI μ 16 - 1)) 17 - 1))) o4 o3, bd_of, gd3200 hn hn']
  have e18 : xA (pA (pI (pI μ 16 (gI μ 16 - 1)) 17 (gI (pI μ 16 (gI μ 16 - 1)) 17 - 1)) 4 (xA μ 15 (gI μ 16 - 1)) (xA (pI μ 16 (gI μ 16 - 1)) 18 (gI (pI μ 16 (gI μ 16 - 1)) 17 - 1))) 18 (gI (pA (pI (pI μ 16 (gI μ 16 - 1)) 17 (gI (pI μ 16 (gI μ 16 - 1)) 17 - 1)) 4 (xA μ 15 (gI μ 16 - 1)) (xA (pI μ 16 (gI μ 16 - 1)) 18 (gI (pI μ 16 (gI μ 16 - 1)) 17 - 1))) 17 - 1) = xA μ 18 (gI μ 17 - 1 - 1) := by
    rw [xA_pA, if_neg (fun w => absurd w.1 (by decide))]
    rfl
  rw [e18, m_oper (μ := pA (pI (pA (pI (pI μ 16 (gI μ 16 - 1)) 17 (gI (pI μ 16 (gI μ 16 - 1)) 17 - 1)) 4 (xA μ 15 (gI μ 16 - 1)) (xA (pI μ 16 (gI μ 16 - 1)) 18 (gI (pI μ 16 (gI μ 16 - 1)) 17 - 1))) 17 (gI (pA (pI (pI μ 16 (gI μ 16 - 1)) 17 (gI (pI μ 16 (gI μ 16 - 1)) 17 - 1)) 4 (xA μ 15 (gI μ 16 - 1)) (xA (pI μ 16 (gI μ 16 - 1)) 18 (gI (pI μ 16 (gI μ 16 - 1)) 17 - 1))) 17 - 1)) 3 (xA μ 15 (gI μ 16 - 1)) (xA μ 18 (gI μ 17 - 1 - 1))) _ o4 o3, bd_of]
  rfl
theorem nI_suc {d : Nat} (h : d ≤ 5) (x : Int32) : x - 1 - nI (d + 1) = x - 1 - 1 - nI d := by
  rw [← nI_add1]
  grind
theorem PB.down {d : Nat} {μ : S5} (hd : d ≤ 4) (h : PB (d + 1) μ) (ho : nI (d + 1) + 1 ≤ gI μ 17) : PB d (mRd μ) ∧ nI d + 1 ≤ gI (mRd μ) 17 := by
  obtain ⟨a1, a2, a3, a4, a5, a6⟩ := h
  have hn : nI (d + 1) = nI d + 1 := (nI_add1 d).symm
  have hb : 0 ≤ nI d ∧ nI d ≤ 4 := ⟨i_le0 (nI_nneg (by omega)), (nI_le31 (b := 4) (by omega) (by omega)).mpr hd⟩
  have g16 : gI (mRd μ) 16 = gI μ 16 - 1 := rfl
  have g17 : gI (mRd μ) 17 = gI μ 17 - 1 - 1 + 1 := rfl
  have r14 : ∀ i, xA (mRd μ) 14 i = xA μ 14 i := fun i => by simp [mRd, xA_pI, xA_pA]
  have r15 : ∀ i, xA (mRd μ) 15 i = xA μ 15 i := fun i => by simp [mRd, xA_pI, xA_pA]
  rw [hn] at a1 a3 ho
  rw [nI_suc (by omega)] at a5
  unfold PB
  rw [g16, g17]
  simp only [r14, r15]
  refine ⟨⟨by grind, by grind, by grind, by grind, a5, fun i hi => ?_⟩, by grind⟩
  have := a6 (i + 1) (by omega)
  rw [nI_suc (by omega)] at this
  exact this
theorem red_tot : ∀ (d : Nat), d ≤ 4 → ∀ (μ : S5), PB d μ → nI d + 1 ≤ gI μ 17 → ∀ v : Int32, ∃ x : S5, ∀ m, d < m → f_X12_reduce_L0 m v μ = some ((), x) := by
  intro d
  induction d with
  | zero =>
    intro hd μ h ho v
    refine ⟨μ, fun m hm => ?_⟩
    obtain ⟨m, rfl⟩ : ∃ m', m = m' + 1 := ⟨m - 1, by omega⟩
    obtain ⟨a1, a2, a3, a4, a5, a6⟩ := h
    rw [show gI μ 16 - 1 - nI 0 = gI μ 16 - 1 by rw [show nI 0 = 0 from rfl]; grind] at a5
    rw [show nI 0 = 0 from rfl] at a1
    show f_X12_reduce_B0 _ v μ = _
    unfold f_X12_reduce_B0
    rw [if_neg (by grind), gd3200 (by grind) (by grind), if_neg a5]
  | succ d ih =>
    intro hd μ h ho v
    have hdn := h.down (by omega) ho
    obtain ⟨a1, a2, a3, a4, a5, a6⟩ := h
    have hn : nI (d + 1) = nI d + 1 := (nI_add1 d).symm
    have hb : 0 ≤ nI d ∧ nI d ≤ 4 := ⟨i_le0 (nI_nneg (by omega)), (nI_le31 (b := 4) (by omega) (by omega)).mpr (by omega)⟩
    have t := a6 0 (by omega)
    rw [show gI μ 16 - 1 - nI 0 = gI μ 16 - 1 by rw [show nI 0 = 0 from rfl]; grind] at t
    rw [hn] at a1 ho
    by_cases hv : xA μ 16 (gI μ 16 - 1) < v
    · refine ⟨μ, fun m hm => ?_⟩
      obtain ⟨m, rfl⟩ : ∃ m', m = m' + 1 := ⟨m - 1, by omega⟩
      show f_X12_reduce_B0 _ v μ = _
      unfold f_X12_reduce_B0
      rw [if_neg (by grind), gd3200 (by grind) (by grind), if_pos t.1, gd3200 (by grind) (by grind), if_pos hv]
    · obtain ⟨x, hx⟩ := ih (by omega) (mRd μ) hdn.1 hdn.2 v
      refine ⟨x, fun m hm => ?_⟩
      obtain ⟨m, rfl⟩ : ∃ m', m = m' + 1 := ⟨m - 1, by omega⟩
      rw [red_step m (by grind) a2 t.1 hv t.2.1 t.2.2 (by grind) (by grind)]
      exact hx m (by omega)
/-- to reduce now or later is the same -/
theorem red_eq {d : Nat} {μ : S5} {v : Int32} (hd : d ≤ 3) (h : PB (d + 1) μ) (ho : nI (d + 1) + 1 ≤ gI μ 17) (hv : ¬ xA μ 16 (gI μ 16 - 1) < v) : f_X12_reduce v μ = f_X12_reduce v (mRd μ) := by
  have hdn := h.down (by omega) ho
  obtain ⟨x, hx⟩ := red_tot d (by omega) (mRd μ) hdn.1 hdn.2 v
  obtain ⟨a1, a2, a3, a4, a5, a6⟩ := h
  have hn : nI (d + 1) = nI d + 1 := (nI_add1 d).symm
  have hb : 0 ≤ nI d ∧ nI d ≤ 4 := ⟨i_le0 (nI_nneg (by omega)), (nI_le31 (b := 4) (by omega) (by omega)).mpr (by omega)⟩
  have t := a6 0 (by omega)
  rw [show gI μ 16 - 1 - nI 0 = gI μ 16 - 1 by rw [show nI 0 = 0 from rfl]; grind] at t
  rw [hn] at a1 ho
  unfold f_X12_reduce
  obtain ⟨m, hm⟩ := FU_s
  have hm5 : 5 < m := by have := FU_big (n := 5000) (by decide); omega
  rw [hm, red_step m (by grind) a2 t.1 hv t.2.1 t.2.2 (by grind) (by grind), hx m (by omega), hx (m + 1) (by omega)]
