/-- both have read a sign s of rank r -/
def SG (σ μ σ1 μ1 : S5) (s r : Int32) : Prop := Sim σ1 μ1 ∧ EqE σ σ1 ∧ EqR μ μ1 ∧ FrC σ σ1 ∧ FrM μ μ1 ∧ PF μ μ1 ∧ (gI σ1 8 = gI σ 8 ∧ gI σ1 9 = gI σ 9 ∧ gI σ1 10 = gI σ 10 ∧ gI σ1 13 = gI σ 13 + 1 ∧ gI σ1 14 = gI σ 14 ∧ gI σ1 15 = gI σ 15 ∧ gI σ 18 < gI σ1 18) ∧ (gI μ1 9 = gI μ 9 + 1 ∧ gI μ1 10 = gI μ 10 ∧ gI μ1 11 = gI μ 11 + 1 ∧ gI μ1 12 = gI μ 12 + 1 ∧ gI μ1 16 = gI μ 16 + 1 ∧ gI μ1 17 = gI μ 17 ∧ gI μ1 18 = 0 ∧ ¬ gI μ1 19 = 0) ∧ (xA μ1 2 (gI μ 9) = 5 ∧ xA μ1 10 (gI μ 9) = 0 ∧ xA μ1 5 (gI μ 9) = -1 ∧ xA μ1 7 (gI μ 9) = kMd s) ∧ (xA μ1 14 (gI μ 16) = 7 ∧ xA μ1 15 (gI μ 16) = gI μ 9 ∧ xA μ1 16 (gI μ 16) = r) ∧ Gm 1 1 σ σ1 μ μ1
/-- the reference's state behind a sign -/
def mSi (μ : S5) (r e k p v : Int32) (z : Int64) : S5 := pI (pI (mPl (wdM (pA (ndM (mP μ) 5) 7 (gI μ 9) (gI μ 4)) e k p v z) 7 (gI μ 9) r) 19 1) 18 0
theorem mSi_num (μ : S5) (r e k p v : Int32) (z : Int64) : gI (mSi μ r e k p v z) 7 = gI μ 7 ∧ gI (mSi μ r e k p v z) 9 = gI μ 9 + 1 ∧ gI (mSi μ r e k p v z) 10 = gI μ 10 ∧ gI (mSi μ r e k p v z) 11 = gI μ 11 + 1 ∧ gI (mSi μ r e k p v z) 12 = gI μ 12 + 1 ∧ gI (mSi μ r e k p v z) 15 = gI μ 15 ∧ gI (mSi μ r e k p v z) 16 = gI μ 16 + 1 ∧ gI (mSi μ r e k p v z) 17 = gI μ 17 ∧ gI (mSi μ r e k p v z) 18 = 0 ∧ gI (mSi μ r e k p v z) 19 = 1 := ⟨rfl, rfl, rfl, rfl, rfl, rfl, rfl, rfl, rfl, rfl⟩
theorem mSi_fr (μ : S5) (r e k p v : Int32) (z : Int64) : FrM μ (mSi μ r e k p v z) := by
  refine ⟨fun i p q => ?_, fun i p q => rfl⟩
  have := i_ne p q
  simp [mSi, mPl, ndM, mP, xA_wdM, xB_wdM, xA_pI, xA_pA, xA_pB, xB_pI, xB_pA, xB_pB, gI_pI, this]
theorem mSi_row (μ : S5) (r e k p v : Int32) (z : Int64) : xA (mSi μ r e k p v z) 2 (gI μ 9) = 5 ∧ xA (mSi μ r e k p v z) 10 (gI μ 9) = 0 ∧ xA (mSi μ r e k p v z) 5 (gI μ 9) = -1 ∧ xA (mSi μ r e k p v z) 7 (gI μ 9) = gI μ 4 := by
  simp [mSi, mPl, ndM, mP, xA_wdM, xA_pI, xA_pA, xA_pB, gI_pI]
theorem mSi_top (μ : S5) (r e k p v : Int32) (z : Int64) : xA (mSi μ r e k p v z) 14 (gI μ 16) = 7 ∧ xA (mSi μ r e k p v z) 15 (gI μ 16) = gI μ 9 ∧ xA (mSi μ r e k p v z) 16 (gI μ 16) = r := by
  have e : gI (wdM (pA (ndM (mP μ) 5) 7 (gI μ 9) (gI μ 4)) e k p v z) 16 = gI μ 16 := rfl
  unfold mSi mPl
  rw [e]
  simp [xA_pI, xA_pA]
theorem mSi_pile (μ : S5) (r e k p v : Int32) (z : Int64) : PF μ (mSi μ r e k p v z) := by
  have e : gI (wdM (pA (ndM (mP μ) 5) 7 (gI μ 9) (gI μ 4)) e k p v z) 16 = gI μ 16 := rfl
  refine ⟨fun i p q => ?_, fun i p q => ?_⟩
  · have := i_ne p q
    unfold mSi mPl
    rw [e]
    simp [ndM, mP, xA_wdM, xA_pI, xA_pA, xA_pB, this]
  · unfold mSi mPl
    simp [ndM, mP, xA_wdM, xA_pI, xA_pA, xA_pB]
theorem EqR.Si {μ : S5} {r e k p v : Int32} {z : Int64} : EqR μ (mSi μ r e k p v z) := ((((((((EqR.rf μ).P).nd).A (by decide)).w).Pl).I (by decide)).I (by decide))
theorem Wd.I19 {σ μ : S5} {v w : Int32} (h : Wd σ μ) : Wd σ (pI (pI μ 19 v) 18 w) := h
theorem red_stop {μ : S5} (v : Int32) (h0 : 0 < gI μ 16) (h1 : gI μ 16 < 3200) (h : ¬ xA μ 14 (gI μ 16 - 1) = 7 ∨ xA μ 16 (gI μ 16 - 1) < v) : f_X12_reduce v μ = some ((), μ) := by
  unfold f_X12_reduce
  obtain ⟨m, hm⟩ := FU_s
  rw [hm]
  show f_X12_reduce_B0 _ _ _ = _
  unfold f_X12_reduce_B0
  rw [if_neg (by grind), gd3200 (by grind) (by grind)]
  by_cases c : xA μ 14 (gI μ 16 - 1) = 7
  · rw [if_pos c, gd3200 (by grind) (by grind), if_pos (by rcases h with h | h; exact absurd c h; exact h)]
  · rw [if_neg c]
/-- the pile's top lets a sign of rank r come -/
def Tk (r : Int32) (μ : S5) : Prop := (r = 1 → ¬ xA μ 14 (gI μ 16 - 1) = 7) ∧ (¬ xA μ 14 (gI μ 16 - 1) = 7 ∨ xA μ 16 (gI μ 16 - 1) < (if r = 1 then 2 else r))
theorem m_signE {μ : S5} {r : Int32} (h0 : 0 < gI μ 16) (h1 : gI μ 16 < 3200) (hr : rkM (gI μ 4) = r) (ht : Tk r μ) : f_X12_signE μ = f_X12_signE_b48 r μ := by
  unfold f_X12_signE f_X12_signE_b19
  rw [m_rank, bd_of, hr]
  by_cases c : r = 1
  · have h2 := ht.2
    rw [if_pos c] at h2
    rw [if_pos c, red_stop 2 h0 h1 h2, bd_of, if_pos c, gd3200 (by grind) (by grind), if_neg (ht.1 c)]
  · have h2 := ht.2
    rw [if_neg c] at h2
    rw [if_neg c, red_stop r h0 h1 h2, bd_of, if_neg c]
/-- both read a sign -/
theorem sg_go {σ μ : S5} (hs : Sim σ μ) (h20 : gI μ 20 = 1) (h21 : gI μ 21 = 0) (h19 : gI μ 19 = 0) {r : Int32} (hr : rkK (gI σ 17) = r) (hr0 : 0 < r) (ht : Tk r μ) (h160 : 0 < gI μ 16) (h161 : gI μ 16 < 3000) : (∃ σ1 μ1 : S5, f_X5_readSign σ = some (gI σ 17, σ1) ∧ Rch 1 μ μ1 ∧ SG σ μ σ1 μ1 (gI σ 17) r) ∨ (∃ σ1 : S5, f_X5_readSign σ = some (gI σ 17, σ1) ∧ St 4 (gI σ 18) (gI σ 13) σ1 ∧ Die 1 μ μ 4 (gI σ 18) (gI σ 13)) := by
  have hb := hs.2.2
  unfold Bg at hb
  have hp3 := hs.p3
  have w3 := hs.1.2.2.1
  have w4 := hs.1.2.2.2.1
  have hrm : rkM (gI μ 4) = r := by rw [w3, rk_eq w4]; exact hr
  have hsE := m_signE h160 (by grind) hrm ht
  have hk0 := okK_ne w4
  have hk1 : ¬ gI σ 17 = 1 := by intro q; rw [q] at hr; rw [← hr] at hr0; exact absurd hr0 (by decide)
  unfold f_X5_readSign
  by_cases hp : gI σ 13 < 600
  · left
    rw [c_cnt0 hp hk0, bd_of]
    have hwd : Wd (cP σ) (pA (ndM (mP μ) 5) 7 (gI μ 9) (gI μ 4)) := Wd_of hs.1 rfl rfl rfl rfl rfl rfl rfl rfl rfl rfl rfl rfl rfl rfl
    obtain ⟨e, kc, p, v, z, vm, zm, a1, a2, a3, a4, a5, a6⟩ := adv hwd hk1
    have a4' : gI σ 18 < p := a4
    rw [a1, bd_of]
    have hfin : f_X12_signE μ = some ((), mSi μ r e (kMd kc) p vm zm) := by
      rw [hsE]
      unfold f_X12_signE_b48 f_X12_signE_b64
      rw [m_part0 hb.2.1 (by rw [← hb.2.2.1]; grind), bd_of, if_neg (by decide)]
      have e9 : gI (pI (pI μ 11 (gI μ 11 + 1)) 12 (gI μ 12 + 1)) 9 = gI μ 9 := rfl
      rw [m_node 5 (by rw [e9]; grind) (by rw [e9]; grind), bd_of, e9, gd3200 (by grind) (by grind)]
      have e4 : gI (ndM (pI (pI μ 11 (gI μ 11 + 1)) 12 (gI μ 12 + 1)) 5) 4 = gI μ 4 := rfl
      rw [e4, show ndM (pI (pI μ 11 (gI μ 11 + 1)) 12 (gI μ 12 + 1)) 5 = ndM (mP μ) 5 from rfl, m_acc1 (μ := pA (ndM (mP μ) 5) 7 (gI μ 9) (gI μ 4)) hb.2.1, a2, bd_of, m_pile (μ := wdM (pA (ndM (mP μ) 5) 7 (gI μ 9) (gI μ 4)) e (kMd kc) p vm zm) 7 (gI μ 9) r (by show 0 ≤ gI μ 16; grind) (by show gI μ 16 < 3200; grind), bd_of]
      rfl
    have x8 : gI (wdC (cP σ) e kc p v z) 8 = gI σ 8 := gI_wdC (by decide)
    have x9 : gI (wdC (cP σ) e kc p v z) 9 = gI σ 9 := gI_wdC (by decide)
    have x10 : gI (wdC (cP σ) e kc p v z) 10 = gI σ 10 := gI_wdC (by decide)
    have x13 : gI (wdC (cP σ) e kc p v z) 13 = gI σ 13 + 1 := gI_wdC (by decide)
    have x14 : gI (wdC (cP σ) e kc p v z) 14 = gI σ 14 := gI_wdC (by decide)
    have x15 : gI (wdC (cP σ) e kc p v z) 15 = gI σ 15 := gI_wdC (by decide)
    have x5 : gI (wdC (cP σ) e kc p v z) 5 = gI σ 5 := gI_wdC (by decide)
    have x11 : gI (wdC (cP σ) e kc p v z) 11 = gI σ 11 := gI_wdC (by decide)
    have x18 : gI (wdC (cP σ) e kc p v z) 18 = p := p_wdC
    have hEE : EqE σ (wdC (cP σ) e kc p v z) := ((EqE.rf σ).P).w
    have hFC : FrC σ (wdC (cP σ) e kc p v z) := (show FrC σ (cP σ) from FrC.rf σ).w
    obtain ⟨q7, q9, q10, q11, q12, q15, q16, q17, q18, q19⟩ := mSi_num μ r e (kMd kc) p vm zm
    have hER : EqR μ (mSi μ r e (kMd kc) p vm zm) := EqR.Si
    have hFM := mSi_fr μ r e (kMd kc) p vm zm
    have hPF := mSi_pile μ r e (kMd kc) p vm zm
    have hrow := mSi_row μ r e (kMd kc) p vm zm
    have htop := mSi_top μ r e (kMd kc) p vm zm
    have hWW : Wd (wdC (cP σ) e kc p v z) (mSi μ r e (kMd kc) p vm zm) := (a3.Pl).I19
    refine ⟨wdC (cP σ) e kc p v z, mSi μ r e (kMd kc) p vm zm, rfl, tn_sign hb.2.1 h160 h19 (by rw [h20]; decide) h21 (by rw [hrm]; exact hr0) hfin, ?_⟩
    clear a1 a2 a3 hfin hsE hwd
    generalize wdC (cP σ) e kc p v z = σ1 at *
    generalize mSi μ r e (kMd kc) p vm zm = μ1 at *
    have hGm : Gm 1 1 σ σ1 μ μ1 := by
      have i8 := iv_eq x8
      have i9 := iv_eq x9
      have i10 := iv_eq x10
      have i13 := iv_a1 x13 (by grind) (by grind)
      have i18 : iv σ 18 < iv σ1 18 := iv_lt (by rw [x18]; exact a4')
      have m9 := iv_a1 q9 (by grind) (by grind)
      have m10 := iv_eq q10
      unfold Gm
      omega
    refine ⟨⟨hWW, Ct_eq hs.2.1 hEE hER, ?_⟩, hEE, hER, hFC, hFM, hPF, ⟨x8, x9, x10, x13, x14, x15, by rw [x18]; exact a4'⟩, ⟨q9, q10, q11, q12, q16, q17, q18, by rw [q19]; decide⟩, ⟨hrow.1, hrow.2.1, hrow.2.2.1, hrow.2.2.2.trans w3⟩, htop, hGm⟩
    have hbm := hs.bm
    obtain ⟨b1, b2, b3, b4, b5, b6, b7, b8, b9, b10, b11, b12, b13, b14, b15, b16, b17, b18, b19, b20, b21, b22, b23⟩ := hb
    exact Bg_mk (by rw [x11]; exact b1) (by rw [q7]; exact b2) (by rw [x13, q11, b3]) (by rw [x13]; grind) (by rw [x13]; grind) (by rw [x14, q15]; exact b6) (by rw [x14]; exact b7) (by rw [x14]; exact b8) (by rw [x8]; exact b9) (by rw [x9]; exact b11) (by rw [x5]; exact b13) (by rw [x5]; exact b14) (by rw [x10]; exact b15) (by rw [q9]; grind) (by rw [q10]; exact b19) (by rw [x15]; exact b21) (by rw [x15, x9]; exact b22) (by rw [x18]; exact a6) (hbm.gr hGm (by decide) (by decide) x5)
  · right
    obtain ⟨τ, g1, g2⟩ := c_cnt1 hs hp
    rw [g1, bd_of, st_adv g2, bd_of]
    have hp6 : gI μ 11 = 600 := by grind
    have hfin : ∃ ρ : S5, f_X12_signE μ = some ((), ρ) ∧ gI ρ 7 = 4 ∧ gI ρ 8 = gI μ 5 ∧ gI ρ 11 = gI μ 11 ∧ gI ρ 12 = gI μ 12 ∧ EqR μ ρ := by
      rw [hsE]
      unfold f_X12_signE_b48 f_X12_signE_b64
      rw [m_part1 hb.2.1 hp6, bd_of, if_pos rfl, gd3200 (by decide) (by decide), m_accF (μ := pA (pI (pI μ 7 4) 8 (gI μ 5)) 7 0 (gI (pI (pI μ 7 4) 8 (gI μ 5)) 4)) 1 (by exact (by decide : ¬ (4 : Int32) = 0)), bd_of, m_pile (μ := pA (pI (pI μ 7 4) 8 (gI μ 5)) 7 0 (gI (pI (pI μ 7 4) 8 (gI μ 5)) 4)) 7 0 r (by show 0 ≤ gI μ 16; grind) (by show gI μ 16 < 3200; grind), bd_of]
      exact ⟨_, rfl, rfl, rfl, rfl, rfl, (((((((EqR.rf μ).I (by decide)).I (by decide)).A (by decide)).pl).I (by decide)).I (by decide))⟩
    obtain ⟨ρ, k1, k2, k3, k4, k5, k6⟩ := hfin
    exact ⟨τ, rfl, g2, die_of (tn_sign hb.2.1 h160 h19 (by rw [h20]; decide) h21 (by rw [hrm]; exact hr0) k1) (by decide) k2 (by rw [k3]; exact hs.1.2.2.2.2.1.symm) (by rw [k4]; exact hb.2.2.1.symm) (by rw [k5, k4]) k6⟩
