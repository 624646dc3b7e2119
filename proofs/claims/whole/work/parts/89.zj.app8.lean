theorem m_w25 {μ τ : S5} {q : Int32} (h7 : gI μ 7 = 0) (h : f_X12_application μ = some (q, τ)) (hq : q = 0 ∨ q = 1) : f_X12_wantE_b25 μ = some ((), aft (1 - q) τ) := by
  unfold f_X12_wantE_b25 f_X12_wantE_b43 f_X12_wantE_b44 f_X12_wantE_b60 aft
  rw [if_pos h7, h, bd_of]
  rcases hq with rfl | rfl
  · rfl
  · rfl
theorem m_wE {σ μ : S5} (hw : Wd σ μ) (h18 : gI μ 18 = 0 ∨ (¬ gI σ 17 = 7 ∧ ¬ gI σ 17 = 9 ∧ ¬ gI σ 17 = 92)) : f_X12_wantE μ = f_X12_wantE_b25 μ := by
  unfold f_X12_wantE
  by_cases c : gI μ 18 = 0
  · rw [if_pos c]
  · rw [if_neg c]
    rcases h18 with h | ⟨h1, h2, h3⟩
    · exact absurd h c
    · have w3 := hw.2.2.1
      have w4 := hw.2.2.2.1
      unfold f_X12_begins
      rw [if_neg (show ¬ gI μ 4 = 11 by rw [w3]; intro q; exact h1 ((kMd_at 7 (by decide +kernel) w4).mp (by rw [q]; decide))), if_neg (show ¬ gI μ 4 = 13 by rw [w3]; intro q; exact h2 ((kMd_at 9 (by decide +kernel) w4).mp (by rw [q]; decide))), if_neg (show ¬ gI μ 4 = 192 by rw [w3]; intro q; exact h3 ((kMd_at 92 (by decide +kernel) w4).mp (by rw [q]; decide))), bd_of, if_pos rfl]
/-- the reference's state at a constructor's first field -/
def mCo (μ0 : S5) (r e k p v : Int32) (z : Int64) : S5 := mPl (wdM (pA (ndM (pI μ0 21 0) 7) 7 (gI μ0 9) r) e k p v z) 9 (gI μ0 9) 0
theorem mCo_num (μ0 : S5) (r e k p v : Int32) (z : Int64) : gI (mCo μ0 r e k p v z) 7 = gI μ0 7 ∧ gI (mCo μ0 r e k p v z) 9 = gI μ0 9 + 1 ∧ gI (mCo μ0 r e k p v z) 10 = gI μ0 10 ∧ gI (mCo μ0 r e k p v z) 11 = gI μ0 11 ∧ gI (mCo μ0 r e k p v z) 12 = gI μ0 12 ∧ gI (mCo μ0 r e k p v z) 15 = gI μ0 15 ∧ gI (mCo μ0 r e k p v z) 16 = gI μ0 16 + 1 ∧ gI (mCo μ0 r e k p v z) 17 = gI μ0 17 ∧ gI (mCo μ0 r e k p v z) 21 = 0 ∧ gI (mCo μ0 r e k p v z) 5 = p := ⟨rfl, rfl, rfl, rfl, rfl, rfl, rfl, rfl, rfl, rfl⟩
theorem mCo_fr (μ0 : S5) (r e k p v : Int32) (z : Int64) : FrM μ0 (mCo μ0 r e k p v z) := by
  refine ⟨fun i p q => ?_, fun i p q => rfl⟩
  have := i_ne p q
  simp [mCo, mPl, ndM, xA_wdM, xB_wdM, xA_pI, xA_pA, xA_pB, xB_pI, xB_pA, xB_pB, gI_pI, this]
theorem mCo_row (μ0 : S5) (r e k p v : Int32) (z : Int64) : xA (mCo μ0 r e k p v z) 2 (gI μ0 9) = 7 ∧ xA (mCo μ0 r e k p v z) 3 (gI μ0 9) = -1 ∧ xA (mCo μ0 r e k p v z) 5 (gI μ0 9) = -1 ∧ xA (mCo μ0 r e k p v z) 7 (gI μ0 9) = r ∧ xA (mCo μ0 r e k p v z) 10 (gI μ0 9) = 0 := by
  simp [mCo, mPl, ndM, xA_wdM, xA_pI, xA_pA, xA_pB, gI_pI]
theorem mCo_top (μ0 : S5) (r e k p v : Int32) (z : Int64) : xA (mCo μ0 r e k p v z) 14 (gI μ0 16) = 9 ∧ xA (mCo μ0 r e k p v z) 15 (gI μ0 16) = gI μ0 9 ∧ xA (mCo μ0 r e k p v z) 17 (gI μ0 16) = 0 := by
  have e : gI (wdM (pA (ndM (pI μ0 21 0) 7) 7 (gI μ0 9) r) e k p v z) 16 = gI μ0 16 := rfl
  unfold mCo mPl
  rw [e]
  simp [xA_pI, xA_pA]
theorem mCo_pile (μ0 : S5) (r e k p v : Int32) (z : Int64) : PF μ0 (mCo μ0 r e k p v z) := by
  have e : gI (wdM (pA (ndM (pI μ0 21 0) 7) 7 (gI μ0 9) r) e k p v z) 16 = gI μ0 16 := rfl
  refine ⟨fun i p q => ?_, fun i p q => ?_⟩
  · have := i_ne p q
    unfold mCo mPl
    rw [e]
    simp [ndM, xA_wdM, xA_pI, xA_pA, xA_pB, this]
  · unfold mCo mPl
    simp [ndM, xA_wdM, xA_pI, xA_pA, xA_pB]
theorem EqR.Co {μ0 : S5} {r e k p v : Int32} {z : Int64} : EqR μ0 (mCo μ0 r e k p v z) := (((((EqR.rf μ0).I (by decide)).nd).A (by decide)).w).Pl
/-- the first field of a constructor has been read -/
theorem co_one {σ0 μ0 σ' μ' : S5} {r e kc p v vm c n : Int32} {z zm : Int64} (hs0 : Sim σ0 μ0) (h160 : 0 < gI μ0 16) (h161 : gI μ0 16 < 3000) (h170 : 0 ≤ gI μ0 17) (h171 : gI μ0 17 < 3000) (hp : gI σ0 13 < 600) (hpp : gI σ0 18 < p) (hC : Cor (cP (wdC σ0 e kc p v z)) (mP (mCo μ0 r e (kMd kc) p vm zm)) c σ' μ' n) (f20 : gI μ' 20 = 0) (f21 : gI μ' 21 = 0) : CL r σ0 μ0 σ' μ' 0 c c (two n n) (two c c) (two (gI σ0 9) (gI σ' 9)) (two (gI σ0 10) (gI σ' 10)) (two (gI μ0 9 + 1) (gI μ' 9)) (two (gI σ0 8) (gI σ' 8)) := by
  have hb0 := hs0.2.2
  unfold Bg at hb0
  obtain ⟨s1, s2, ⟨u1, u2, u3, u4, u5⟩, s4, s5, s6, s7, s8, s9, s10, s11, s12, s13, s14, s15⟩ := hC
  obtain ⟨q7, q9, q10, q11, q12, q15, q16, q17, q21, q5⟩ := mCo_num μ0 r e (kMd kc) p vm zm
  obtain ⟨w2, w3, w5, w7, w10⟩ := mCo_row μ0 r e (kMd kc) p vm zm
  obtain ⟨v14, v15, v17⟩ := mCo_top μ0 r e (kMd kc) p vm zm
  have hfr := mCo_fr μ0 r e (kMd kc) p vm zm
  have hpf := mCo_pile μ0 r e (kMd kc) p vm zm
  have hER : EqR μ0 (mP (mCo μ0 r e (kMd kc) p vm zm)) := EqR.Co.P
  have hEE : EqE σ0 (cP (wdC σ0 e kc p v z)) := ((EqE.rf σ0).w).P
  have c8 : gI (cP (wdC σ0 e kc p v z)) 8 = gI σ0 8 := rfl
  have c9 : gI (cP (wdC σ0 e kc p v z)) 9 = gI σ0 9 := rfl
  have c10 : gI (cP (wdC σ0 e kc p v z)) 10 = gI σ0 10 := rfl
  have c13 : gI (cP (wdC σ0 e kc p v z)) 13 = gI σ0 13 + 1 := rfl
  have c14 : gI (cP (wdC σ0 e kc p v z)) 14 = gI σ0 14 := rfl
  have c15 : gI (cP (wdC σ0 e kc p v z)) 15 = gI σ0 15 := rfl
  have c18 : gI (cP (wdC σ0 e kc p v z)) 18 = p := rfl
  have hFC : FrC σ0 σ' := s9
  have m9 : gI (mP (mCo μ0 r e (kMd kc) p vm zm)) 9 = gI μ0 9 + 1 := q9
  have m10 : gI (mP (mCo μ0 r e (kMd kc) p vm zm)) 10 = gI μ0 10 := q10
  have m11 : gI (mP (mCo μ0 r e (kMd kc) p vm zm)) 11 = gI μ0 11 + 1 := by show gI (mCo μ0 r e (kMd kc) p vm zm) 11 + 1 = _; rw [q11]
  have m12 : gI (mP (mCo μ0 r e (kMd kc) p vm zm)) 12 = gI μ0 12 + 1 := by show gI (mCo μ0 r e (kMd kc) p vm zm) 12 + 1 = _; rw [q12]
  have m16 : gI (mP (mCo μ0 r e (kMd kc) p vm zm)) 16 = gI μ0 16 + 1 := q16
  have m17 : gI (mP (mCo μ0 r e (kMd kc) p vm zm)) 17 = gI μ0 17 := q17
  have mrow : ∀ k x, xA (mP (mCo μ0 r e (kMd kc) p vm zm)) k x = xA (mCo μ0 r e (kMd kc) p vm zm) k x := fun k x => rfl
  have hfr' : FrM μ0 (mP (mCo μ0 r e (kMd kc) p vm zm)) := hfr
  have hpf' : PF μ0 (mP (mCo μ0 r e (kMd kc) p vm zm)) := hpf
  obtain ⟨gs1, gs2, gs3, gs4, gs5, gs6, gs7⟩ := id s11
  have hg0 : Gm 2 1 σ0 (cP (wdC σ0 e kc p v z)) μ0 (mP (mCo μ0 r e (kMd kc) p vm zm)) := by
    have i8 := iv_eq c8
    have i9 := iv_eq c9
    have i10 := iv_eq c10
    have i13 := iv_a1 c13 (by grind) (by grind)
    have i18 : iv σ0 18 < iv (cP (wdC σ0 e kc p v z)) 18 := iv_lt (by rw [c18]; exact hpp)
    have j9 := iv_a1 m9 (by grind) (by grind)
    have j10 := iv_eq m10
    unfold Gm
    omega
  have hGf : Gm 2 1 σ0 σ' μ0 μ' := (hg0.tr gs7).wk (by decide) (by decide)
  rw [m9] at gs4
  rw [m10] at gs5
  rw [c8] at gs1
  rw [c9] at gs2
  rw [c10] at gs3
  rw [c18] at gs6
  rw [c15, c9, c10, c8, m9] at s12
  have hP : gI μ0 16 < gI (mP (mCo μ0 r e (kMd kc) p vm zm)) 16 := by rw [m16]; grind
  have htop := u4 (gI μ0 16) (by grind) hP
  rw [mrow, mrow, mrow, mrow] at htop
  have hM := s10.1 (gI μ0 9) (by grind) (by rw [m9]; grind)
  simp only [mrow] at hM
  refine ⟨⟨s1, hEE.tr s4, hER.tr s5, ?_, s7.trans c14, s8.trans c15, hFC, hfr'.tr s10 (by rw [m9]; grind) (by rw [m10]; grind), ⟨gs1, gs2, gs3, by grind, gs5, by grind, hGf.wk (by decide) (by decide)⟩, hpf'.tr ⟨u4, u5⟩ (by rw [m16]; grind) (by rw [m17]; grind)⟩, s2, f20, f21, ?_, ?_, ?_, ?_, ?_, ?_, hGf, ?_, rfl, rfl, ?_, ?_, ?_, ?_, fun w => absurd w (by omega), fun _ => ?_, by grind, by grind, by grind, by grind, no01⟩
  · rw [s6, m12, m11]; grind
  · rw [u1, m16]
  · rw [u2, m17]
  · rw [m17] at u3
    rw [u3]; rfl
  · rw [htop.1]; exact v14
  · rw [htop.2.1]; exact v15
  · rw [htop.2.2.2]; exact v17
  · exact RB.one noGap rfl s12 s14 s15 s13 (Or.inr (by grind)) 0 (by omega)
  · exact hM.1.trans w2
  · exact hM.2.2.2.2.2.2.2.2.1.trans w10
  · exact hM.2.2.2.1.trans w5
  · exact hM.2.2.2.2.2.1.trans w7
  · exact hM.2.1.trans w3
