theorem con_same {σ μ μ' : S5} (h : Ct σ μ') {z : Int64} {r : Int32} (h1 : f_X4_constructorOf z σ = some (r, σ)) : f_X12_findConstructor z μ' = some (r, μ') := by
  obtain ⟨r', e1, e2, e3⟩ := con_of h z
  rw [h1] at e1
  have : r = r' := congrArg Prod.fst (Option.some.inj e1)
  rw [this]; exact e2
/-- the reference's node of an application, made at its second atom -/
def mAp (μ : S5) (p n : Int32) : S5 := pA (pA (pA (pI (ndM (mP μ) 6) 17 (gI μ 17 - 1)) 3 (gI μ 9) n) 4 (gI μ 9) n) 15 p (gI μ 9)
theorem m_259 {μ : S5} {p n : Int32} (h7 : gI μ 7 = 0) (h11 : ¬ gI μ 11 = 600) (h9 : 0 ≤ gI μ 9) (h9' : gI μ 9 < 3200) (h17 : 0 ≤ gI μ 17 - 1) (h17' : gI μ 17 - 1 < 3200) (hn : xA μ 18 (gI μ 17 - 1) = n) (hp : 0 ≤ p) (hp' : p < 3200) : f_X12_atomEnds_b259 p (-1) μ = f_X12_atomEnds_b303 (mAp μ p n) := by
  unfold f_X12_atomEnds_b259
  rw [if_pos h7, if_neg (by decide), m_part0 h7 h11, bd_of, if_neg (by decide)]
  have e9 : gI (pI (pI μ 11 (gI μ 11 + 1)) 12 (gI μ 12 + 1)) 9 = gI μ 9 := rfl
  rw [m_node 6 (by rw [e9]; exact h9) (by rw [e9]; exact h9'), bd_of, e9]
  have e17 : gI (ndM (pI (pI μ 11 (gI μ 11 + 1)) 12 (gI μ 12 + 1)) 6) 17 = gI μ 17 := rfl
  have e18 : xA (ndM (pI (pI μ 11 (gI μ 11 + 1)) 12 (gI μ 12 + 1)) 6) 18 (gI μ 17 - 1) = n := hn
  rw [m_taken (by rw [e17]; exact h17) (by rw [e17]; exact h17'), bd_of, e17, e18]
  have hf : xA (pI (ndM (pI (pI μ 11 (gI μ 11 + 1)) 12 (gI μ 12 + 1)) 6) 17 (gI μ 17 - 1)) 3 (gI μ 9) < 0 := by
    have : xA (pI (ndM (pI (pI μ 11 (gI μ 11 + 1)) 12 (gI μ 12 + 1)) 6) 17 (gI μ 17 - 1)) 3 (gI μ 9) = -1 := by
      simp [ndM, xA_pI, xA_pA, xA_pB, gI_pI]
    rw [this]; decide
  rw [m_app0 n h9 h9' hf, bd_of, gd3200 hp hp']
  rfl
theorem mAp_row (μ : S5) (p n : Int32) : xA (mAp μ p n) 2 (gI μ 9) = 6 ∧ xA (mAp μ p n) 10 (gI μ 9) = 0 ∧ xA (mAp μ p n) 5 (gI μ 9) = -1 ∧ xA (mAp μ p n) 3 (gI μ 9) = n ∧ xA (mAp μ p n) 4 (gI μ 9) = n ∧ xA (mAp μ p n) 7 (gI μ 9) = 0 := by
  simp [mAp, ndM, mP, xA_pI, xA_pA, xA_pB, gI_pI]
theorem mAp_fr (μ : S5) (p n : Int32) : FrM μ (mAp μ p n) := by
  refine ⟨fun i p q => ?_, fun i p q => rfl⟩
  have := i_ne p q
  simp [mAp, ndM, mP, xA_pI, xA_pA, xA_pB, xB_pI, xB_pA, xB_pB, gI_pI, this]
theorem EqR.Ap {σ τ : S5} {p n : Int32} (h : EqR σ τ) : EqR σ (mAp τ p n) := ((((h.P.nd).I (by decide)).A (by decide)).A (by decide)).A (by decide)
theorem Cor.low {σ0 μ0 σ μ : S5} {c n : Int32} (h : Cor σ0 (mPl (pI μ0 21 0) 8 (-1) 0) c σ μ n) (h0 : 0 ≤ gI μ0 16) (h1 : gI μ0 16 < 3200) : Ba σ0 μ0 σ μ := by
  obtain ⟨r1, r2, ⟨u1, u2, u3, u4, u5⟩, r4, r5, r6, r7, r8, r9, r10, r11, r12, r13, r14, r15⟩ := h
  refine ⟨r1, r4, (((EqR.rf μ0).I (by decide)).pl).tr r5, r6, r7, r8, r9, r10, r11, fun i p q => ?_, u5⟩
  have x := u4 i p (by show i < gI μ0 16 + 1; grind)
  have hne := i_ne p q
  have y : xA (mPl (pI μ0 21 0) 8 (-1) 0) 14 i = xA μ0 14 i ∧ xA (mPl (pI μ0 21 0) 8 (-1) 0) 15 i = xA μ0 15 i ∧ xA (mPl (pI μ0 21 0) 8 (-1) 0) 16 i = xA μ0 16 i ∧ xA (mPl (pI μ0 21 0) 8 (-1) 0) 17 i = xA μ0 17 i := by
    simp [mPl, xA_pI, xA_pA, gI_pI, hne]
  exact ⟨x.1.trans y.1, x.2.1.trans y.2.1, x.2.2.1.trans y.2.2.1, x.2.2.2.trans y.2.2.2⟩
theorem Cor.top {σ0 μ0 σ μ : S5} {k nn c n : Int32} (h : Cor σ0 (mPl (pI μ0 21 0) k nn 0) c σ μ n) (h0 : 0 ≤ gI μ0 16) (h1 : gI μ0 16 < 3200) : gI μ 16 = gI μ0 16 + 1 ∧ gI μ 17 = gI μ0 17 + 1 ∧ xA μ 18 (gI μ0 17) = n ∧ xA μ 14 (gI μ0 16) = k ∧ xA μ 15 (gI μ0 16) = nn ∧ xA μ 17 (gI μ0 16) = 0 := by
  obtain ⟨r1, r2, ⟨u1, u2, u3, u4, u5⟩, _⟩ := h
  have x := u4 (gI μ0 16) h0 (by show gI μ0 16 < gI μ0 16 + 1; grind)
  have y : xA (mPl (pI μ0 21 0) k nn 0) 14 (gI μ0 16) = k ∧ xA (mPl (pI μ0 21 0) k nn 0) 15 (gI μ0 16) = nn ∧ xA (mPl (pI μ0 21 0) k nn 0) 17 (gI μ0 16) = 0 := by
    simp [mPl, xA_pI, xA_pA, gI_pI]
  exact ⟨u1, u2, u3, x.1.trans y.1, x.2.1.trans y.2.1, x.2.2.2.trans y.2.2⟩
theorem ap_one {σ0 μ0 σ μ σ' μ' : S5} {c0 n0 c n : Int32} (hs0 : Sim σ0 μ0) (hC : Cor σ0 (mPl (pI μ0 21 0) 8 (-1) 0) c0 σ μ n0) (h160 : 0 ≤ gI μ0 16) (h161 : gI μ0 16 < 3100) (h170 : 0 ≤ gI μ0 17) (hp : gI σ 13 < 600) (hC2 : Cor (cP σ) (mAp (pA μ 17 (gI μ0 16) 1) (gI μ0 16) n0) c σ' μ' n) (f20 : gI μ' 20 = 0) (f21 : gI μ' 21 = 0) : ∃ g cc fs fu fn ft : Nat → Int32, AL σ0 μ0 (pA σ' 17 c0 c) μ' 1 c0 c (gI μ 9) g cc fs fu fn ft := by
  have hBa := hC.low h160 (by grind)
  obtain ⟨v16, v17, v18, v14, v15, vc⟩ := hC.top h160 (by grind)
  obtain ⟨r1, r4, r5, r6, r7, r8, r9, r10, r11, t4, t5⟩ := hBa
  have q12 : TR σ μ (gI σ0 15) (gI σ0 9) (gI σ 9) (gI σ0 10) (gI σ 10) (gI μ0 9) (gI μ 9) (gI σ0 8) n0 c0 := hC.2.2.2.2.2.2.2.2.2.2.2.1
  have q13 := hC.2.2.2.2.2.2.2.2.2.2.2.2.1
  have q14 := hC.2.2.2.2.2.2.2.2.2.2.2.2.2.1
  have q15 := hC.2.2.2.2.2.2.2.2.2.2.2.2.2.2
  have hp0 := hs0.p3
  have hp3 := r1.p3
  have hb0 := hs0.2.2
  have hb := r1.2.2
  unfold Bg at hb hb0
  obtain ⟨s1, s2, ⟨u1, u2, u3, u4, u5⟩, s4, s5, s6, s7, s8, s9, s10, s11, s12, s13, s14, s15⟩ := hC2
  have hb' := s1.2.2
  unfold Bg at hb'
  have hp3' := s1.p3
  obtain ⟨gr1, gr2, gr3, gr4, gr5, gr6, gr7⟩ := id r11
  obtain ⟨gs1, gs2, gs3, gs4, gs5, gs6, gs7⟩ := id s11
  have gs4' : gI μ 9 + 1 ≤ gI μ' 9 := gs4
  have gs5' : gI μ 10 ≤ gI μ' 10 := gs5
  have gs1' : gI σ 8 ≤ gI σ' 8 := gs1
  have gs2' : gI σ 9 ≤ gI σ' 9 := gs2
  have gs3' : gI σ 10 ≤ gI σ' 10 := gs3
  have gs6' : gI σ 18 ≤ gI σ' 18 := gs6
  have hg : Gm 0 0 σ (cP σ) μ (mAp (pA μ 17 (gI μ0 16) 1) (gI μ0 16) n0) := by
    have i8 : iv (cP σ) 8 = iv σ 8 := iv_eq rfl
    have i9 : iv (cP σ) 9 = iv σ 9 := iv_eq rfl
    have i10 : iv (cP σ) 10 = iv σ 10 := iv_eq rfl
    have i13 : iv (cP σ) 13 = iv σ 13 + 1 := iv_a1 rfl (by grind) (by grind)
    have i18 : iv (cP σ) 18 = iv σ 18 := iv_eq rfl
    have m9 : iv (mAp (pA μ 17 (gI μ0 16) 1) (gI μ0 16) n0) 9 = iv μ 9 + 1 := iv_a1 rfl (by grind) (by grind)
    have m10 : iv (mAp (pA μ 17 (gI μ0 16) 1) (gI μ0 16) n0) 10 = iv μ 10 := iv_eq rfl
    unfold Gm
    omega
  have hGf : Gm 2 1 σ0 σ' μ0 μ' := ((gr7.tr hg).tr gs7).wk (by decide) (by decide)
  have hrow := mAp_row (pA μ 17 (gI μ0 16) 1) (gI μ0 16) n0
  have hfr := mAp_fr (pA μ 17 (gI μ0 16) 1) (gI μ0 16) n0
  have hbd := q12.un.1
  unfold Bd at hbd
  have hcl8 : gI σ0 8 ≤ c0 ∧ c0 < gI σ 8 := by grind
  have hR1 : RB σ μ (gI σ0 15) (gI σ0 9) (gI σ0 10) (gI μ0 9) (gI σ0 8) appGap (gI μ 9) (gI σ 9) (gI σ 10) (gI μ 9) (gI σ 8) 0 1 (two n0 n0) (two c0 c0) (two (gI σ0 9) (gI σ 9)) (two (gI σ0 10) (gI σ 10)) (two (gI μ0 9) (gI μ 9)) (two (gI σ0 8) (gI σ 8)) := RB.one appGap rfl q12 q14 q15 q13 (Or.inl (by grind)) 1 (by omega)
  have hR2 : RB (cP σ) (mAp (pA μ 17 (gI μ0 16) 1) (gI μ0 16) n0) (gI σ0 15) (gI σ0 9) (gI σ0 10) (gI μ0 9) (gI σ0 8) appGap (gI μ 9) (gI σ 9) (gI σ 10) (gI μ 9) (gI σ 8) 0 1 (two n0 n0) (two c0 c0) (two (gI σ0 9) (gI σ 9)) (two (gI σ0 10) (gI σ 10)) (two (gI μ0 9) (gI μ 9)) (two (gI σ0 8) (gI σ 8)) := by
    have z := hR1.rows (μ' := pA μ 17 (gI μ0 16) 1) (fun k hk => gA_ne _ _ _ (by omega)) rfl rfl
    exact z.fr ((EqE.rf σ).P) (FrC.rf σ) hfr (by show gI μ 10 ≤ gI μ 10; grind) (by grind) (by grind) (by grind) (by show gI μ 9 ≤ gI μ 9; grind) (by grind)
  have hR3 := hR2.fr s4 s9 s10 (by show gI μ 10 ≤ gI μ' 10; grind) (by show gI σ 9 ≤ gI σ 9; grind) (by show gI σ 9 ≤ 700; grind) (by show gI σ 10 ≤ gI σ 10; grind) (by show gI μ 9 ≤ gI μ 9 + 1; grind) (by show gI σ 8 ≤ gI σ 8; grind)
  have s12' : TR σ' μ' (gI σ 15) (gI σ 9) (gI σ' 9) (gI σ 10) (gI σ' 10) (gI μ 9 + 1) (gI μ' 9) (gI σ 8) n c := s12
  rw [r8] at s12'
  have hnx := hR3.nx (by omega) (s2 := gI σ' 9) (u2 := gI σ' 10) (b2 := gI μ' 9) (n := n) (c := c) s12' s14 s15 (fun _ => rfl) (Or.inr (by show gI μ 9 < gI μ 9 + 1; grind)) (Or.inr rfl)
  have hM := s10.1 (gI μ 9) (by grind) (by show gI μ 9 < gI μ 9 + 1; grind)
  have hP : gI μ0 16 < gI μ 16 := by rw [v16]; grind
  have htop := u4 (gI μ0 16) h160 hP
  have e14 : xA (mAp (pA μ 17 (gI μ0 16) 1) (gI μ0 16) n0) 14 (gI μ0 16) = xA μ 14 (gI μ0 16) := by simp [mAp, ndM, mP, xA_pI, xA_pA, xA_pB]
  have e15 : xA (mAp (pA μ 17 (gI μ0 16) 1) (gI μ0 16) n0) 15 (gI μ0 16) = gI μ 9 := by
    simp [mAp, ndM, mP, xA_pI, xA_pA, xA_pB]
    rfl
  have e17 : xA (mAp (pA μ 17 (gI μ0 16) 1) (gI μ0 16) n0) 17 (gI μ0 16) = 1 := by simp [mAp, ndM, mP, xA_pI, xA_pA, xA_pB]
  refine ⟨upN (two n0 n0) 1 n, upN (two c0 c0) 1 c, upN (two (gI σ0 9) (gI σ 9)) 2 (gI σ' 9), upN (two (gI σ0 10) (gI σ 10)) 2 (gI σ' 10), upN (two (gI μ0 9) (gI μ 9)) 2 (gI μ' 9), upN (two (gI σ0 8) (gI σ 8)) 2 (c + 1), ⟨s1, (r4.tr (((EqE.rf σ).P).tr s4)).A (by decide), (r5.tr (((EqR.rf μ).A (by decide)).Ap)).tr s5, ?_, s7.trans r7, s8.trans r8, ?_, ?_, ?_, ?_⟩, s2, f20, f21, ?_, ?_, ?_, ?_, ?_, ?_, ?_, ?_, ?_, ?_, ?_, ?_, ?_, ?_, ?_, fun w => by omega, ?_, ?_, by grind, by grind, app01⟩
  · rw [s6]
    show (gI μ 12 + 1) - (gI μ 11 + 1) = _
    rw [← r6]
    grind
  · have z := r9.tr (σ2 := σ') s9 (by grind) (by grind) (by grind) (by grind) (by grind)
    obtain ⟨z1, z2, z3, z4⟩ := z
    refine ⟨fun i p q => ?_, z2, z3, z4⟩
    obtain ⟨x1, x2, x3, x4, x5⟩ := z1 i p q
    refine ⟨x1, x2, x3, x4, ?_⟩
    rw [xA_pA, if_neg (fun w => i_ne p (by grind) w.2)]
    exact x5
  · have z : FrM μ0 (mAp (pA μ 17 (gI μ0 16) 1) (gI μ0 16) n0) := r10.tr (μ1 := μ) (show FrM μ _ from hfr) (by grind) (by grind)
    exact z.tr s10 (by show gI μ0 9 ≤ gI μ 9 + 1; grind) (by show gI μ0 10 ≤ gI μ 10; grind)
  · exact ⟨i_trans gr1 gs1', i_trans gr2 gs2', i_trans gr3 gs3', by grind, i_trans gr5 gs5', i_trans gr6 gs6', hGf.wk (by decide) (by decide)⟩
  · refine ⟨fun i p q => ?_, fun i p q => ?_⟩
    · have x := u4 i p (by show i < gI μ 16; grind)
      have y := t4 i p q
      have hne := i_ne p q
      have w : xA (mAp (pA μ 17 (gI μ0 16) 1) (gI μ0 16) n0) 14 i = xA μ 14 i ∧ xA (mAp (pA μ 17 (gI μ0 16) 1) (gI μ0 16) n0) 15 i = xA μ 15 i ∧ xA (mAp (pA μ 17 (gI μ0 16) 1) (gI μ0 16) n0) 16 i = xA μ 16 i ∧ xA (mAp (pA μ 17 (gI μ0 16) 1) (gI μ0 16) n0) 17 i = xA μ 17 i := by
        simp [mAp, ndM, mP, xA_pI, xA_pA, xA_pB, hne]
      exact ⟨(x.1.trans w.1).trans y.1, (x.2.1.trans w.2.1).trans y.2.1, (x.2.2.1.trans w.2.2.1).trans y.2.2.1, (x.2.2.2.trans w.2.2.2).trans y.2.2.2⟩
    · have x := u5 i p (by show i < gI μ 17 - 1; grind)
      exact x.trans (t5 i p q)
  · rw [u1]; exact v16
  · rw [u2]
    show gI μ 17 - 1 + 1 = _
    grind
  · have : gI (mAp (pA μ 17 (gI μ0 16) 1) (gI μ0 16) n0) 17 = gI μ0 17 := by show gI μ 17 - 1 = _; grind
    rw [this] at u3
    rw [u3]; rfl
  · rw [htop.1, e14]; exact v14
  · rw [htop.2.1, e15]
  · rw [htop.2.2.2, e17]; rfl
  · exact hGf
  · have e8 : gI (pA σ' 17 c0 c) 8 = c + 1 := s13.symm
    rw [e8]
    exact hnx
  · rfl
  · rfl
  · exact hM.1.trans hrow.1
  · exact hM.2.2.2.2.2.2.2.2.1.trans hrow.2.1
  · exact hM.2.2.2.1.trans hrow.2.2.1
  · exact hM.2.2.2.2.2.1.trans hrow.2.2.2.2.2
  · exact fun _ => ⟨hM.2.1.trans hrow.2.2.2.1, hM.2.2.1.trans hrow.2.2.2.2.1⟩
  · grind
  · show gI μ 9 < gI μ' 9
    grind
