theorem Qt.ex {x : Option (Unit × S5)} {P : Unit → S5 → Prop} (h : Qt x P) : ∃ τ, x = some ((), τ) ∧ P () τ := by
  obtain ⟨r, τ, e, hp⟩ := h
  exact ⟨τ, e, hp⟩
/-- a function at the top -/
theorem fn_go {μ0 σ μ : S5} {E : S5 → Option (Int32 × S5)} {k : Nat} {cc fs fu fn ft : Nat → Int32} (hE : ESp E 0) (h : TP μ0 σ μ k cc fs fu fn ft) : (∃ (σ' μ' : S5) (cc' fs' fu' fn' ft' : Nat → Int32), f_X5_readFunction E σ = some ((), σ') ∧ f_X12_readFunction μ = some ((), μ') ∧ gI σ 18 < gI σ' 18 ∧ k ≤ 29 ∧ TP μ0 σ' μ' (k + 1) cc' fs' fu' fn' ft') ∨ (∃ (f p n : Int32) (σ' μ' : S5), f_X5_readFunction E σ = some ((), σ') ∧ f_X12_readFunction μ = some ((), μ') ∧ TD μ0 f p n σ' μ') := by
  have hl := h
  obtain ⟨hs, hbm, ⟨h15, h14, h16, h17, hs7⟩, ⟨hk30, h5, h6, h13⟩, h12, hT, ⟨-, hPG, -⟩⟩ := hl
  have hbs := hs.2.2
  have hps := hs.p3
  unfold Bv at hbs
  have hs00 : 0 ≤ gI σ 9 ∧ gI σ 9 < 690 := ⟨hbs.2.2.2.2.2.2.2.2.2.2.1, by have := hbs.2.2.2.2.2.2.2.2.2.2.2.1; grind⟩
  have hn00 : 0 ≤ gI μ 9 ∧ gI μ 9 < 3200 := ⟨hbs.2.2.2.2.2.2.2.2.2.2.2.2.2.2.2.2.1, by have := hbs.2.2.2.2.2.2.2.2.2.2.2.2.2.2.2.2.2.1; grind⟩
  have w3 := hs.1.2.2.1
  have w4 := hs.1.2.2.2.1
  have w5 : gI σ 18 = gI μ 5 := hs.1.2.2.2.2.1
  have hrow : ∀ i, i < k → xB σ 1 (nI i) = xB μ 2 (nI i) := fun i hi => (hPG i hi).1.1
  clear hPG
  have hFb : ∀ (f : Int32), ¬ f = 0 → ∃ μ', f_X12_readFunction_b73 (pI (pI μ 7 f) 8 (gI μ 5)) = some ((), μ') ∧ gI μ' 7 = f ∧ gI μ' 8 = gI μ 5 ∧ gI μ' 11 = gI μ 11 ∧ gI μ' 12 - gI μ' 11 = gI μ0 12 ∧ EqT μ0 μ' := by
    intro f hf
    refine ⟨_, rf_b73F (μ := pI (pI μ 7 f) 8 (gI μ 5)) hf hn00.1 hn00.2, rfl, rfl, rfl, h12, ?_⟩
    exact ((hT.I (by decide)).I (by decide)).tr (EqR.t EqR.ndB)
  have hdone : ∀ (f : Int32) (τ : S5), St f (gI σ 18) (gI σ 13) τ → f_X5_readFunction_b62 E τ = some ((), τ) := by
    intro f τ hst
    unfold f_X5_readFunction_b62
    rw [if_pos hst.1]
  by_cases h3 : gI σ 17 = 3
  · have hm3 : gI μ 4 = 3 := by rw [w3, h3]; decide
    have hz : gJ σ 0 = gJ μ 0 := hs.1.2.2.2.2.2.2.2.2.2.1 (Or.inl h3)
    obtain ⟨r, e1, e2⟩ := tl_loop hk30 h5 h13 hrow hbs.2.1 hm3 hz hn00.1 hn00.2 k 0 FU (by omega) (FU_big (by omega))
    have htop : f_X4_topOf (gJ σ 0) σ = some (r, σ) := e1
    rcases e2 with ⟨r0, e2⟩ | ⟨r0, hnew, e2⟩
    · right
      obtain ⟨τ, g1, g2⟩ := c_refv hs (k := 2) (by decide)
      obtain ⟨μ', y1, y2, y3, y4, y5, y6⟩ := hFb 2 (by decide)
      refine ⟨2, gI σ 18, gI σ 13, τ, μ', ?_, ?_, g2, y2, by rw [y3]; exact w5.symm, by rw [y4]; exact hbs.2.2.1.symm, y5, y6⟩
      · unfold f_X5_readFunction
        rw [if_pos h3, htop, bd_of, if_neg (by intro w; rw [w] at r0; exact absurd r0 (by decide)), g1, bd_of, hdone 2 τ g2]
      · show f_X12_readFunction_L2 FU 0 μ = _
        rw [show f_X12_readFunction_L2 FU 0 μ = _ from e2]
        exact y1
    · subst r0
      by_cases ck : k = 30
      · right
        obtain ⟨τ, g1, g2⟩ := c_refv hs (k := 4) (by decide)
        obtain ⟨μ', y1, y2, y3, y4, y5, y6⟩ := hFb 4 (by decide)
        refine ⟨4, gI σ 18, gI σ 13, τ, μ', ?_, ?_, g2, y2, by rw [y3]; exact w5.symm, by rw [y4]; exact hbs.2.2.1.symm, y5, y6⟩
        · unfold f_X5_readFunction
          rw [if_pos h3, htop, bd_of, if_pos rfl, if_neg (by rw [h5, ck]; decide), g1, bd_of, hdone 4 τ g2]
        · show f_X12_readFunction_L2 FU 0 μ = _
          rw [show f_X12_readFunction_L2 FU 0 μ = _ from e2, if_pos ck]
          exact y1
      · have hk29 : k ≤ 29 := by omega
        have hki := nI_n30 (i := k) (by omega)
        obtain ⟨σ2, μc, μ2, a1, a2, a3, a4, a5, h1⟩ := fn_one h h3 hk29
        rw [c_fn (E := E) h3 htop (by rw [h5]; exact hki.1) (by rw [h5]; exact hki.2) (by rw [h6]; exact hki.1) (by rw [h6]; have := hki.2; grind) hs00.1 (by grind) a1]
        have href : f_X12_readFunction μ = bd (f_X12_parameters_L10 FU (gI μ 9) 0 μ2) (fun _ τ => f_X12_readFunction_b180 (gI μ 9) τ) := by
          show f_X12_readFunction_L2 FU 0 μ = _
          rw [show f_X12_readFunction_L2 FU 0 μ = _ from e2, if_neg ck, rf_b73 hbs.2.1 hm3 hn00.1 hn00.2 a2 a3 a4 (by rw [h13]; exact hki.1) (by rw [h13]; have := hki.2; grind)]
          unfold f_X12_parameters
          rw [gd3200 hn00.1 hn00.2, a5]
        rw [href]
        clear a1 a2 a3 a4 a5 href e1 e2 hdone hFb
        obtain ⟨σ1, e9, eI, eF, eE, hF2⟩ := fh_top h1 hs00.1 (by have := hs00.2; grind)
        have hf1 := h1
        obtain ⟨n1, n18, nI', ⟨n5, n6, n9'⟩, n2, nF, ni, nk, ns, ⟨mI, m9, m13, mF⟩, mi, mk, mr, mT⟩ := hf1
        have hN2 : NM σ2 μ2 (gI σ 9) (gI μ 9) 0 := by
          have hb2 := n1.2.2
          have hp2 := n1.p3
          unfold Bv at hb2
          refine ⟨by omega, ns.1, mr.2.2.2.1, by rw [mr.2.2.2.2]; exact hb2.2.2.2.2.2.2.2.2.2.2.2.2.2.2.2.2.2.2.1, ?_, fun i hi => absurd hi (by omega)⟩
          rw [mr.2.2.2.2]
          have := hb2.2.2.2.2.2.2.2.2.2.2.2.2.2.2.2.2.2.2.2.1
          have := hp2.2
          grind
        have hg2 : xA μ2 9 (gI μ 9) + nI 0 = gI μ2 10 := by rw [mr.2.2.2.2, show nI 0 = 0 from rfl, Int32.add_zero]
        have hd2 : gI μ2 12 - gI μ2 11 = gI μ0 12 := by rw [mI 12 (by decide) (by decide) (by decide), mI 11 (by decide) (by decide) (by decide)]; exact h12
        have hT2 : EqT μ0 μ2 := hT.tr mT
        have hbig := FU_big (n := 30000) (by decide)
        rcases pm_loopv (s := gI σ 9) (n := gI μ 9) (v := 0) hs00.1 (by grind) hn00.1 hn00.2 5 0 0 FU FU σ2 μ2 (by omega) (by omega) (by omega) (by omega) n1 hN2 hg2 (Or.inl (by rw [mr.1]; decide)) (by decide) with ⟨σ5, μ5, j, s1, s2, s3, s4, s5, s6, s7, s8⟩ | ⟨f, σ5, μ5, s1, s2, q, d1, d2, d3, d4, d5, d6, d7⟩
        · rw [show f_X5_readParameters (gI σ 9) σ2 = some ((), σ5) from s1, bd_of, s2, bd_of]
          have s8' := s8
          rw [← e9] at s8'
          have hF5 := hF2.pm (d := 0) s8' (by have := iv_le s8.2.2.2.2.2.2.1; omega)
          have hb5 := s3.2.2
          unfold Bv at hb5
          have v3 := s3.1.2.2.1
          have v4 := s3.1.2.2.2.1
          obtain ⟨tE, tR, tC, tM, tP, t12, ⟨x58, x59, x510, x514, x515⟩, ⟨y9, y10, y16, y17⟩, ty, tz, t8, t9⟩ := id hF5
          rw [rf_b180 hb5.2.1]
          by_cases h61 : gI σ5 17 = 61
          · have hm61 : gI μ5 4 = 161 := by rw [v3, h61]; decide
            obtain ⟨e, kc, p, vv, z, vm, zm, a1, a2, a3, a4, a5⟩ := sv_adv s3 (by rw [h61]; decide)
            have hex : f_X5_expect 61 σ5 = some ((), wdC σ5 e kc p vv z) := by
              unfold f_X5_expect
              rw [if_pos h61, a1, bd_of]
            have hP6 := hF5.pm (d := 1) (PmF.w (σ := σ5) (μ := μ5) (gI σ1 9) (gI μ 9) e kc p vv e (kMd kc) vm z zm a4) (by have : iv σ5 18 < iv (wdC σ5 e kc p vv z) 18 := iv_lt (by rw [p_wdC]; exact a4); omega)
            have hN6 : NM (wdC σ5 e kc p vv z) (wdM μ5 e (kMd kc) p vm zm) (gI σ1 9) (gI μ 9) j := by rw [e9]; exact s4.w
            have hg6 : xA (wdM μ5 e (kMd kc) p vm zm) 9 (gI μ 9) + nI j = gI (wdM μ5 e (kMd kc) p vm zm) 10 := by rw [xA_wdM, gI_wdM (by decide)]; exact s6
            have m7 : gI (wdM μ5 e (kMd kc) p vm zm) 7 = 0 := (gI_wdM (by decide)).trans hb5.2.1
            have r16 : gI (wdM μ5 e (kMd kc) p vm zm) 16 = 0 := (gI_wdM (by decide)).trans (y16.trans ((mI 16 (by decide) (by decide) (by decide)).trans h16))
            have hrE : f_X12_readE (gI μ 9) (wdM μ5 e (kMd kc) p vm zm) = f_X12_readE_L22 FU (pI (pI (pI (mPl (wdM μ5 e (kMd kc) p vm zm) 0 (gI μ 9) 0) 19 1) 18 1) 20 1) := by
              unfold f_X12_readE
              rw [m_pile (μ := wdM μ5 e (kMd kc) p vm zm) 0 (gI μ 9) 0 (by rw [r16]; decide) (by rw [r16]; decide), bd_of]
              rfl
            rw [hex, bd_of, if_pos hm61, a2, bd_of, if_pos m7, hrE]
            clear hex a1 a2 hrE m7 r16
            generalize wdC σ5 e kc p vv z = σ6 at *
            generalize wdM μ5 e (kMd kc) p vm zm = μ6 at *
            obtain ⟨-, -, -, -, -, -, ⟨-, x69, -, -, -⟩, ⟨y69, -, -, -⟩, -, -, w18, wG⟩ := id hP6
            have hBm6 : Bm σ6 μ6 := by
              have hb6 := a3.2.2
              unfold Bv at hb6
              have hBw := hb6.2.2.2.2.2.2.2.2.2.2.2.2.2.2.2.2.2.2.2.2.2.2
              have i9 := iv_a1 x69 (by rw [e9]; exact hs00.1) (by rw [e9]; have := hs00.2; grind)
              have j9 : iv μ6 9 = iv μ 9 + 1 := iv_a1 y69 hn00.1 (by have := hn00.2; grind)
              have i13 := iv_eq (show gI σ1 13 = gI σ 13 from (eI 13 (by decide)).trans (nI' 13 (by decide) (by decide) (by decide) (by decide)))
              have i18 := iv_eq (show gI σ1 18 = gI σ2 18 from eI 18 (by decide))
              unfold Bw at hBw
              unfold Bm at *
              unfold Gm at wG
              omega
            have hS6 : Sim (pI σ6 15 (gI σ1 9)) μ6 := a3.sim hBm6 (by rw [e9]; exact hs00.1) (by rw [x69, e9]; have := hs00.2; have := hs00.1; grind)
            have hH := (hP6.bh 0 (by decide) hS6 hN6 hg6).I20
            rcases fn_E hE h hk29 hz (fun i hi => hnew i (by omega) hi) h1 e9 eI eF eE hH with ⟨σ', μ', cc', fs', fu', fn', ft', z1, z2, z3, z4⟩ | ⟨f, p', n, σ', μ', z1, z2, z3⟩
            · exact Or.inl ⟨σ', μ', cc', fs', fu', fn', ft', z1, z2, z3, hk29, z4⟩
            · exact Or.inr ⟨f, p', n, σ', μ', z1, z2, z3⟩
          · right
            have hm61 : ¬ gI μ5 4 = 161 := by rw [v3]; intro q; exact h61 ((kMd_at 61 (by decide +kernel) v4).mp (by rw [q]; decide))
            obtain ⟨τ, g1, g2⟩ := c_refv s3 (k := 1) (by decide)
            have hex : f_X5_expect 61 σ5 = some ((), τ) := by
              unfold f_X5_expect
              rw [if_neg h61, bd_eta, g1]
            obtain ⟨τ2, f1, f2⟩ := (st_fT hE.1 g2 hs00.1 (by have := hs00.2; grind : gI σ 9 < 700)).ex
            rw [hex, bd_of, if_neg hm61]
            refine ⟨1, gI σ5 18, gI σ5 13, τ2, _, f1, rfl, f2, rfl, s3.1.2.2.2.2.1.symm, hb5.2.2.1.symm, t12.trans hd2, ?_⟩
            exact hT2.tr (((tR.I (by decide)).I (by decide)).t)
        · right
          rw [show f_X5_readParameters (gI σ 9) σ2 = some ((), σ5) from s1, bd_of, s2, bd_of, st_expect 61 (by decide) d1, bd_of, rf_b180F (by rw [d2]; exact d1.2.1)]
          obtain ⟨τ2, f1, f2⟩ := (st_fT hE.1 d1 hs00.1 (by have := hs00.2; grind : gI σ 9 < 700)).ex
          have hb2 := n1.2.2
          unfold Bv at hb2
          exact ⟨f, q, gI σ2 13, τ2, μ5, f1, rfl, f2, d2, d3, by rw [d4]; exact hb2.2.2.1.symm, by rw [d5, d4]; exact hd2, hT2.tr d6.t⟩
  · right
    have hm3 : ¬ gI μ 4 = 3 := by rw [w3]; intro q; exact h3 ((kMd_at 3 (by decide +kernel) w4).mp (by rw [q]; decide))
    obtain ⟨τ, g1, g2⟩ := c_refv hs (k := 1) (by decide)
    refine ⟨1, gI σ 18, gI σ 13, τ, pI (pI (pB (ndM μ 12) 0 (gI μ 9) (gJ μ 0)) 7 1) 8 (gI μ 5), ?_, ?_, g2, rfl, w5.symm, hbs.2.2.1.symm, ?_, ?_⟩
    · unfold f_X5_readFunction
      rw [if_neg h3, g1, bd_of, hdone 1 τ g2]
    · show f_X12_readFunction_L2 FU 0 μ = _
      rw [show f_X12_readFunction_L2 FU 0 μ = _ from tl_no hk30 h13 hm3 k 0 FU (by omega) (FU_big (by omega))]
      exact rf_b73N hbs.2.1 hm3 hn00.1 hn00.2
    · exact h12
    · exact ((hT.tr (EqR.t EqR.ndB)).I (by decide)).I (by decide)
