theorem b2_go {σ0 μ0 σ1 μ1 : S5} {E : S5 → Option (Int32 × S5)} {k : Nat} {v pl : Int32} {g cc fs fu fn ft : Nat → Int32} (hE : ESp E (gI σ0 14 + 1)) (hs0 : Sim σ0 μ0) (hz : Pz 0 σ0 μ0) (h : LB σ0 μ0 σ1 μ1 k v pl g cc fs fu fn ft) (h3 : gI σ1 17 = 3) : ∃ ν : S5, bd (f_X12_parameters v 0 μ1) (fun _ ρ => mB2 v ρ) = some ((), ν) ∧ (BF μ0 ν (bL E (gI σ0 9 * 5 + nI k) pl σ1) ∨ (gI ν 18 = 1 ∧ gI ν 19 = 1 ∧ Qt (bL E (gI σ0 9 * 5 + nI k) pl σ1) (BOut σ0 μ0 σ1 k v cc ν))) := by
  have hb0 := hs0.2.2
  unfold Bg at hb0
  obtain ⟨h160, h161, h170, h171⟩ := hz.rg hb0.2.2.2.2.2.2.2.1 (by decide)
  have hl := h
  obtain ⟨l1, lF, ⟨x14, x15, x16, x17, x9, q9, q9'⟩, ⟨p14, p15⟩, ly, lz, ⟨n4, ln⟩, ⟨w2, w5, w6, w10⟩, lRG, lG⟩ := hl
  obtain ⟨fE, fR, fC, fM, fP, f12, f8, f9, f10, fm9, fm10, f18⟩ := lF
  have hb1 := l1.2.2
  have hp1 := l1.p3
  have hpn1 := pn_3 l1
  unfold Bg at hb1
  have hv : 0 ≤ v ∧ v < 3200 := by grind
  have hs00 : 0 ≤ gI σ1 9 ∧ gI σ1 9 < 700 := by grind
  have h16 : 0 ≤ gI μ1 16 ∧ gI μ1 16 < 3100 := by rw [x16]; grind
  have h17 : 0 ≤ gI μ1 17 ∧ gI μ1 17 < 3100 := by rw [x17]; grind
  have hm3 : gI μ1 4 = 3 := by rw [l1.1.2.2.1, h3]; decide
  by_cases hp : gI σ1 13 < 600
  · rw [c_bL h3 hp hs00.1 hs00.2]
    rcases b2_names l1 h3 hp q9' hv.1 w2 w5 w6 w10 with ⟨σ5, μ5, j, n1, n2, n3, n4', n5, n6, n7⟩ | ⟨f, q, m, σ5, μ5, n1, n2, d1, d2, d3, d4, d5, d6, d7⟩
    · rw [n1, n2, bd_of, bd_of]
      have hb5 := n3.2.2
      unfold Bg at hb5
      have w3 := n3.1.2.2.1
      have w4 := n3.1.2.2.2.1
      have hF5 := n4'
      obtain ⟨tE, tR, tC, tM, tP, t12, ⟨x58, x59, x510, x514, x515⟩, ⟨r9, r10, r16, r17⟩, ty, tz, t8, t9⟩ := hF5
      rw [mB2_go hb5.2.1]
      by_cases h61 : gI σ5 17 = 61
      · have hm61 : gI μ5 4 = 161 := by rw [w3, h61]; decide
        obtain ⟨e, kc, p, vv, z, vm, zm, a1, a2, a3, a4, a5⟩ := sim_adv n3 (by rw [h61]; decide)
        have hex : f_X5_expect 61 σ5 = some ((), wdC σ5 e kc p vv z) := by
          unfold f_X5_expect
          rw [if_pos h61, a1, bd_of]
        have r16' : gI (wdM μ5 e (kMd kc) p vm zm) 16 = gI μ1 16 := (gI_wdM (by decide)).trans r16
        have hν : bd (f_X12_next μ5) (fun _ τ2 => bd (f_X12_pile 2 v 0 τ2) (fun _ τ3 => some ((), pI (pI τ3 19 1) 18 1))) = some ((), pI (pI (mPl (wdM μ5 e (kMd kc) p vm zm) 2 v 0) 19 1) 18 1) := by
          rw [a2, bd_of, m_pile (μ := wdM μ5 e (kMd kc) p vm zm) 2 v 0 (by rw [r16']; exact h16.1) (by rw [r16']; grind), bd_of]
          rfl
        have hP6 : FHd (1 + 0) 0 σ1 μ1 (wdC σ5 e kc p vv z) (wdM μ5 e (kMd kc) p vm zm) v pl pl (gI σ1 15) 1 (gI σ1 9) := n4'.pm (PmF.w _ _ e kc p vv e (kMd kc) vm z zm a4) (by have : iv σ5 18 < iv (wdC σ5 e kc p vv z) 18 := iv_lt (by rw [p_wdC]; exact a4); omega)
        have hN6 : NM (wdC σ5 e kc p vv z) (wdM μ5 e (kMd kc) p vm zm) (gI σ1 9) v j := n5.w
        have hg6 : xA (wdM μ5 e (kMd kc) p vm zm) 9 v + nI j = gI (wdM μ5 e (kMd kc) p vm zm) 10 := by rw [xA_wdM, gI_wdM (by decide)]; exact n7
        have hS6 : Sim (pI (wdC σ5 e kc p vv z) 15 (gI σ1 9)) (wdM μ5 e (kMd kc) p vm zm) := a3.h15 hs00.1 (by rw [gI_wdC (by decide), x59]; grind)
        have hH := hP6.bh 2 (by decide) hS6 hN6 hg6
        rw [if_pos hm61, hν, hex, bd_of]
        refine ⟨_, rfl, Or.inr ⟨rfl, rfl, ?_⟩⟩
        clear hν a1 a2 hex hS6 hN6 hg6 hP6 a3
        generalize wdC σ5 e kc p vv z = σ6 at *
        generalize pI (pI (mPl (wdM μ5 e (kMd kc) p vm zm) 2 v 0) 19 1) 18 1 = N at *
        have hH' := hH
        obtain ⟨NS, SE6, NE, SC, NM', NP, N12, ⟨g8, g9, g10, g14, g15⟩, ⟨N9, N10, N16, N17, N18, N19⟩, gy, gn, gz, ⟨t14, t15⟩, S18, hG6⟩ := hH'
        have n16 : gI N 16 = gI μ0 16 + 1 + 1 := by rw [N16, x16]
        have n17 : gI N 17 = gI μ0 17 := N17.trans x17
        have hpn2 : pn σ1 + 1 ≤ pn (pI σ6 15 (gI σ1 9)) := pn_lt hp1.1 (show gI σ1 18 < gI σ6 18 from Int32.lt_iff_toInt_lt.mpr (by have : iv σ1 18 + 1 ≤ iv σ6 18 := S18; unfold iv at this; omega))
        have hIn := hE.2 (pI σ6 15 (gI σ1 9)) N NS (by rw [N19]; decide) (by rw [N18]; decide) (by
          have i16 := iv_a1 N16 h16.1 (by grind)
          have i16' := iv_a1 x16 (by grind) (by grind)
          have i17 := iv_eq n17
          have i14 : iv (pI σ6 15 (gI σ1 9)) 14 = iv σ1 14 := iv_eq g14
          have i14' := iv_a1 x14 (by grind) (by grind)
          unfold Pz at *
          omega) (by show gI σ0 14 + 1 ≤ gI σ6 14; rw [g14, x14]; exact Int32.le_refl _) (by rw [N16, show gI μ1 16 + 1 - 1 = gI μ1 16 by grind, t14]; decide)
        unfold bT f_X5_readWithin
        rw [bd_as]
        refine Qt.bd hIn (fun c σ7 ow => ?_)
        rw [bd_of, g15]
        rcases ow with ⟨μ9, n9, kk, o1, o2, o3, o4, o5⟩ | ⟨f, pp, mm, kk, o1, o2, o3, o4, o5⟩
        · have hc1 := o3.1
          have hb7 := hc1.2.2
          have hb6 := NS.2.2
          unfold Bg at hb7
          have hLM := b2_mid h hH n6 o3 (fs2_of σ7 (gI σ1 9) c (gI σ1 15)) (fb_of μ9 v n9) ((wd_FS2 hc1.1).EB) hv.1 h16.1 h16.2 h17.1 h17.2
          have hLI := hLM.li hs0 h (by grind) (by grind) h170
          obtain ⟨u1, u2, u3, u4, u5⟩ := o3.2.2.1
          have u41 := u4 (gI μ0 16 + 1) (by grind) (by rw [n16]; grind)
          have u40 := u4 (gI μ0 16) (by grind) (by rw [n16]; grind)
          have np := NP.1 (gI μ0 16) (by grind) (by rw [x16]; grind)
          have hS8 := (fs2_of σ7 (gI σ1 9) c (gI σ1 15)).1
          have hpn8 : pn (cN (cN (pA (pI σ7 15 (gI σ1 15)) 23 (gI σ1 9) c) 14 (gI σ1 9) 0 (-1)) 10 (gI σ0 9 * 5 + nI k) 0 (gI σ7 8)) = pn σ7 := rfl
          rw [gd700 hs00.1 hs00.2]
          unfold f_X9_addLeaf
          rw [c_addN (σ := pA (pI σ7 15 (gI σ1 15)) 23 (gI σ1 9) c) 14 (gI σ1 9) 0 (-1) (by show 0 ≤ gI σ7 8; grind) (by show gI σ7 8 < 6200; grind), bd_of, bd_of]
          unfold f_X5_readBinding_b52
          rw [show gI (pA (pI σ7 15 (gI σ1 15)) 23 (gI σ1 9) c) 8 = gI σ7 8 from rfl]
          generalize cN (pA (pI σ7 15 (gI σ1 15)) 23 (gI σ1 9) c) 14 (gI σ1 9) 0 (-1) = S at *
          rw [c_addN (σ := S) 10 (gI σ0 9 * 5 + nI k) 0 (gI σ7 8) (by rw [hS8]; grind) (by rw [hS8]; grind), bd_of]
          refine Qt.so (Or.inl ⟨μ9, n9, kk, _, _, _, _, _, ?_, o2, ⟨hb7.2.1, o3.2.1, o4, ?_, by rw [u1, n16], by rw [u2, n17], ?_, ?_, ?_, ?_⟩, ⟨by rw [hS8]; grind, by rw [hS8]; grind⟩, hLI⟩)
          · omega
          · rw [hc1.1.2.2.1, rk_eq hc1.1.2.2.2.1, o5]; decide
          · rw [u41.1, ← x16]; exact t14
          · rw [u41.2.1, ← x16]; exact t15
          · rw [u40.2.1, np.2.1]; exact p15
          · rw [← n17]; exact u3
        · exact (dm_bR abE o3 hs00.1 hs00.2 (by grind) (by grind)).mono (fun c3 σ8 w => Or.inr ⟨f, pp, mm, kk, by omega, o2.base (N12.trans f12) (fR.tr NE), w.1, w.2.1, w.2.2⟩)
      · have hm61 : ¬ gI μ5 4 = 161 := by rw [w3]; intro q; exact h61 ((kMd_at 61 (by decide +kernel) w4).mp (by rw [q]; decide))
        obtain ⟨τ, g1, g2⟩ := c_ref n3 (k := 1) (by decide)
        have hex : f_X5_expect 61 σ5 = some ((), τ) := by
          unfold f_X5_expect
          rw [if_neg h61, bd_eta, g1]
        rw [if_neg hm61, bd_of, m_pile (μ := pI (pI μ5 7 1) 8 (gI μ5 5)) 2 v 0 (by show 0 ≤ gI μ5 16; rw [r16]; exact h16.1) (by show gI μ5 16 < 3200; rw [r16]; grind), bd_of, hex, bd_of]
        refine ⟨_, rfl, Or.inl ⟨1, gI σ5 18, gI σ5 13, by decide, rfl, n3.1.2.2.2.2.1.symm, hb5.2.2.1.symm, t12.trans f12, ?_, st_bT hE.1 abE g2 hs00.1 hs00.2⟩⟩
        exact (((((fR.tr tR).I (by decide)).I (by decide)).pl).I (by decide)).I (by decide)
    · rw [n1, n2, bd_of, bd_of]
      have hf0 := d1.2.1
      rw [mB2_F (μ := μ5) (v := v) (by rw [d2]; exact hf0) (by rw [d7]; exact h16.1) (by rw [d7]; grind), st_expect 61 (by decide) d1, bd_of]
      refine ⟨_, rfl, Or.inl ⟨f, q, m, hf0, ?_, ?_, ?_, ?_, ?_, st_bT hE.1 abE d1 hs00.1 hs00.2⟩⟩
      · rw [mPl_gI _ _ _ _ (by decide) (by decide) (by decide)]; exact d2
      · rw [mPl_gI _ _ _ _ (by decide) (by decide) (by decide)]; exact d3
      · rw [mPl_gI _ _ _ _ (by decide) (by decide) (by decide)]; exact d4
      · rw [mPl_gI _ _ _ _ (by decide) (by decide) (by decide), mPl_gI _ _ _ _ (by decide) (by decide) (by decide)]; exact d5.trans f12
      · exact ((((fR.tr d6).Pl).I (by decide)).I (by decide))
  · have hp6 : gI μ1 11 = 600 := by rw [← hb1.2.2.1]; grind
    obtain ⟨τ, g1, g2⟩ := c_cnt1 l1 hp
    have hpar : f_X12_parameters v 0 μ1 = some ((), pI (pI (pA μ1 9 v (gI μ1 10)) 7 4) 8 (gI μ1 5)) := by
      unfold f_X12_parameters
      obtain ⟨m, hm⟩ : ∃ m, FU = m + 2 := ⟨FU - 2, by have := FU_big (n := 5000) (by decide); omega⟩
      rw [gd3200 hv.1 hv.2, hm]
      exact m_pm6 (μ := pA μ1 9 v (gI μ1 10)) m hb1.2.1 hm3 hv.1 hv.2 (by rw [a9_A _ _ _ _ (by decide)]; exact w2) (by rw [a9_A _ _ _ _ (by decide)]; exact w10) hp6
    have hF : ¬ gI (pI (pI (pA μ1 9 v (gI μ1 10)) 7 4) 8 (gI μ1 5)) 7 = 0 := (by decide : ¬ (4 : Int32) = 0)
    rw [hpar, bd_of, mB2_F (μ := pI (pI (pA μ1 9 v (gI μ1 10)) 7 4) 8 (gI μ1 5)) (v := v) hF h16.1 (by show gI μ1 16 < 3200; grind)]
    refine ⟨_, rfl, Or.inl ⟨4, gI σ1 18, gI σ1 13, by decide, rfl, l1.1.2.2.2.2.1.symm, hb1.2.2.1.symm, f12, ?_, ?_⟩⟩
    · exact (((((fR.A (by decide)).I (by decide)).I (by decide)).Pl).I (by decide)).I (by decide)
    · unfold bL
      rw [g1, bd_of]
      refine Qt.bd (st_lift hE.1 abE pl g2) (fun r τ1 w => ?_)
      unfold f_X5_readBinding_b52
      rw [bd_eta']
      exact dm_add9 _ _ _ _ w.1
