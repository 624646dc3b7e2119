theorem Sim.op {σ μ : S5} (h : Sim σ μ) (ho : gI σ 14 < 30) : Sim (pI σ 14 (gI σ 14 + 1)) (pI μ 15 (gI μ 15 + 1)) := by
  have hp3 := h.p3
  have hbm := h.bm
  obtain ⟨hw, hc, hb⟩ := h
  unfold Bg at hb
  obtain ⟨b1, b2, b3, b4, b5, b6, b7, b8, b9, b10, b11, b12, b13, b14, b15, b16, b17, b18, b19, b20, b21, b22, b23⟩ := hb
  exact ⟨(hw.I14).I15m, Ct_eq hc ((EqE.rf σ).I (by decide)) ((EqR.rf μ).I (by decide)), ⟨b1, b2, b3, b4, b5, by show gI σ 14 + 1 = gI μ 15 + 1; rw [b6], by show 0 ≤ gI σ 14 + 1; grind, by show gI σ 14 + 1 ≤ 30; grind, b9, b10, b11, b12, b13, b14, b15, b16, b17, b18, b19, b20, b21, b22, b23⟩⟩
theorem dm_laR {f p n : Int32} {σ : S5} (B : Int32 → Prop) {s r h : Int32} (hD : Dm B f p n σ) (h0 : 0 ≤ s) (h1 : s < 700) (hh0 : -1 ≤ h) (hh1 : h < 700) : Qt (gd s 700 <| bd (f_X9_addLeaf 14 s (pA (pI σ 15 h) 23 s r)) (fun r90 τ90 => some (r90, pI τ90 14 (gI τ90 14 - 1)))) (fun r τ => Dm B f p n τ ∧ 0 ≤ r ∧ r < 6200) := by
  rw [gd700 h0 h1]
  refine Qt.bd (dm_leaf _ _ (Dm23 _ _ (Dm15 hD hh0 hh1))) (fun r τ w => ?_)
  exact Qt.so ⟨Dm14 _ w.1, w.2.1, w.2.2⟩
theorem st_laT {f p n : Int32} {σ : S5} {E : S5 → Option (Int32 × S5)} (hE : ∀ (f p n : Int32) (σ : S5), St f p n σ → E σ = some (0, σ)) (B : Int32 → Prop) {s : Int32} (h : St f p n σ) (h0 : 0 ≤ s) (h1 : s < 700) : Qt (laT E s σ) (fun r τ => Dm B f p n τ ∧ 0 ≤ r ∧ r < 6200) := by
  unfold laT
  rw [st_within hE h (by grind) h1, bd_of, gd700 h0 h1]
  refine Qt.bd (dm_leaf (B := B) _ _ (Dm23 _ _ (Or.inl h))) (fun r τ w => ?_)
  exact Qt.so ⟨Dm14 _ w.1, w.2.1, w.2.2⟩
theorem NM.w {σ μ : S5} {s n e k p v e' k' p' v' : Int32} {z z' : Int64} {j : Nat} (h : NM σ μ s n j) : NM (wdC σ e k p v z) (wdM μ e' k' p' v' z') s n j := h
/-- the reference's end of a lambda -/
theorem m_endL {μ9 : S5} {P O n n9 : Int32} (hP0 : 0 ≤ P) (hP1 : P < 3100) (e16 : gI μ9 16 = P + 1) (hO0 : 0 ≤ O) (hO1 : O < 3100) (e17 : gI μ9 17 = O + 1) (t14 : xA μ9 14 P = 4) (t15 : xA μ9 15 P = n) (t18 : xA μ9 18 O = n9) (hn0 : 0 ≤ n) (hn1 : n < 3200) : f_X12_endE μ9 = some ((), mCl (pA (pI μ9 17 (gI μ9 17 - 1)) 3 n n9) n) := by
  have hp : gI μ9 16 - 1 = P := by rw [e16]; grind
  have ho : gI μ9 17 - 1 = O := by rw [e17]; grind
  unfold f_X12_endE
  rw [red_no 1 (by rw [e16]; grind) (by rw [e16]; grind) (by rw [hp, t14]; decide), bd_of, hp, gd3200 hP0 (by grind), gd3200 hP0 (by grind), t14, t15, if_neg (by decide), if_neg (by decide), if_neg (by decide), if_pos rfl, m_taken (by rw [ho]; exact hO0) (by rw [ho]; grind), bd_of, gd3200 hn0 hn1, ho, t18, m_close (μ := pA (pI μ9 17 O) 3 n n9) n (by exact hO0) (by show O < 3200; grind), bd_of]
/-- a lambda -/
theorem la_go {σ0 μ0 : S5} {E : S5 → Option (Int32 × S5)} (hE : ESp E (gI σ0 14 + 1)) (hs0 : Sim σ0 μ0) (hz : Pz 0 σ0 μ0) (h19 : ¬ gI μ0 19 = 0) (h18 : ¬ gI μ0 18 = 0) (hk : gI σ0 17 = 92) : Qt (f_X5_readLambda E σ0) (Out (4 * pn σ0) (fun μ' => gI μ' 20 = 1) (fun k => rkK k = 0) abE σ0 μ0 μ0) := by
  have hb := hs0.2.2
  have hp3 := hs0.p3
  have hpn := pn_3 hs0
  unfold Bg at hb
  obtain ⟨h160, h161, h170, h171⟩ := hz.rg hb.2.2.2.2.2.2.2.1 (by decide)
  have hw4 : gI μ0 4 = 192 := by rw [hs0.1.2.2.1, hk]; decide
  have hs00 : 0 ≤ gI σ0 9 ∧ gI σ0 9 < 700 := by grind
  have hn00 : 0 ≤ gI μ0 9 ∧ gI μ0 9 < 3200 := by grind
  by_cases ho : gI σ0 14 < 30
  · by_cases hp : gI σ0 13 < 600
    · obtain ⟨σ3, μ2, e1, e2, e3, hL3, hN3, hg3⟩ := la_one hs0 ho hp hk
      rw [c_lam hk ho hp hs00.1 hs00.2 e1]
      have hbe : ∀ μ5, f_X12_parameters_L10 FU (gI μ0 9) 1 (pA μ2 9 (gI μ0 9) (gI μ2 10)) = some ((), μ5) → f_X12_begins μ0 = f_X12_begins_b175 (gI μ0 9) μ5 := by
        intro μ5 hq
        rw [m_lam0 hw4 hb.2.1 (by rw [← hb.2.2.2.2.2.1]; grind) (by rw [← hb.2.2.1]; grind) hn00.1 hn00.2, e2, bd_of, if_pos e3]
        unfold f_X12_parameters
        rw [gd3200 hn00.1 hn00.2, hq, bd_of]
      have hl3 := hL3
      obtain ⟨l1, l2, l3, l4, l5, l6, l7, lx, ⟨q9, q10, q16, q17⟩, ly, lz, l8⟩ := hl3
      have hb3 := l1.2.2
      unfold Bg at hb3
      rcases la_names hs0 hL3 hN3 hg3 with ⟨σ5, μ5, j, n1, n2, n3, n4, n5, n6⟩ | ⟨f, σ5, μ5, n1, n2, q, d1, d2, d3, d4, d5, d6, d7⟩
      · rw [n1, bd_of]
        have hbeg := hbe μ5 n2
        have hl5 := n3
        obtain ⟨t1, t2, t3, t4, t5, t6, t7, ⟨x8, x9, x10, x14, x15, x18⟩, ⟨r9, r10, r16, r17⟩, ty, tz, t8⟩ := hl5
        have hb5 := t1.2.2
        have hp5 := t1.p3
        unfold Bg at hb5
        have w3 := t1.1.2.2.1
        have w4 := t1.1.2.2.2.1
        by_cases h46 : gI σ5 17 = 46
        · have hm46 : gI μ5 4 = 146 := by rw [w3, h46]; decide
          obtain ⟨e, kc, p, v, z, vm, zm, a1, a2, a3, a4, a5⟩ := sim_adv t1 (by rw [h46]; decide)
          have hex : f_X5_expect 46 σ5 = some ((), wdC σ5 e kc p v z) := by
            unfold f_X5_expect
            rw [if_pos h46, a1, bd_of]
          rw [hex, bd_of]
          have hP6 : LPr 2 σ0 μ0 (wdC σ5 e kc p v z) (wdM μ5 e (kMd kc) p vm zm) := n3.pm hs0 a3 (PmF.w _ _ e kc p v e (kMd kc) vm z zm a4)
          have hN6 : NM (wdC σ5 e kc p v z) (wdM μ5 e (kMd kc) p vm zm) (gI σ0 9) (gI μ0 9) j := n4.w
          have hg6 : xA (wdM μ5 e (kMd kc) p vm zm) 9 (gI μ0 9) + nI j = gI (wdM μ5 e (kMd kc) p vm zm) 10 := by rw [xA_wdM, gI_wdM (by decide)]; exact n6
          have r16' : gI (wdM μ5 e (kMd kc) p vm zm) 16 = gI μ0 16 := (gI_wdM (by decide)).trans r16
          have hLH := hP6.lh 4 hs0 hN6 n5 hg6 (by grind)
          have hwE : f_X12_wantE μ0 = some ((), pI (pI (mPl (wdM μ5 e (kMd kc) p vm zm) 4 (gI μ0 9) 0) 19 1) 18 1) := by
            refine m_wB h18 ?_
            rw [hbeg, m_175 hb5.2.1, if_pos hm46, a2, bd_of, m_pile (μ := wdM μ5 e (kMd kc) p vm zm) 4 (gI μ0 9) 0 (by rw [r16']; grind) (by rw [r16']; grind), bd_of]
            rfl
          have ht1 := tn_want hb.2.1 h160 h19 hwE
          clear hwE a1 a2 hex
          generalize wdC σ5 e kc p v z = σ6 at *
          generalize pI (pI (mPl (wdM μ5 e (kMd kc) p vm zm) 4 (gI μ0 9) 0) 19 1) 18 1 = μ8 at *
          have hH := hLH
          obtain ⟨g1, gE, gR, gFC, gFM, gPF, g12, ⟨y8, y9, y10, y14, y15, y18⟩, ⟨k9, k10, k16, k17, k18, k19⟩, gy, gn, gz, ⟨p14, p15⟩, gG⟩ := hH
          have hpn6 : pn σ0 + 1 ≤ pn (pI σ6 15 (gI σ0 9)) := pn_lt hp3.1 y18
          have hIn := hE.2 (pI σ6 15 (gI σ0 9)) μ8 g1 k19 k18 (by
            have i16 := iv_a1 k16 (by grind) (by grind)
            have i17 := iv_eq k17
            have i14 : iv (pI σ6 15 (gI σ0 9)) 14 = iv σ0 14 + 1 := iv_a1 y14 (by grind) (by grind)
            unfold Pz at *
            omega) (by show gI σ0 14 + 1 ≤ gI σ6 14; rw [y14]; grind) (by rw [k16, show gI μ0 16 + 1 - 1 = gI μ0 16 by grind, p14]; decide)
          unfold laT f_X5_readWithin
          rw [bd_as]
          refine Qt.bd hIn (fun c σ7 ow => ?_)
          rw [bd_of, y15]
          rcases ow with ⟨μ9, n9, k, o1, o2, o3, o4, o5⟩ | ⟨f, pp, mm, k, o1, o2, o3, o4, o5⟩
          · have hc1 := o3.1
            have hpn7 := pn_3 hc1
            have hb7 := hc1.2.2
            unfold Bg at hb7
            obtain ⟨u1, u2, u3, u4, u5⟩ := o3.2.2.1
            have u4t := u4 (gI μ0 16) (by grind) (by rw [k16]; grind)
            have hend := m_endL (μ9 := μ9) (P := gI μ0 16) (O := gI μ0 17) (n := gI μ0 9) (n9 := n9) (by grind) (by grind) (by rw [u1, k16]) h170 (by grind) (by rw [u2, k17]) (u4t.1.trans p14) (u4t.2.1.trans p15) (by rw [← k17]; exact u3) hn00.1 hn00.2
            have hgen := la_gen hs0 hz hLH o3 (fs_of σ7 (gI σ0 9) c (gI σ0 15)) (fm_cl (μ9 := μ9) (gI μ0 9) n9 (O := gI μ0 17) (by rw [u2, k17]; grind)) ((hc1.1.FS).Cl)
            have hrk0 : rkM (gI μ9 4) ≤ 0 := by rw [hc1.1.2.2.1, rk_eq hc1.1.2.2.2.1, o5]; decide
            have ht2 := tn_end hb7.2.1 (by rw [u1, k16]; grind) o3.2.1 (by rw [o4]; decide) hrk0 (by rw [pI_self μ9 20 o4]; exact hend)
            have h8 : gI σ7 8 < 6200 := by grind
            rw [gd700 hs00.1 hs00.2]
            unfold f_X9_addLeaf
            rw [c_addN (σ := pA (pI σ7 15 (gI σ0 15)) 23 (gI σ0 9) c) 14 (gI σ0 9) 0 (-1) (by show 0 ≤ gI σ7 8; grind) h8, bd_of, bd_of]
            refine Qt.so (Or.inl ⟨_, gI μ0 9, 1 + k + 1, ?_, (ht1.tr o2).tr ht2, hgen, ?_, o5⟩)
            · have hq : pn (pI (cN (pA (pI σ7 15 (gI σ0 15)) 23 (gI σ0 9) c) 14 (gI σ0 9) 0 (-1)) 14 (gI (cN (pA (pI σ7 15 (gI σ0 15)) 23 (gI σ0 9) c) 14 (gI σ0 9) 0 (-1)) 14 - 1)) = pn σ7 := rfl
              omega
            · exact o4
          · exact (dm_laR abE o3 hs00.1 hs00.2 (by grind) (by grind)).mono (fun c3 σ8 w => Or.inr ⟨f, pp, mm, 1 + k, by omega, ht1.die o2 g12 gR, w.1, w.2.1, w.2.2⟩)
        · have hm46 : ¬ gI μ5 4 = 146 := by rw [w3]; intro q; exact h46 ((kMd_at 46 (by decide +kernel) w4).mp (by rw [q]; decide))
          obtain ⟨τ, g1, g2⟩ := c_ref t1 (k := 1) (by decide)
          have hex : f_X5_expect 46 σ5 = some ((), τ) := by
            unfold f_X5_expect
            rw [if_neg h46, bd_eta, g1]
          rw [hex, bd_of]
          have hwE : f_X12_wantE μ0 = some ((), pI (pI (mPl (pI (pI μ5 7 1) 8 (gI μ5 5)) 4 (gI μ0 9) 0) 19 1) 18 1) := by
            refine m_wB h18 ?_
            rw [hbeg, m_175 hb5.2.1, if_neg hm46, bd_of, m_pile (μ := pI (pI μ5 7 1) 8 (gI μ5 5)) 4 (gI μ0 9) 0 (by show 0 ≤ gI μ5 16; rw [r16]; grind) (by show gI μ5 16 < 3200; rw [r16]; grind), bd_of]
            rfl
          refine (st_laT hE.1 abE g2 hs00.1 hs00.2).mono (fun c3 σ8 w => Or.inr ⟨1, gI σ5 18, gI σ5 13, 1, by omega, die_of (tn_want hb.2.1 h160 h19 hwE) (by decide) rfl ?_ ?_ ?_ ?_, w.1, w.2.1, w.2.2⟩)
          · show gI μ5 5 = gI σ5 18
            exact t1.1.2.2.2.2.1.symm
          · show gI μ5 11 = gI σ5 13
            exact hb5.2.2.1.symm
          · show gI μ5 12 - gI μ5 11 = gI μ0 12 - gI μ0 11
            exact t7
          · exact (((((t3.I (by decide)).I (by decide)).Pl).I (by decide)).I (by decide))
      · rw [n1, bd_of, st_expect 46 (by decide) d1, bd_of]
        have hf0 := d1.2.1
        have h16 : gI μ5 16 = gI μ0 16 := d7.trans q16
        have hwE : ∃ ρ : S5, f_X12_wantE μ0 = some ((), ρ) ∧ gI ρ 7 = f ∧ gI ρ 8 = q ∧ gI ρ 11 = gI μ5 11 ∧ gI ρ 12 = gI μ5 12 ∧ EqR μ5 ρ := by
          refine ⟨pI (pI (mPl μ5 4 (gI μ0 9) 0) 19 1) 18 1, m_wB h18 (by rw [hbe μ5 n2]; exact m_175F (by rw [d2]; exact hf0) (by rw [h16]; grind) (by rw [h16]; grind)), d2, d3, rfl, rfl, (((EqR.rf μ5).Pl).I (by decide)).I (by decide)⟩
        obtain ⟨ρ, c1, c2, c3, c4, c5, c6⟩ := hwE
        refine (st_laT hE.1 abE d1 hs00.1 hs00.2).mono (fun c8 σ8 w => Or.inr ⟨f, q, gI σ3 13, 1, by omega, die_of (tn_want hb.2.1 h160 h19 c1) hf0 c2 c3 (by rw [c4, d4]; exact hb3.2.2.1.symm) (by rw [c5, c4, d5, d4]; exact l7) ((l3.tr d6).tr c6), w.1, w.2.1, w.2.2⟩)
    · obtain ⟨τ, g1, g2⟩ := c_cnt1 (hs0.op ho) hp
      unfold f_X5_readLambda f_X5_opens
      rw [if_pos ho, bd_of, if_neg (by decide), g1, bd_of]
      have hwE : f_X12_wantE μ0 = some ((), pI (pI (mPl (pI (pI (pI μ0 15 (gI μ0 15 + 1)) 7 4) 8 (gI μ0 5)) 4 0 0) 19 1) 18 1) := m_wB h18 (m_lam6 hw4 hb.2.1 (by rw [← hb.2.2.2.2.2.1]; grind) (by rw [← hb.2.2.1]; grind) (by grind) (by grind))
      refine Qt.bd (st_lift hE.1 abE (gI τ 18) g2) (fun r τ1 w => ?_)
      refine Qt.so (Or.inr ⟨4, gI σ0 18, gI σ0 13, 1, by omega, die_of (tn_want hb.2.1 h160 h19 hwE) (by decide) rfl ?_ ?_ ?_ ?_, Dm14 _ w.1, w.2.1, w.2.2⟩)
      · exact hs0.1.2.2.2.2.1.symm
      · exact hb.2.2.1.symm
      · rfl
      · exact ((((((EqR.rf μ0).I (by decide)).I (by decide)).I (by decide)).Pl).I (by decide)).I (by decide)
  · obtain ⟨τ, g1, g2⟩ := c_ref hs0 (k := 1) (by decide)
    unfold f_X5_readLambda f_X5_opens
    rw [if_neg ho, g1, bd_of, bd_of, if_pos rfl]
    have hwE : f_X12_wantE μ0 = some ((), pI (pI (mPl (pI (pI (pI μ0 7 1) 8 (gI μ0 5)) 15 (gI μ0 15 + 1)) 4 0 0) 19 1) 18 1) := m_wB h18 (m_lam30 hw4 hb.2.1 (by rw [← hb.2.2.2.2.2.1]; grind) (by grind) (by grind))
    refine Qt.so (Or.inr ⟨1, gI σ0 18, gI σ0 13, 1, by omega, die_of (tn_want hb.2.1 h160 h19 hwE) (by decide) rfl ?_ ?_ ?_ ?_, Or.inl g2, by decide, by decide⟩)
    · exact hs0.1.2.2.2.2.1.symm
    · exact hb.2.2.1.symm
    · rfl
    · exact ((((((EqR.rf μ0).I (by decide)).I (by decide)).I (by decide)).Pl).I (by decide)).I (by decide)
