theorem ca_st {f p n : Int32} {σ : S5} {E : S5 → Option (Int32 × S5)} (hE : ∀ (f p n : Int32) (σ : S5), St f p n σ → E σ = some (0, σ)) {c0 : Int32} (h : St f p n σ) (h0 : 0 ≤ c0) (h1 : c0 < 6200) : Qt (bd (f_X5_expect 123 σ) (fun _ τ34 => bd (f_X5_readAlternative E 0 τ34) (fun r39 τ39 => gd c0 6200 <| f_X5_readCase_L55 E FU c0 r39 1 (pA τ39 17 c0 r39)))) (fun r τ => Dm abE f p n τ ∧ 0 ≤ r ∧ r < 6200) := by
  rw [st_expect 123 (by decide) h, bd_of]
  refine Qt.bd (st_alt hE abE 0 h) (fun r τ w => ?_)
  obtain ⟨m, hm⟩ := FU_s
  rw [gd6200 h0 h1, hm]
  exact dm_caseL (E := E) abE abE (fun x hx => ⟨hx.2.2.2.2.1, hx.2.2.2.1⟩) (Dm17 _ _ w.1)
/-- a case -/
theorem ca_go {σ0 μ0 : S5} {E : S5 → Option (Int32 × S5)} (hE : ESp E (gI σ0 14 + 1)) (hs0 : Sim σ0 μ0) (hz : Pz 0 σ0 μ0) (h19 : ¬ gI μ0 19 = 0) (h18 : ¬ gI μ0 18 = 0) (hk : gI σ0 17 = 9) : Qt (f_X5_readCase E σ0) (Out (4 * pn σ0) (fun μ' => gI μ' 20 = 1) (fun k => rkK k = 0) abE σ0 μ0 μ0) := by
  have hb := hs0.2.2
  have hp3 := hs0.p3
  have hpn := pn_3 hs0
  unfold Bg at hb
  obtain ⟨h160, h161, h170, h171⟩ := hz.rg hb.2.2.2.2.2.2.2.1 (by decide)
  have hw4 : gI μ0 4 = 13 := by rw [hs0.1.2.2.1, hk]; decide
  by_cases ho : gI σ0 14 < 30
  · by_cases hp : gI σ0 13 < 600
    · obtain ⟨σ, μ1, a1, a2, a16, hCS⟩ := ca_one hs0 ho hp hk (by grind)
      rw [c_cas0 hk ho hp a1]
      have hbeg := m_cas0 hw4 hb.2.1 (by rw [← hb.2.2.2.2.2.1]; grind) (by rw [← hb.2.2.1]; grind) (by grind) (by grind) a2 (by rw [a16]; grind) (by rw [a16]; grind)
      have hR1 := tn_want hb.2.1 h160 h19 (m_wB h18 hbeg)
      clear a1 a2 hbeg
      generalize pI (pI (mPl μ1 5 (gI μ0 9) 0) 19 1) 18 1 = N at *
      have hCS' := hCS
      obtain ⟨l1, ⟨fE, fR, fC, fM, fP, f12, f8, f9, f10, fm9, fm10, f18⟩, ⟨x8, x9, x10, x14, x15, x18⟩, ⟨y9, y16, y17, y18, y19⟩, ⟨p14, p15⟩, lz, hG, hG2⟩ := hCS'
      have hpn2 : pn σ0 + 1 ≤ pn σ := pn_lt hp3.1 x18
      have hIn := hE.2 σ N l1 (by rw [y19]; decide) (by rw [y18]; decide) (by
        have i16 := iv_a1 y16 (by grind) (by grind)
        have i17 := iv_eq y17
        have i14 := iv_a1 x14 (by grind) (by grind)
        unfold Pz at *
        omega) (by rw [x14]; exact Int32.le_refl _) (by rw [y16, show gI μ0 16 + 1 - 1 = gI μ0 16 by grind, p14]; decide)
      refine Qt.bd hIn (fun c0 σ7 ow => ?_)
      rcases ow with ⟨μ9, n9, k2, o1, o2, o3, o4, o5⟩ | ⟨f, pp, mm, k2, o1, o2, o3, o4, o5⟩
      · have hc1 := o3.1
        have hpn7 := pn_3 hc1
        have hb7 := hc1.2.2
        unfold Bg at hb7
        have hcc := o3.2.2.2.2.2.2.2.2.2.2.2.1.c
        have hCI := hCS.ci hs0 h170 (by grind) (by grind) (by grind) o3
        obtain ⟨u1, u2, u3, u4, u5⟩ := o3.2.2.1
        have u4t := u4 (gI μ0 16) (by grind) (by rw [y16]; grind)
        have hend := m_eC (μ9 := μ9) (P := gI μ0 16) (O := gI μ0 17) (l := gI μ0 9) (n9 := n9) (by grind) (by grind) (by rw [u1, y16]) h170 (by grind) (by rw [u2, y17]) (u4t.1.trans p14) (u4t.2.1.trans p15) (by rw [← y17]; exact u3) (by grind) (by grind)
        have hrk0 : rkM (gI μ9 4) ≤ 0 := by rw [hc1.1.2.2.1, rk_eq hc1.1.2.2.2.1, o5]; decide
        have htn : ∀ τ, f_X12_endE μ9 = some ((), τ) → Rch (1 + k2 + 1) μ0 τ := fun τ he => (hR1.tr o2).tr (tn_end hb7.2.1 (by rw [u1, y16]; grind) o3.2.1 (by rw [o4]; decide) hrk0 (by rw [pI_self μ9 20 o4]; exact he))
        have hM7 : gI (mEC μ9 (gI μ0 9) n9) 7 = 0 := hb7.2.1
        have hM4 : gI (mEC μ9 (gI μ0 9) n9) 4 = gI μ9 4 := rfl
        have hM5 : gI (mEC μ9 (gI μ0 9) n9) 5 = gI μ9 5 := rfl
        have hl1 := hCI.1
        have hF1 := hCI.2.1
        have w3 := hc1.1.2.2.1
        have w4 := hc1.1.2.2.2.1
        generalize mEC μ9 (gI μ0 9) n9 = M at *
        by_cases c10 : gI σ7 17 = 10
        · have hm14 : gI μ9 4 = 14 := by rw [w3, c10]; decide
          obtain ⟨e, kc, p, vv, z, vm, zm, a1, a2, a3, a4, a5⟩ := sim_adv hl1 (by rw [c10]; decide)
          have hCI8 := hCI.w a3 a4
          have hpn8 : pn σ7 + 1 ≤ pn (wdC σ7 e kc p vv z) := pn_lt hc1.p3.1 (by rw [p_wdC]; exact a4)
          have hex : f_X5_expect 10 σ7 = some ((), wdC σ7 e kc p vv z) := by
            unfold f_X5_expect
            rw [if_pos c10, a1, bd_of]
          rw [hex, bd_of]
          rw [if_pos hm14, m_176 hM7 (by rw [hM4]; exact hm14), a2, bd_of, m_isS, bd_of] at hend
          clear hex a1 a2
          generalize wdC σ7 e kc p vv z = σ8 at *
          generalize wdM M e (kMd kc) p vm zm = M8 at *
          have hb8 := a3.2.2
          unfold Bg at hb8
          have v3 := a3.1.2.2.1
          have v4 := a3.1.2.2.2.1
          have hF8 := hCI8.2.1
          have hpn8' := pn_3 a3
          by_cases c123 : gI σ8 17 = 123
          · have hm223 : gI M8 4 = 100 + 123 := by rw [v3, c123]; decide
            obtain ⟨e', kc', p', vv', z', vm', zm', b1, b2, b3, b4, b5⟩ := sim_adv a3 (by rw [c123]; decide)
            have hCI9 := hCI8.w b3 b4
            have hpn9 : pn σ8 + 1 ≤ pn (wdC σ8 e' kc' p' vv' z') := pn_lt a3.p3.1 (by rw [p_wdC]; exact b4)
            obtain ⟨ν, q1, q2⟩ := al_go hE hs0 hz hCI9
            have hex2 : f_X5_expect 123 σ8 = some ((), wdC σ8 e' kc' p' vv' z') := by
              unfold f_X5_expect
              rw [if_pos c123, b1, bd_of]
            rw [if_pos hm223, m_acc1 hb8.2.1, b2, bd_of, q1] at hend
            have hR2 := htn ν hend
            rw [hex2, bd_of]
            clear hex2 b1 b2 q1 hend htn
            generalize wdC σ8 e' kc' p' vv' z' = σ9 at *
            have hpn9' := pn_3 b3
            rcases q2 with ⟨f, pf, mf, hf0, t1, t2, t3, t4, t5, hQ⟩ | ⟨v18, v19, v', hv0', hv1', hQ⟩
            · refine Qt.bd hQ (fun r τ w => ?_)
              obtain ⟨m, hm⟩ := FU_s
              rw [gd6200 hcc.1 hcc.2, hm]
              exact (dm_caseL (E := E) abE abE (fun x hx => ⟨hx.2.2.2.2.1, hx.2.2.2.1⟩) (Dm17 _ _ w.1)).mono (fun c3 σ8 w => Or.inr ⟨f, pf, mf, 1 + k2 + 1, by omega, die_of hR2 hf0 t1 t2 t3 t4 t5, w.1, w.2.1, w.2.2⟩)
            · refine Qt.bd hQ (fun c σ' ow => ?_)
              rw [gd6200 hcc.1 hcc.2]
              rcases ow with ⟨μ9', n9', kk', g', fs', fu', fn', ft', s1, s2, s3, s4, s5⟩ | ⟨f, pp, mm, kk', s1, s2, s3, s4, s5⟩
              · have hln : lkA σ' 0 (fun _ => 0) c0 c = pA σ' 17 c0 c := rfl
                have hpl : pn (pA σ' 17 c0 c) = pn σ' := rfl
                rw [hln] at s5
                have hbig := FU_big (n := 5000) (by decide)
                have := ca_loop hE hs0 hz 7 1 FU (pA σ' 17 c0 c) μ9' c0 _ _ _ v' n9' (1 + k2 + 1 + kk') g' (upN (fun _ => 0) 0 c) fs' fu' fn' ft' (by omega) (by omega) (by omega) (by omega) (hR2.tr s2) s3 hv0' hv1' s5
                exact this
              · obtain ⟨m, hm⟩ := FU_s
                rw [hm]
                exact (dm_caseL (E := E) abE abE (fun x hx => ⟨hx.2.2.2.2.1, hx.2.2.2.1⟩) (Dm17 _ _ s3)).mono (fun c3 σ8 w => Or.inr ⟨f, pp, mm, 1 + k2 + 1 + kk', by omega, hR2.die s2 rfl (EqR.rf μ0), w.1, w.2.1, w.2.2⟩)
          · have hm223 : ¬ gI M8 4 = 100 + 123 := by rw [v3]; intro q; exact c123 ((kMd_at 123 (by decide +kernel) v4).mp (by rw [q]; decide))
            obtain ⟨τ, g1, g2⟩ := c_ref a3 (k := 1) (by decide)
            have hex2 : f_X5_expect 123 σ8 = some ((), τ) := by
              unfold f_X5_expect
              rw [if_neg c123, bd_eta, g1]
            rw [if_neg hm223, m_acc0 hb8.2.1, bd_of, m_brF (by exact (by decide : (0 : Int32) < 1))] at hend
            have hR2 := htn _ hend
            rw [hex2, bd_of]
            refine Qt.bd (st_alt hE.1 abE 0 g2) (fun r τ w => ?_)
            obtain ⟨m, hm⟩ := FU_s
            rw [gd6200 hcc.1 hcc.2, hm]
            refine (dm_caseL (E := E) abE abE (fun x hx => ⟨hx.2.2.2.2.1, hx.2.2.2.1⟩) (Dm17 _ _ w.1)).mono (fun c3 σ9 w => Or.inr ⟨1, gI σ8 18, gI σ8 13, 1 + k2 + 1, by omega, die_of hR2 (by decide) rfl ?_ ?_ ?_ ?_, w.1, w.2.1, w.2.2⟩)
            · exact a3.1.2.2.2.2.1.symm
            · exact hb8.2.2.1.symm
            · exact hF8.2.2.2.2.2.1
            · exact (hF8.2.1.I (by decide)).I (by decide)
        · have hm14 : ¬ gI μ9 4 = 14 := by rw [w3]; intro q; exact c10 ((kMd_at 10 (by decide +kernel) w4).mp (by rw [q]; decide))
          obtain ⟨τ, g1, g2⟩ := c_ref hl1 (k := 1) (by decide)
          have hex : f_X5_expect 10 σ7 = some ((), τ) := by
            unfold f_X5_expect
            rw [if_neg c10, bd_eta, g1]
          rw [if_neg hm14, m_176F hM7] at hend
          have hR2 := htn _ hend
          have hb8 := hl1.2.2
          unfold Bg at hb8
          rw [hex, bd_of]
          refine (ca_st hE.1 g2 hcc.1 hcc.2).mono (fun c3 σ9 w => Or.inr ⟨1, gI σ7 18, gI σ7 13, 1 + k2 + 1, by omega, die_of hR2 (by decide) rfl ?_ ?_ ?_ ?_, w.1, w.2.1, w.2.2⟩)
          · exact hl1.1.2.2.2.2.1.symm
          · exact hb8.2.2.1.symm
          · exact hF1.2.2.2.2.2.1
          · exact (hF1.2.1.I (by decide)).I (by decide)
      · refine Qt.bd (dm_expect 10 (fun x hx => hx.2.2.1) (by decide) o3) (fun _ σ8 hst => ?_)
        exact (ca_st hE.1 hst o4 o5).mono (fun c3 σ9 w => Or.inr ⟨f, pp, mm, 1 + k2, by omega, hR1.die o2 f12 fR, w.1, w.2.1, w.2.2⟩)
    · obtain ⟨τ, g1, g2⟩ := c_cnt1 (hs0.op ho) hp
      unfold f_X5_readCase f_X5_opens
      rw [if_pos ho, bd_of, if_neg (by decide), g1, bd_of, st_adv g2, bd_of, hE.1 _ _ _ _ g2, bd_of, st_expect 10 (by decide) g2, bd_of]
      have hwE : f_X12_wantE μ0 = some ((), pI (pI (mPl (pI (pI (pI μ0 15 (gI μ0 15 + 1)) 7 4) 8 (gI μ0 5)) 5 0 0) 19 1) 18 1) := m_wB h18 (m_cas6 hw4 hb.2.1 (by rw [← hb.2.2.2.2.2.1]; grind) (by rw [← hb.2.2.1]; grind) (by grind) (by grind))
      refine (ca_st hE.1 g2 (by decide) (by decide)).mono (fun c3 σ8 w => Or.inr ⟨4, gI σ0 18, gI σ0 13, 1, by omega, die_of (tn_want hb.2.1 h160 h19 hwE) (by decide) rfl ?_ ?_ ?_ ?_, w.1, w.2.1, w.2.2⟩)
      · exact hs0.1.2.2.2.2.1.symm
      · exact hb.2.2.1.symm
      · rfl
      · exact ((((((EqR.rf μ0).I (by decide)).I (by decide)).I (by decide)).Pl).I (by decide)).I (by decide)
  · obtain ⟨τ, g1, g2⟩ := c_ref hs0 (k := 1) (by decide)
    unfold f_X5_readCase f_X5_opens
    rw [if_neg ho, g1, bd_of, bd_of, if_pos rfl]
    have hwE : f_X12_wantE μ0 = some ((), pI (pI (mPl (pI (pI (pI μ0 7 1) 8 (gI μ0 5)) 15 (gI μ0 15 + 1)) 5 0 0) 19 1) 18 1) := m_wB h18 (m_cas30 hw4 hb.2.1 (by rw [← hb.2.2.2.2.2.1]; grind) (by grind) (by grind))
    refine Qt.so (Or.inr ⟨1, gI σ0 18, gI σ0 13, 1, by omega, die_of (tn_want hb.2.1 h160 h19 hwE) (by decide) rfl ?_ ?_ ?_ ?_, Or.inl g2, by decide, by decide⟩)
    · exact hs0.1.2.2.2.2.1.symm
    · exact hb.2.2.1.symm
    · rfl
    · exact ((((((EqR.rf μ0).I (by decide)).I (by decide)).I (by decide)).Pl).I (by decide)).I (by decide)
/-- E is read alike -/
theorem es_all : ∀ (d : Nat) (o : Int32), 0 ≤ o → 31 ≤ o.toInt + d → ESp (f_readE (d + 1)) o := by
  intro d
  induction d with
  | zero =>
    intro o ho h
    refine ⟨fun f p n σ hst => st_E 0 hst, fun σ μ hs _ _ _ h14 _ => ?_⟩
    exfalso
    have hb := hs.2.2
    unfold Bg at hb
    have h30 := Int32.le_iff_toInt_le.mp hb.2.2.2.2.2.2.2.1
    have h14' := Int32.le_iff_toInt_le.mp h14
    rw [show (30 : Int32).toInt = 30 from rfl] at h30
    omega
  | succ d ih =>
    intro o ho h
    refine ⟨fun f p n σ hst => st_E (d + 1) hst, fun σ μ hs h19 h18 hz h14 htop => ?_⟩
    have hb := hs.2.2
    unfold Bg at hb
    have h14' := Int32.le_iff_toInt_le.mp h14
    have hE : ESp (f_readE (d + 1)) (gI σ 14 + 1) := by
      refine ih _ (by grind) ?_
      rw [ti_a1 (by grind) (by grind)]
      omega
    show Qt (f_X5_readExpression (f_readE (d + 1)) σ) _
    unfold f_X5_readExpression
    simp only [bd_eta']
    by_cases c7 : gI σ 17 = 7
    · rw [if_pos c7]; exact le_go hE hs hz h19 h18 c7
    · rw [if_neg c7]
      by_cases c9 : gI σ 17 = 9
      · rw [if_pos c9]; exact ca_go hE hs hz h19 h18 c9
      · rw [if_neg c9]
        by_cases c92 : gI σ 17 = 92
        · rw [if_pos c92]; exact la_go hE hs hz h19 h18 c92
        · rw [if_neg c92]; exact cm_go hE hs hz htop h19 (Or.inr ⟨c7, c9, c92⟩)
