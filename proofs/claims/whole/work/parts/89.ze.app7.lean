theorem ap_first {σ0 μ0 σ μ : S5} {c0 n0 : Int32} {E : S5 → Option (Int32 × S5)} (hE : ESp E (gI σ0 14 + 1)) (hs0 : Sim σ0 μ0) (hz : Pz 3 σ0 μ0) (hC : Cor σ0 (mPl (pI μ0 21 0) 8 (-1) 0) c0 σ μ n0) (f20 : gI μ 20 = 0) (f21 : gI μ 21 = 0) {P : Nat} (hP : P + 1 ≤ 4 * pn σ) (m : Nat) : Qt (f_X5_readApplication_L67 E (m + 7) c0 c0 0 σ) (Out P (fun μ' => gI μ' 20 = 1 ∧ gI μ' 21 = 0) (fun k => ¬ atK k) (fun _ => False) σ0 μ0 μ) := by
  have ho0 := hs0.2.2
  unfold Bg at ho0
  obtain ⟨h160, h161, h170, h171⟩ := hz.rg ho0.2.2.2.2.2.2.2.1 (by decide)
  have hBa := hC.low (by grind) (by grind)
  obtain ⟨v16, v17, v18, v14, v15, vc⟩ := hC.top (by grind) (by grind)
  obtain ⟨r1, r4, r5, r6, r7, r8, r9, r10, r11, t4, t5⟩ := hBa
  have q2 := hC.2.1
  have q12 : TR σ μ (gI σ0 15) (gI σ0 9) (gI σ 9) (gI σ0 10) (gI σ 10) (gI μ0 9) (gI μ 9) (gI σ0 8) n0 c0 := hC.2.2.2.2.2.2.2.2.2.2.2.1
  have q13 := hC.2.2.2.2.2.2.2.2.2.2.2.2.1
  have q14 := hC.2.2.2.2.2.2.2.2.2.2.2.2.2.1
  have q15 := hC.2.2.2.2.2.2.2.2.2.2.2.2.2.2
  have hp3 := r1.p3
  have hpn3 := pn_3 r1
  have hb := r1.2.2
  unfold Bg at hb
  have hbd := q12.un.1
  unfold Bd at hbd
  have hc0r : 0 ≤ c0 ∧ c0 < 6200 := by grind
  have e16 : gI μ 16 - 1 = gI μ0 16 := by rw [v16]; grind
  have y1 := m_ae8 (μ := μ) (by rw [e16]; grind) (by rw [e16]; grind) (by rw [e16]; exact v14)
  rw [e16, v15, if_pos (by decide), vc, show (0 : Int32) + 1 = 1 from rfl] at y1
  have hEx : EqR μ (pA μ 17 (gI μ0 16) 1) := (EqR.rf μ).A (by decide)
  have hsx : Sim σ (pA μ 17 (gI μ0 16) 1) := r1.of hEx rfl rfl rfl rfl rfl rfl rfl rfl rfl rfl
  show Qt (f_X5_readApplication_B67 E (f_X5_readApplication_L67 E (m + 6)) c0 c0 0 σ) _
  unfold f_X5_readApplication_B67
  rw [if_neg (by decide), c_isAtom, bd_of]
  by_cases hat : atK (gI σ 17)
  · obtain ⟨r, f1, f2, f3⟩ := con_of hsx.2.1 (gJ σ 0)
    have hjn : gI σ 17 = 4 → gJ σ 0 = gJ μ 0 := fun w => r1.1.2.2.2.2.2.2.2.2.2.1 (Or.inr w)
    have hfr : gI σ 17 = 4 → f_X12_findConstructor (gJ (pA μ 17 (gI μ0 16) 1) 0) (pA μ 17 (gI μ0 16) 1) = some (r, (pA μ 17 (gI μ0 16) 1)) := fun w => by
      show f_X12_findConstructor (gJ μ 0) _ = _
      rw [← hjn w]; exact f2
    rw [if_pos (show (gI σ 17 = 3 ∨ gI σ 17 = 4 ∨ gI σ 17 = 5 ∨ gI σ 17 = 11 ∨ gI σ 17 = 40) from hat), if_neg (by decide)]
    rcases c_stands r1 (r := r) (fun _ => ⟨f1, f3⟩) with ⟨hk, e1⟩ | ⟨hk, τ, e1, e2⟩
    · rw [e1, bd_of, if_neg (by decide), if_neg (by decide), if_pos rfl]
      have hm := m_aeK hsx hk hfr (gI μ0 16) (-1) 1
      rw [if_neg (by decide)] at hm
      by_cases hp : gI σ 13 < 600
      · rw [c_cnt0 hp (okK_ne r1.1.2.2.2.1), bd_of]
        have hm2 := m_259 (μ := pA μ 17 (gI μ0 16) 1) (p := gI μ0 16) (n := n0) hb.2.1 (by show ¬ gI μ 11 = 600; rw [← hb.2.2.1]; grind) (by show 0 ≤ gI μ 9; grind) (by show gI μ 9 < 3200; grind) (by show 0 ≤ gI μ 17 - 1; rw [v17]; grind) (by show gI μ 17 - 1 < 3200; rw [v17]; grind) (by show xA μ 18 (gI μ 17 - 1) = n0; rw [v17, show gI μ0 17 + 1 - 1 = gI μ0 17 by grind]; exact v18) (by grind) (by grind)
        have hEz : EqR μ (mAp (pA μ 17 (gI μ0 16) 1) (gI μ0 16) n0) := hEx.Ap
        have hsz : Sim (cP σ) (mAp (pA μ 17 (gI μ0 16) 1) (gI μ0 16) n0) := by
          refine ⟨Wd_of r1.1 rfl rfl rfl rfl rfl rfl rfl rfl rfl rfl rfl rfl rfl rfl, Ct_eq r1.2.1 ((EqE.rf σ).P) hEz, ?_⟩
          have hg : Gm 0 0 σ (cP σ) μ (mAp (pA μ 17 (gI μ0 16) 1) (gI μ0 16) n0) := by
            have i8 : iv (cP σ) 8 = iv σ 8 := iv_eq rfl
            have i9 : iv (cP σ) 9 = iv σ 9 := iv_eq rfl
            have i10 : iv (cP σ) 10 = iv σ 10 := iv_eq rfl
            have i13 : iv (cP σ) 13 = iv σ 13 + 1 := iv_a1 rfl (by grind) (by grind)
            have i18 : iv (cP σ) 18 = iv σ 18 := iv_eq rfl
            have m9 : iv (mAp (pA μ 17 (gI μ0 16) 1) (gI μ0 16) n0) 9 = iv μ 9 + 1 := iv_a1 rfl (by grind) (by grind)
            have m10 : iv (mAp (pA μ 17 (gI μ0 16) 1) (gI μ0 16) n0) 10 = iv μ 10 := iv_eq rfl
            unfold Gm
            omega
          have hbm := r1.bm
          obtain ⟨b1, b2, b3, b4, b5, b6, b7, b8, b9, b10, b11, b12, b13, b14, b15, b16, b17, b18, b19, b20, b21, b22, b23⟩ := hb
          exact Bg_mk b1 b2 (by show gI σ 13 + 1 = gI μ 11 + 1; rw [b3]) (by show 0 ≤ gI σ 13 + 1; grind) (by show gI σ 13 + 1 ≤ 600; grind) b6 b7 b8 b9 b11 b13 b14 b15 (by show 0 ≤ gI μ 9 + 1; grind) b19 b21 b22 hp3.2 (hbm.gr hg (by decide) (by decide) rfl)
        have hPz : Pz 4 (cP σ) (mAp (pA μ 17 (gI μ0 16) 1) (gI μ0 16) n0) := by
          have i16 : iv (mAp (pA μ 17 (gI μ0 16) 1) (gI μ0 16) n0) 16 = iv μ0 16 + 1 := iv_a1 v16 (by grind) (by grind)
          have i17 : iv (mAp (pA μ 17 (gI μ0 16) 1) (gI μ0 16) n0) 17 = iv μ0 17 := iv_eq (by show gI μ 17 - 1 = gI μ0 17; rw [v17]; grind)
          have i14 : iv (cP σ) 14 = iv σ0 14 := iv_eq r7
          unfold Pz at *
          omega
        have hfz : gI (cP σ) 17 = 4 → f_X12_findConstructor (gJ (mAp (pA μ 17 (gI μ0 16) 1) (gI μ0 16) n0) 0) (mAp (pA μ 17 (gI μ0 16) 1) (gI μ0 16) n0) = some (r, mAp (pA μ 17 (gI μ0 16) 1) (gI μ0 16) n0) := fun w => by
          show f_X12_findConstructor (gJ μ 0) _ = _
          rw [← hjn w]
          exact con_same (μ := μ) (Ct_eq r1.2.1 (EqE.rf σ) hEz) f1
        obtain ⟨z, τ, g1, g2, g3, g4⟩ := at_go (σ := cP σ) (μ := mAp (pA μ 17 (gI μ0 16) 1) (gI μ0 16) n0) (E := E) (by show ESp E (gI σ 14 + 1); rw [r7]; exact hE) hsz (r := r) hk hfz hPz f21
        rw [hm, hm2, m_303 (show gI (mAp (pA μ 17 (gI μ0 16) 1) (gI μ0 16) n0) 7 = 0 from hb.2.1) g1 g2 (by rw [g3]; exact f20)] at y1
        have ht1 := tn_atom hb.2.1 (by grind) q2 f20 y1
        unfold f_X5_readApplication_b113
        refine Qt.bd g4 (fun c σ2 ho => ?_)
        have hpc : pn (cP σ) = pn σ := rfl
        rw [gd6200 hc0r.1 hc0r.2]
        rcases ho with ⟨μ2, n, k, o1, o2, o3, o4, o5⟩ | ⟨f, pp, mm, k, o1, o2, o3, o4, o5⟩
        · obtain ⟨g, cc, fs, fu, fn, ft, hAL⟩ := ap_one hs0 hC (by grind) (by grind) h170 hp o3 o4.1 o4.2
          have hx := AL.loop hE hs0 hz 4 1 (by omega) (by omega) m _ _ _ _ _ _ _ _ _ _ _ hAL (4 * pn σ2 - 1) (by have : pn (pA σ2 17 c0 c) = pn σ2 := rfl; omega)
          refine Qt.mono (x := f_X5_readApplication_L67 E (m + 6) c0 c (0 + 1) (pA σ2 17 c0 c)) hx (fun c3 σ3 w => ?_)
          rcases w with ⟨μ3, n3, k3, w1, w2, w3, w4, w5⟩ | ⟨f, pp, mm, k3, w1, w2, w3, w4, w5⟩
          · exact Or.inl ⟨μ3, n3, 1 + k + k3, by omega, (ht1.tr o2).tr w2, w3, w4, w5⟩
          · exact Or.inr ⟨f, pp, mm, 1 + k + k3, by omega, (ht1.tr o2).die w2 rfl (EqR.rf μ0), w3, w4, w5⟩
        · have hst := o3.no
          refine (st_appL (m := m + 5) E (fun _ => False) (St17 _ _ hst) hc0r.1 hc0r.2).mono (fun c3 σ3 w => Or.inr ⟨f, pp, mm, 1 + k, by omega, ht1.die o2 ?_ (r5.tr hEz), w.1, w.2.1, w.2.2⟩)
          show (gI μ 12 + 1) - (gI μ 11 + 1) = _
          rw [← r6]
          grind
      · obtain ⟨τ, g1, g2⟩ := c_cnt1 r1 hp
        rw [g1, bd_of]
        have hp6 : gI μ 11 = 600 := by grind
        have hm2 : f_X12_atomEnds_b259 (gI μ0 16) (-1) (pA μ 17 (gI μ0 16) 1) = some ((), pI (pI (pI (pI (pA μ 17 (gI μ0 16) 1) 7 4) 8 (gI μ 5)) 19 0) 18 1) := by
          unfold f_X12_atomEnds_b259
          rw [if_pos (show gI (pA μ 17 (gI μ0 16) 1) 7 = 0 from hb.2.1), if_neg (by decide), m_part1 (μ := pA μ 17 (gI μ0 16) 1) hb.2.1 hp6, bd_of, if_pos rfl]
          unfold f_X12_atomEnds_b303 f_X12_atomEnds_b322 f_X12_atomEnds_b323
          rw [if_neg (show ¬ gI (pI (pI (pA μ 17 (gI μ0 16) 1) 7 4) 8 (gI (pA μ 17 (gI μ0 16) 1) 5)) 7 = 0 from (by decide : ¬ (4 : Int32) = 0))]
          rfl
        rw [hm, hm2] at y1
        refine (st_app113 (m := m + 5) E (fun _ => False) g2 hc0r.1 hc0r.2 hc0r.1 hc0r.2).mono (fun c σ2 w => Or.inr ⟨4, gI σ 18, gI σ 13, 1, by omega, die_of (tn_atom hb.2.1 (by grind) q2 f20 y1) (by decide) rfl ?_ ?_ ?_ ?_, w.1, w.2.1, w.2.2⟩)
        · show gI μ 5 = gI σ 18
          exact r1.1.2.2.2.2.1.symm
        · show gI μ 11 = gI σ 13
          exact hb.2.2.1.symm
        · exact r6
        · exact ((((r5.tr hEx).I (by decide)).I (by decide)).I (by decide)).I (by decide)
    · rw [e1, bd_of, if_pos rfl]
      obtain ⟨ρ, g1, g2, g3, g4, g5, g6⟩ := m_aeB hsx hat hk (fun w => ⟨hfr w, f3⟩) (gI μ0 16) (-1) 1
      rw [g1] at y1
      refine (st_app139 E (fun _ => False) e2 hc0r.1 hc0r.2).mono (fun c σ2 w => Or.inr ⟨badK σ r, gI σ 18, gI σ 13, 1, by omega, die_of (tn_atom hb.2.1 (by grind) q2 f20 y1) (bad0 σ r) g2 g3 g4 ?_ ((r5.tr hEx).tr g6), w.1, w.2.1, w.2.2⟩)
      rw [g5, g4, hb.2.2.1]; exact r6
  · rw [if_neg (show ¬ (gI σ 17 = 3 ∨ gI σ 17 = 4 ∨ gI σ 17 = 5 ∨ gI σ 17 = 11 ∨ gI σ 17 = 40) from hat), if_pos rfl]
    unfold f_X5_readApplication_b139
    rw [if_pos rfl]
    have hna : ¬ (gI μ 4 = 3 ∨ gI μ 4 = 4 ∨ gI μ 4 = 2 ∨ gI μ 4 = 15 ∨ gI μ 4 = 140) := by
      rw [r1.1.2.2.1, kMd_atom r1.1.2.2.2.1]; exact hat
    rw [m_aeX (μ := pA μ 17 (gI μ0 16) 1) hna (by show 0 ≤ gI μ 17; grind) (by show gI μ 17 < 3200; grind), if_pos (by decide)] at y1
    have hEx' : EqR μ (pI (pI (pA μ 17 (gI μ0 16) 1) 16 (gI (pA μ 17 (gI μ0 16) 1) 16 - 1)) 20 1) := (hEx.I (by decide)).I (by decide)
    refine Qt.so (Or.inl ⟨_, n0, 1, by omega, tn_atom hb.2.1 (by grind) q2 f20 y1, ⟨r1.of hEx' rfl rfl rfl rfl rfl rfl rfl rfl rfl rfl, q2, ⟨e16, v17, v18, fun i p q => ?_, t5⟩, r4, r5.tr hEx', r6, r7, r8, r9, r10, r11, ?_, q13, q14, q15⟩, ⟨rfl, f21⟩, hat⟩)
    · have hne := i_ne p q
      have x := t4 i p q
      show xA (pA μ 17 (gI μ0 16) 1) 14 i = _ ∧ xA (pA μ 17 (gI μ0 16) 1) 15 i = _ ∧ xA (pA μ 17 (gI μ0 16) 1) 16 i = _ ∧ xA (pA μ 17 (gI μ0 16) 1) 17 i = _
      simp only [xA_pA, hne, and_false, if_false]
      exact x
    · exact q12.rows rfl (fun k hk => gA_ne _ _ _ (by omega)) rfl (by show gI μ 10 ≤ gI μ 10; grind) rfl
