/-- an application that begins with an atom -/
theorem ap_plain {σ0 μ0 : S5} {E : S5 → Option (Int32 × S5)} (hE : ESp E (gI σ0 14 + 1)) (hs0 : Sim σ0 μ0) (hz : Pz 3 σ0 μ0) (h19 : ¬ gI μ0 19 = 0) (hwE : f_X12_wantE μ0 = f_X12_wantE_b25 μ0) {r : Int32} (f1 : f_X4_constructorOf (gJ σ0 0) σ0 = some (r, σ0)) (f3 : r = -1 ∨ (0 ≤ r ∧ r < gI σ0 4)) (hap : f_X12_application μ0 = f_X12_application_b76 (pI μ0 21 0)) : Qt (f_X5_readApplication_b49 E σ0) (Out (4 * pn σ0) (fun μ' => gI μ' 20 = 1 ∧ gI μ' 21 = 0) (fun k => ¬ atK k) atK σ0 μ0 μ0) := by
  have hb := hs0.2.2
  unfold Bg at hb
  obtain ⟨h160, h161, h170, h171⟩ := hz.rg hb.2.2.2.2.2.2.2.1 (by decide)
  have hpn3 := pn_3 hs0
  have hEa : EqR μ0 (mPl (pI μ0 21 0) 8 (-1) 0) := ((EqR.rf μ0).I (by decide)).Pl
  have hsa : Sim σ0 (mPl (pI μ0 21 0) 8 (-1) 0) := hs0.of hEa rfl rfl rfl rfl rfl rfl rfl rfl rfl rfl
  have hjn : gI σ0 17 = 4 → gJ σ0 0 = gJ μ0 0 := fun w => hs0.1.2.2.2.2.2.2.2.2.2.1 (Or.inr w)
  have hfr : gI σ0 17 = 4 → f_X12_findConstructor (gJ (mPl (pI μ0 21 0) 8 (-1) 0) 0) (mPl (pI μ0 21 0) 8 (-1) 0) = some (r, mPl (pI μ0 21 0) 8 (-1) 0) := fun w => by
    show f_X12_findConstructor (gJ μ0 0) _ = _
    rw [← hjn w]
    exact con_same (μ := μ0) hsa.2.1 f1
  have hPz : Pz 4 σ0 (mPl (pI μ0 21 0) 8 (-1) 0) := by
    have i16 : iv (mPl (pI μ0 21 0) 8 (-1) 0) 16 = iv μ0 16 + 1 := iv_a1 rfl (by grind) (by grind)
    have i17 : iv (mPl (pI μ0 21 0) 8 (-1) 0) 17 = iv μ0 17 := iv_eq rfl
    unfold Pz at *
    omega
  have hb76 : ∀ q τ, f_X12_atom (mPl (pI μ0 21 0) 8 (-1) 0) = some (q, τ) → (q = 0 ∨ q = 1) → f_X12_application μ0 = some (q, τ) := by
    intro q τ h hq
    rw [hap]
    unfold f_X12_application_b76
    rw [m_pile (μ := pI μ0 21 0) 8 (-1) 0 (by show 0 ≤ gI μ0 16; grind) (by show gI μ0 16 < 3200; grind), bd_of]
    have h' : f_X12_atom (pI (pA (pA (pA (pA (pI μ0 21 0) 14 (gI (pI μ0 21 0) 16) 8) 15 (gI (pI μ0 21 0) 16) (-1)) 16 (gI (pI μ0 21 0) 16) 0) 17 (gI (pI μ0 21 0) 16) 0) 16 (gI (pI μ0 21 0) 16 + 1)) = some (q, τ) := h
    rw [h', bd_of]
    rcases hq with rfl | rfl
    · rfl
    · rfl
  unfold f_X5_readApplication_b49
  rcases c_stands hs0 (r := r) (fun _ => ⟨f1, f3⟩) with ⟨hk, e1⟩ | ⟨hk, τ, e1, e2⟩
  · rw [e1, bd_of, if_neg (by decide)]
    obtain ⟨z, τ, g1, g2, g3, g4⟩ := at_go (σ := σ0) (μ := mPl (pI μ0 21 0) 8 (-1) 0) hE hsa (r := r) hk hfr hPz rfl
    have ht1 := tn_want hb.2.1 h160 h19 (by rw [hwE]; exact m_w25 hb.2.1 (hb76 z τ g1 g2) g2)
    refine Qt.bd g4 (fun c σ2 ho => ?_)
    obtain ⟨m, hm⟩ : ∃ m, FU = m + 7 := ⟨FU - 7, by have := FU_big (n := 5000) (by decide); omega⟩
    rw [hm]
    rcases ho with ⟨μ2, n, k, o1, o2, o3, o4, o5⟩ | ⟨f, pp, mm, k, o1, o2, o3, o4, o5⟩
    · refine (ap_first hE hs0 hz o3 o4.1 o4.2 (P := 4 * pn σ2 - 1) (by omega) m).mono (fun c3 σ3 w => ?_)
      rcases w with ⟨μ3, n3, k3, w1, w2, w3, w4, w5⟩ | ⟨f, pp, mm, k3, w1, w2, w3, w4, w5⟩
      · exact Or.inl ⟨μ3, n3, 1 + k + k3, by omega, (ht1.tr o2).tr w2, w3, w4, w5⟩
      · exact Or.inr ⟨f, pp, mm, 1 + k + k3, by omega, (ht1.tr o2).die w2 rfl (EqR.rf μ0), w3.weak (fun _ x => x.elim), w4, w5⟩
    · have hst := o3.no
      exact (st_appL (m := m + 6) E atK hst o4 o5).mono (fun c3 σ3 w => Or.inr ⟨f, pp, mm, 1 + k, by omega, ht1.die o2 rfl hEa, w.1, w.2.1, w.2.2⟩)
  · rw [e1, bd_of, if_pos rfl]
    obtain ⟨ρ, g1, g2, g3, g4, g5, g6⟩ := m_bad hsa hk (fun w => ⟨hfr w, f3⟩) (by show 0 < gI μ0 16 + 1; grind) (by show gI μ0 16 + 1 < 3200; grind)
    have ht1 := tn_want hb.2.1 h160 h19 (by rw [hwE]; exact m_w25 hb.2.1 (hb76 0 ρ g1 (Or.inl rfl)) (Or.inl rfl))
    refine Qt.so (Or.inr ⟨badK σ0 r, gI σ0 18, gI σ0 13, 1, by omega, die_of ht1 (bad0 σ0 r) ?_ ?_ ?_ ?_ ((hEa.tr g6).aft), Or.inl e2, by decide, by decide⟩)
    · rw [gI_aft (by decide)]; exact g2
    · rw [gI_aft (by decide)]; exact g3
    · rw [gI_aft (by decide)]; exact g4
    · rw [gI_aft (by decide), gI_aft (by decide), g5, g4, hb.2.2.1]
      rfl
theorem Wd.Pl {σ μ : S5} {k n r : Int32} (h : Wd σ μ) : Wd σ (mPl μ k n r) := h
theorem Wd.I9 {σ μ : S5} {v : Int32} (h : Wd σ μ) : Wd σ (pI μ 9 v) := h
theorem co_head {σ0 μ0 : S5} (hs0 : Sim σ0 μ0) (hz : Pz 3 σ0 μ0) {r : Int32} (h4 : gI σ0 17 = 4) (hr0 : 0 ≤ r) (hr1 : r < gI σ0 4) (hf0 : 0 < xA σ0 2 r) (hap : f_X12_application μ0 = f_X12_application_b25 r (pI μ0 21 0)) : ∃ (σ1 μ1 : S5) (p kc : Int32), f_X10_advance σ0 = some ((), σ1) ∧ (∀ q τ, f_X12_field (gI μ0 16) μ1 = some (q, τ) → (q = 0 ∨ q = 1) → f_X12_application μ0 = some (q, τ)) ∧ EqR μ0 μ1 ∧ EqE σ0 σ1 ∧ Wd σ1 μ1 ∧ (gI μ1 7 = gI μ0 7 ∧ gI μ1 9 = gI μ0 9 + 1 ∧ gI μ1 10 = gI μ0 10 ∧ gI μ1 11 = gI μ0 11 ∧ gI μ1 12 = gI μ0 12 ∧ gI μ1 15 = gI μ0 15 ∧ gI μ1 16 = gI μ0 16 + 1 ∧ gI μ1 17 = gI μ0 17 ∧ gI μ1 21 = 0 ∧ gI μ1 5 = p) ∧ xA μ1 17 (gI μ0 16) = 0 ∧ (gI σ1 8 = gI σ0 8 ∧ gI σ1 9 = gI σ0 9 ∧ gI σ1 10 = gI σ0 10 ∧ gI σ1 13 = gI σ0 13 ∧ gI σ1 14 = gI σ0 14 ∧ gI σ1 15 = gI σ0 15 ∧ gI σ1 5 = gI σ0 5 ∧ gI σ1 11 = gI σ0 11 ∧ gI σ1 18 = p ∧ gI σ1 17 = kc) ∧ gI σ0 18 < p ∧ p ≤ 3000 ∧ okK kc = true ∧ xA σ1 2 r = xA σ0 2 r ∧ (∀ (σ' μ' : S5) (c n : Int32), gI σ0 13 < 600 → Cor (cP σ1) (mP μ1) c σ' μ' n → gI μ' 20 = 0 → gI μ' 21 = 0 → CL r σ0 μ0 σ' μ' 0 c c (two n n) (two c c) (two (gI σ0 9) (gI σ' 9)) (two (gI σ0 10) (gI σ' 10)) (two (gI μ0 9 + 1) (gI μ' 9)) (two (gI σ0 8) (gI σ' 8))) := by
  have hb := hs0.2.2
  unfold Bg at hb
  obtain ⟨h160, h161, h170, h171⟩ := hz.rg hb.2.2.2.2.2.2.2.1 (by decide)
  have hr30 : r < 30 := by have := hs0.2.1.2.2.1; grind
  have hfm := hs0.2.1.2.2.2 r hr0 hr1
  have hwd : Wd σ0 (pA (ndM (pI μ0 21 0) 7) 7 (gI μ0 9) r) := Wd_of hs0.1 rfl rfl rfl rfl rfl rfl rfl rfl rfl rfl rfl rfl rfl rfl
  obtain ⟨e, kc, p, v, z, vm, zm, a1, a2, a3, a4, a5, a6⟩ := adv hwd (by rw [h4]; decide)
  have hEc : EqR μ0 (mCo μ0 r e (kMd kc) p vm zm) := EqR.Co
  have hEE1 : EqE σ0 (wdC σ0 e kc p v z) := (EqE.rf σ0).w
  have happ : ∀ q τ, f_X12_field (gI μ0 16) (mCo μ0 r e (kMd kc) p vm zm) = some (q, τ) → (q = 0 ∨ q = 1) → f_X12_application μ0 = some (q, τ) := by
    intro q τ h hq
    rw [hap]
    unfold f_X12_application_b25
    rw [if_neg (by grind), gd30 hr0 hr30, show xA (pI μ0 21 0) 13 r = xA μ0 13 r from rfl, ← hfm.2.1, if_neg (by grind), m_node (μ := pI μ0 21 0) 7 (by show 0 ≤ gI μ0 9; grind) (by show gI μ0 9 < 3200; grind), bd_of, show gI (pI μ0 21 0) 9 = gI μ0 9 from rfl, gd3200 (by grind) (by grind), a2, bd_of, m_pile (μ := wdM (pA (ndM (pI μ0 21 0) 7) 7 (gI μ0 9) r) e (kMd kc) p vm zm) 9 (gI μ0 9) 0 (by show 0 ≤ gI μ0 16; grind) (by show gI μ0 16 < 3200; grind), bd_of]
    have h' : f_X12_field (gI (mCo μ0 r e (kMd kc) p vm zm) 16 - 1) (mCo μ0 r e (kMd kc) p vm zm) = some (q, τ) := by
      rw [(mCo_num μ0 r e (kMd kc) p vm zm).2.2.2.2.2.2.1, show gI μ0 16 + 1 - 1 = gI μ0 16 by grind]; exact h
    have h2 : f_X12_field (gI (pI (pA (pA (pA (pA (wdM (pA (ndM (pI μ0 21 0) 7) 7 (gI μ0 9) r) e (kMd kc) p vm zm) 14 (gI (wdM (pA (ndM (pI μ0 21 0) 7) 7 (gI μ0 9) r) e (kMd kc) p vm zm) 16) 9) 15 (gI (wdM (pA (ndM (pI μ0 21 0) 7) 7 (gI μ0 9) r) e (kMd kc) p vm zm) 16) (gI μ0 9)) 16 (gI (wdM (pA (ndM (pI μ0 21 0) 7) 7 (gI μ0 9) r) e (kMd kc) p vm zm) 16) 0) 17 (gI (wdM (pA (ndM (pI μ0 21 0) 7) 7 (gI μ0 9) r) e (kMd kc) p vm zm) 16) 0) 16 (gI (wdM (pA (ndM (pI μ0 21 0) 7) 7 (gI μ0 9) r) e (kMd kc) p vm zm) 16 + 1)) 16 - 1) (pI (pA (pA (pA (pA (wdM (pA (ndM (pI μ0 21 0) 7) 7 (gI μ0 9) r) e (kMd kc) p vm zm) 14 (gI (wdM (pA (ndM (pI μ0 21 0) 7) 7 (gI μ0 9) r) e (kMd kc) p vm zm) 16) 9) 15 (gI (wdM (pA (ndM (pI μ0 21 0) 7) 7 (gI μ0 9) r) e (kMd kc) p vm zm) 16) (gI μ0 9)) 16 (gI (wdM (pA (ndM (pI μ0 21 0) 7) 7 (gI μ0 9) r) e (kMd kc) p vm zm) 16) 0) 17 (gI (wdM (pA (ndM (pI μ0 21 0) 7) 7 (gI μ0 9) r) e (kMd kc) p vm zm) 16) 0) 16 (gI (wdM (pA (ndM (pI μ0 21 0) 7) 7 (gI μ0 9) r) e (kMd kc) p vm zm) 16 + 1)) = some (q, τ) := h'
    rw [h2, bd_of]
    rcases hq with rfl | rfl
    · rfl
    · rfl
  exact ⟨wdC σ0 e kc p v z, mCo μ0 r e (kMd kc) p vm zm, p, kc, a1, happ, EqR.Co, (EqE.rf σ0).w, a3.Pl, mCo_num μ0 r e (kMd kc) p vm zm, (mCo_top μ0 r e (kMd kc) p vm zm).2.2, ⟨gI_wdC (by decide), gI_wdC (by decide), gI_wdC (by decide), gI_wdC (by decide), gI_wdC (by decide), gI_wdC (by decide), gI_wdC (by decide), gI_wdC (by decide), p_wdC, k_wdC⟩, a4, a6, a5, xA_wdC .., fun σ' μ' c n h1 h2 h3 h4 => co_one hs0 h160 h161 h170 h171 h1 a4 h2 h3 h4⟩
/-- an application that begins with a constructor of fields -/
theorem ap_cons {σ0 μ0 : S5} {E : S5 → Option (Int32 × S5)} (hE : ESp E (gI σ0 14 + 1)) (hs0 : Sim σ0 μ0) (hz : Pz 3 σ0 μ0) (h19 : ¬ gI μ0 19 = 0) (hwE : f_X12_wantE μ0 = f_X12_wantE_b25 μ0) {r : Int32} (h4 : gI σ0 17 = 4) (hr0 : 0 ≤ r) (hr1 : r < gI σ0 4) (hf0 : 0 < xA σ0 2 r) (hap : f_X12_application μ0 = f_X12_application_b25 r (pI μ0 21 0)) : Qt (f_X5_readBuild E r σ0) (Out (4 * pn σ0) (fun μ' => gI μ' 20 = 1 ∧ gI μ' 21 = 0) (fun k => ¬ atK k) atK σ0 μ0 μ0) := by
  have hb := hs0.2.2
  unfold Bg at hb
  have hp3 := hs0.p3
  obtain ⟨h160, h161, h170, h171⟩ := hz.rg hb.2.2.2.2.2.2.2.1 (by decide)
  have hpn3 := pn_3 hs0
  have hr30 : r < 30 := by have := hs0.2.1.2.2.1; grind
  have hfm := hs0.2.1.2.2.2 r hr0 hr1
  obtain ⟨kf, hkf⟩ : ∃ kf, kf = (xA σ0 2 r).toNatClampNeg := ⟨_, rfl⟩
  have hf : xA σ0 2 r = nI kf := by rw [hkf]; exact nI_tn hfm.2.2.1
  have hk4 : kf ≤ 4 := by rw [hkf]; exact i_le hfm.2.2.2
  have hk1 : 1 ≤ kf := by rw [hkf]; exact i_lt (a := 0) (by decide) hf0
  obtain ⟨σ1, μ1, p, kc, a1, happ, hEc, hEE1, hwc, ⟨q7, q9, q10, q11, q12, q15, q16, q17, q21, q5⟩, htop, ⟨x8, x9, x10, x13, x14, x15, x5, x11, x18, x17⟩, a4, a6, a5, hx2, hco⟩ := co_head hs0 hz h4 hr0 hr1 hf0 hap
  have hcc : Ct σ1 μ1 := Ct_eq hs0.2.1 hEE1 hEc
  have hpn1 : pn σ0 + 1 ≤ pn σ1 := pn_lt hp3.1 (by rw [x18]; exact a4)
  unfold f_X5_readBuild
  rw [a1, bd_of]
  have hs1 : Sim σ1 (pI μ1 9 (gI μ0 9)) := by
    have y7 : gI (pI μ1 9 (gI μ0 9)) 7 = gI μ0 7 := q7
    have y9 : gI (pI μ1 9 (gI μ0 9)) 9 = gI μ0 9 := rfl
    have y10 : gI (pI μ1 9 (gI μ0 9)) 10 = gI μ0 10 := q10
    have y11 : gI (pI μ1 9 (gI μ0 9)) 11 = gI μ0 11 := q11
    have y15 : gI (pI μ1 9 (gI μ0 9)) 15 = gI μ0 15 := q15
    refine ⟨hwc.I9, Ct_eq hs0.2.1 hEE1 (hEc.I (by decide)), ?_⟩
    have hg : Gm 0 0 σ0 σ1 μ0 (pI μ1 9 (gI μ0 9)) := by
      have i8 := iv_eq x8
      have i9 := iv_eq x9
      have i10 := iv_eq x10
      have i13 := iv_eq x13
      have i18 : iv σ0 18 < iv σ1 18 := iv_lt (by rw [x18]; exact a4)
      have m9 := iv_eq y9
      have m10 := iv_eq y10
      unfold Gm
      omega
    have hbm := hs0.bm
    obtain ⟨b1, b2, b3, b4, b5, b6, b7, b8, b9, b10, b11, b12, b13, b14, b15, b16, b17, b18, b19, b20, b21, b22, b23⟩ := hb
    exact Bg_mk (by rw [x11]; exact b1) (by rw [y7]; exact b2) (by rw [x13, y11]; exact b3) (by rw [x13]; exact b4) (by rw [x13]; exact b5) (by rw [x14, y15]; exact b6) (by rw [x14]; exact b7) (by rw [x14]; exact b8) (by rw [x8]; exact b9) (by rw [x9]; exact b11) (by rw [x5]; exact b13) (by rw [x5]; exact b14) (by rw [x10]; exact b15) (by rw [y9]; exact b17) (by rw [y10]; exact b19) (by rw [x15]; exact b21) (by rw [x15, x9]; exact b22) (by rw [x18]; exact a6) (hbm.gr hg (by decide) (by decide) x5)
  obtain ⟨r', f1, f2, f3⟩ := con_of hcc (gJ σ1 0)
  have hjn : gI σ1 17 = 4 → gJ σ1 0 = gJ μ1 0 := fun w => hwc.2.2.2.2.2.2.2.2.2.1 (Or.inr w)
  have hfr : gI σ1 17 = 4 → f_X12_findConstructor (gJ μ1 0) μ1 = some (r', μ1) := fun w => by rw [← hjn w]; exact f2
  have hb6 : gI σ1 14 = gI μ1 15 := by rw [x14, q15]; exact hb.2.2.2.2.2.1
  have h7c : gI μ1 7 = 0 := by rw [q7]; exact hb.2.1
  obtain ⟨m, hm⟩ : ∃ m, FU = m + 7 := ⟨FU - 7, by have := FU_big (n := 5000) (by decide); omega⟩
  rw [hm]
  show Qt (f_X5_readBuild_B14 E (f_X5_readBuild_L14 E (m + 6)) r (-1) (-1) 0 σ1) _
  unfold f_X5_readBuild_B14
  rw [gd30 hr0 hr30, hx2, if_neg (by grind)]
  rcases c_stands hs1 (r := r') (fun _ => ⟨f1, f3⟩) with ⟨hk, e1⟩ | ⟨hk, τ, e1, e2⟩
  · rw [e1, bd_of, if_neg (by decide), if_pos rfl]
    have hju := m_judge0 hwc hcc hb6 hk hfr
    by_cases hp : gI σ0 13 < 600
    · rw [c_cnt0 (σ := σ1) (by rw [x13]; exact hp) (by rw [x17]; exact okK_ne a5), bd_of]
      have hEz : EqR μ0 (mP μ1) := hEc.P
      have hEp : EqE σ0 (cP σ1) := hEE1.P
      have m9 : gI (mP μ1) 9 = gI μ0 9 + 1 := q9
      have m10 : gI (mP μ1) 10 = gI μ0 10 := q10
      have m11 : gI (mP μ1) 11 = gI μ0 11 + 1 := by show gI μ1 11 + 1 = _; rw [q11]
      have m12 : gI (mP μ1) 12 = gI μ0 12 + 1 := by show gI μ1 12 + 1 = _; rw [q12]
      have m15 : gI (mP μ1) 15 = gI μ0 15 := q15
      have m16 : gI (mP μ1) 16 = gI μ0 16 + 1 := q16
      have m17 : gI (mP μ1) 17 = gI μ0 17 := q17
      have m7 : gI (mP μ1) 7 = gI μ0 7 := q7
      have z8 : gI (cP σ1) 8 = gI σ0 8 := x8
      have z9 : gI (cP σ1) 9 = gI σ0 9 := x9
      have z10 : gI (cP σ1) 10 = gI σ0 10 := x10
      have z13 : gI (cP σ1) 13 = gI σ0 13 + 1 := by show gI σ1 13 + 1 = _; rw [x13]
      have z14 : gI (cP σ1) 14 = gI σ0 14 := x14
      have z15 : gI (cP σ1) 15 = gI σ0 15 := x15
      have z5 : gI (cP σ1) 5 = gI σ0 5 := x5
      have z11 : gI (cP σ1) 11 = gI σ0 11 := x11
      have z18 : gI (cP σ1) 18 = p := x18
      have hwz : Wd (cP σ1) (mP μ1) := Wd_of hwc rfl rfl rfl rfl rfl rfl rfl rfl rfl rfl rfl rfl rfl rfl
      have hkz : stdK (cP σ1) r' := hk
      have hpc : pn (cP σ1) = pn σ1 := rfl
      have hfz : gI (cP σ1) 17 = 4 → f_X12_findConstructor (gJ (mP μ1) 0) (mP μ1) = some (r', mP μ1) := fun w => by
        show f_X12_findConstructor (gJ μ1 0) _ = _
        rw [← hjn w]
        exact con_same (μ := μ0) (Ct_eq hs0.2.1 hEE1 hEz) f1
      have q21' : gI (mP μ1) 21 = 0 := q21
      have hfield : ∀ y τ, f_X12_atom (mP μ1) = some (y, τ) → (y = 0 ∨ y = 1) → f_X12_field (gI μ0 16) μ1 = some (y, τ) := fun y τ g1 g2 => m_field1 h7c hju (by grind) (by grind) htop (by rw [q11, ← hb.2.2.1]; grind) g1 g2
      clear hk hwc
      generalize cP σ1 = σ2 at *
      generalize mP μ1 = μ2 at *
      have hsz : Sim σ2 μ2 := by
        refine ⟨hwz, Ct_eq hs0.2.1 hEp hEz, ?_⟩
        have hg : Gm 0 0 σ0 σ2 μ0 μ2 := by
          have i8 := iv_eq z8
          have i9 := iv_eq z9
          have i10 := iv_eq z10
          have i13 := iv_a1 z13 (by grind) (by grind)
          have i18 : iv σ0 18 < iv σ2 18 := iv_lt (by rw [z18]; exact a4)
          have j9 := iv_a1 m9 (by grind) (by grind)
          have j10 := iv_eq m10
          unfold Gm
          omega
        have hbm := hs0.bm
        obtain ⟨b1, b2, b3, b4, b5, b6, b7, b8, b9, b10, b11, b12, b13, b14, b15, b16, b17, b18, b19, b20, b21, b22, b23⟩ := hb
        exact Bg_mk (by rw [z11]; exact b1) (by rw [m7]; exact b2) (by rw [z13, m11, b3]) (by rw [z13]; grind) (by rw [z13]; grind) (by rw [z14, m15]; exact b6) (by rw [z14]; exact b7) (by rw [z14]; exact b8) (by rw [z8]; exact b9) (by rw [z9]; exact b11) (by rw [z5]; exact b13) (by rw [z5]; exact b14) (by rw [z10]; exact b15) (by rw [m9]; grind) (by rw [m10]; exact b19) (by rw [z15]; exact b21) (by rw [z15, z9]; exact b22) (by rw [z18]; exact a6) (hbm.gr hg (by decide) (by decide) z5)
      have hPz : Pz 4 σ2 μ2 := by
        have i16 := iv_a1 m16 (by grind) (by grind)
        have i17 := iv_eq m17
        have i14 := iv_eq z14
        unfold Pz at *
        omega
      obtain ⟨y, τ, g1, g2, g3, g4⟩ := at_go (σ := σ2) (μ := μ2) (E := E) (by rw [z14]; exact hE) hsz (r := r') hkz hfz hPz q21'
      have ht1 := tn_want hb.2.1 h160 h19 (by rw [hwE]; exact m_w25 hb.2.1 (happ y τ (hfield y τ g1 g2) g2) g2)
      unfold f_X5_readBuild_b44 f_X5_readBuild_b72
      refine Qt.bd g4 (fun c σ2 ho => ?_)
      rw [if_pos rfl]
      rcases ho with ⟨μ2, n, k, o1, o2, o3, o4, o5⟩ | ⟨f, pp, mm, k, o1, o2, o3, o4, o5⟩
      · have hCL := hco _ _ _ _ hp o3 o4.1 o4.2
        obtain ⟨d, hd⟩ : ∃ d, 0 + 1 + d = kf := ⟨kf - 1, by omega⟩
        have hx := CL.loop hE hs0 hz hk4 hr0 hr1 hf d 0 hd (m + 4 - d) σ2 μ2 c c _ _ _ _ _ _ hCL (4 * pn σ2 - 1) (by omega)
        rw [show m + 4 - d + d + 2 = m + 6 by omega, show nI (0 + 1) = (0 : Int32) + 1 by decide] at hx
        refine hx.mono (fun c3 σ3 w => ?_)
        rcases w with ⟨μ3, n3, k3, w1, w2, w3, w4, w5⟩ | ⟨f, pp, mm, k3, w1, w2, w3, w4, w5⟩
        · exact Or.inl ⟨μ3, n3, 1 + k + k3, by omega, (ht1.tr o2).tr w2, w3, w4, w5⟩
        · exact Or.inr ⟨f, pp, mm, 1 + k + k3, by omega, (ht1.tr o2).die w2 rfl (EqR.rf μ0), w3, w4, w5⟩
      · have hst := o3.no
        refine (st_buildL (m := m + 5) E atK hst hr0 hr30).mono (fun c3 σ3 w => Or.inr ⟨f, pp, mm, 1 + k, by omega, ht1.die o2 ?_ hEz, w.1, w.2.1, w.2.2⟩)
        rw [m12, m11]
        grind
    · obtain ⟨τ, g1, g2⟩ := c_cnt1 hs1 (by rw [x13]; exact hp)
      rw [g1, bd_of]
      unfold f_X5_readBuild_b44 f_X5_readBuild_b72
      rw [st_atom E g2, bd_of, if_pos rfl]
      have ht1 := tn_want hb.2.1 h160 h19 (by rw [hwE]; exact m_w25 hb.2.1 (happ 0 _ (m_field6 h7c hju (by grind) (by grind) htop (by rw [q11]; grind)) (Or.inl rfl)) (Or.inl rfl))
      rw [x18, x13] at g2
      refine (st_buildL (m := m + 5) E atK g2 hr0 hr30).mono (fun c3 σ3 w => Or.inr ⟨4, p, gI σ0 13, 1, by omega, die_of ht1 (by decide) rfl ?_ ?_ ?_ ((((hEc.I (by decide)).I (by decide)).aft)), w.1, w.2.1, w.2.2⟩)
      · show gI μ1 5 = p
        exact q5
      · show gI μ1 11 = gI σ0 13
        rw [q11]; exact hb.2.2.1.symm
      · show gI μ1 12 - gI μ1 11 = _
        rw [q12, q11]
  · rw [e1, bd_of, if_pos rfl]
    have hju := m_judgeB hwc hcc h7c hb6 (by rw [x14]; exact hb.2.2.2.2.2.2.2.1) hk (fun w => ⟨hfr w, f3⟩)
    have ht1 := tn_want hb.2.1 h160 h19 (by rw [hwE]; exact m_w25 hb.2.1 (happ 0 _ (m_fieldB hju (by exact bad0 σ1 r')) (Or.inl rfl)) (Or.inl rfl))
    rw [x18, x13] at e2
    refine (st_build81 E atK (Or.inl e2)).mono (fun c σ2 w => Or.inr ⟨badK σ1 r', p, gI σ0 13, 1, by omega, die_of ht1 (bad0 _ r') rfl ?_ ?_ ?_ ((((hEc.I (by decide)).I (by decide)).aft)), w.1, w.2.1, w.2.2⟩)
    · show gI μ1 5 = p
      exact q5
    · show gI μ1 11 = gI σ0 13
      rw [q11]; exact hb.2.2.1.symm
    · show gI μ1 12 - gI μ1 11 = _
      rw [q12, q11]
/-- an application -/
theorem ap_go {σ0 μ0 : S5} {E : S5 → Option (Int32 × S5)} (hE : ESp E (gI σ0 14 + 1)) (hs0 : Sim σ0 μ0) (hz : Pz 3 σ0 μ0) (h19 : ¬ gI μ0 19 = 0) (h18 : gI μ0 18 = 0 ∨ (¬ gI σ0 17 = 7 ∧ ¬ gI σ0 17 = 9 ∧ ¬ gI σ0 17 = 92)) : Qt (f_X5_readApplication E σ0) (Out (4 * pn σ0) (fun μ' => gI μ' 20 = 1 ∧ gI μ' 21 = 0) (fun k => ¬ atK k) atK σ0 μ0 μ0) := by
  have hwE := m_wE hs0.1 h18
  have w3 := hs0.1.2.2.1
  have w4 := hs0.1.2.2.2.1
  obtain ⟨r, f1, f2, f3⟩ := con_of hs0.2.1 (gJ σ0 0)
  have hjn : gI σ0 17 = 4 → gJ σ0 0 = gJ μ0 0 := fun w => hs0.1.2.2.2.2.2.2.2.2.2.1 (Or.inr w)
  have hfr : gI σ0 17 = 4 → f_X12_findConstructor (gJ μ0 0) (pI μ0 21 0) = some (r, pI μ0 21 0) := fun w => by
    rw [← hjn w]
    exact con_same (μ := μ0) (Ct_eq hs0.2.1 (EqE.rf σ0) ((EqR.rf μ0).I (by decide))) f1
  unfold f_X5_readApplication
  by_cases c4 : gI σ0 17 = 4
  · have hm4 : gI μ0 4 = 4 := by rw [w3, c4]; decide
    have hap : f_X12_application μ0 = f_X12_application_b25 r (pI μ0 21 0) := by
      unfold f_X12_application
      rw [if_pos hm4, hfr c4, bd_of]
    rw [if_pos c4, f1, bd_of]
    by_cases cr : r = -1
    · rw [if_pos cr]
      refine ap_plain hE hs0 hz h19 hwE f1 f3 ?_
      rw [hap]
      unfold f_X12_application_b25
      rw [if_pos (by rw [cr]; decide)]
    · have hr2 : 0 ≤ r ∧ r < gI σ0 4 := by rcases f3 with f3 | f3; exact absurd f3 cr; exact f3
      have hr30 : r < 30 := by have := hs0.2.1.2.2.1; grind
      have hfm := hs0.2.1.2.2.2 r hr2.1 hr2.2
      rw [if_neg cr, gd30 hr2.1 hr30]
      by_cases cf : xA σ0 2 r ≤ 0
      · rw [if_pos cf]
        refine ap_plain hE hs0 hz h19 hwE f1 f3 ?_
        rw [hap]
        unfold f_X12_application_b25
        rw [if_neg (by grind), gd30 hr2.1 hr30, show xA (pI μ0 21 0) 13 r = xA μ0 13 r from rfl, ← hfm.2.1, if_pos cf]
      · rw [if_neg cf, bd_eta']
        exact ap_cons hE hs0 hz h19 hwE c4 hr2.1 hr2.2 (by grind) hap
  · have hm4 : ¬ gI μ0 4 = 4 := by rw [w3]; intro q; exact c4 ((kMd_at 4 (by decide +kernel) w4).mp (by rw [q]; decide))
    rw [if_neg c4]
    refine ap_plain hE hs0 hz h19 hwE f1 f3 ?_
    unfold f_X12_application f_X12_application_b25
    rw [if_neg hm4, if_pos (by decide)]
