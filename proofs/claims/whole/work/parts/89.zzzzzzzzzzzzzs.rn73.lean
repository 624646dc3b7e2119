/-- lifting and demand, with what running must know -/
theorem lp_go2 {ν σ1 σ' μ' σ4 : S5} {k : Nat} {cc fs fu fn ft : Nat → Int32} (hT : TP ν σ' μ' k cc fs fu fn ft) (h17 : gI σ' 17 = 1) (e : f_X5_readText (f_readE 64) σ1 = some ((), σ')) (hDN : DN σ') (hZ : Z22 σ') (hS : SmR σ' σ4) : ∃ τ' μ'', f_X2_lift σ4 = some ((), τ') ∧ bd (f_X12_numberAll (pI μ' 1 0)) (fun _ ν => bd (f_X12_find ν) (fun _ μf => f_X12_program_b61 μf)) = f_X12_program_b83 μ'' ∧ KL σ4 τ' ∧ P20 τ' ∧ KM (pI μ' 1 0) μ'' ∧ (DN τ' ∧ Z22 τ') ∧ (gI τ' 20 = gI μ'' 7 ∧ (¬ gI τ' 20 = 0 → gI τ' 21 = gI μ'' 8)) ∧ (gI τ' 20 = 0 → ∀ τs, AsS τ' τs → ∃ F τ2 μ2, f_X1_solve (f_wordE 64) τs = some ((), τ2) ∧ f_X12_program_b83 μ'' = some (nI F, μ2) ∧ gI τ2 6 = nI F ∧ FrY τs τ2 ∧ (PRg τ2 μ2 ∧ PRh τ2 μ2) ∧ ((∀ j, ¬ j = 29 → ¬ j = 30 → ¬ j = 31 → gI μ2 j = gI μ'' j) ∧ (∀ j, ¬ j = 36 → ¬ j = 49 → ¬ j = 50 → ¬ j = 51 → ¬ j = 52 → gA μ2 j = gA μ'' j) ∧ gI μ2 29 = 1 ∧ gI μ2 30 = 0 ∧ gI μ2 31 = -1)) := by
  obtain ⟨⟨hWd, hCt, hBv⟩, hBm, -, ⟨k30, t5, t6, t13⟩, -, -, hPG⟩ := hT
  obtain ⟨v11, v7, v13, v13a, v13b, v14, v14a, v14b, v8a, v8b, v9a, v9b, v5a, v5b, v10a, v10b, vm9a, vm9b, vm10a, vm10b, -, -, -⟩ := hBv
  obtain ⟨σL, eL⟩ : ∃ s, s = pI (pI σ4 20 0) 21 (-1) := ⟨_, rfl⟩
  have LI : ∀ j, 2 ≤ j → j ≤ 24 → ¬ j = 20 → ¬ j = 21 → gI σL j = gI σ' j := fun j a b c d => by
    rw [eL, gI_pI, if_neg d, gI_pI, if_neg c]
    exact hS.1 j a b
  have LA : ∀ j x, j ≤ 30 → xA σL j x = xA σ' j x := fun j x a => by
    rw [eL]
    show gA σ4 j _ = gA σ' j _
    rw [hS.2.1 j a]
  have LB : ∀ j x, j ≤ 7 → xB σL j x = xB σ' j x := fun j x a => by
    rw [eL]
    show gB σ4 j _ = gB σ' j _
    rw [hS.2.2 j a]
  have hAg : AgP σ' σL μ' (pI μ' 1 0) k := ⟨⟨LI 4 (by decide) (by decide) (by decide) (by decide), LI 8 (by decide) (by decide) (by decide) (by decide), LI 9 (by decide) (by decide) (by decide) (by decide), LI 10 (by decide) (by decide) (by decide) (by decide)⟩, fun g i hg => LA g i (by omega), fun g i hg => LB g i (by omega), fun i _ => ⟨LA 8 _ (by decide), LA 4 _ (by decide), LA 11 _ (by decide)⟩, ⟨rfl, rfl⟩, fun _ _ _ => rfl, fun _ _ _ => rfl, fun _ _ => ⟨rfl, rfl⟩⟩
  have hP := hPG.st hAg
  have hDL : DN σL := DN_of hDN (fun i => LA 20 i (by decide)) (fun i => LB 3 i (by decide))
  obtain ⟨D, hD⟩ := dp_text e
  have e9 : gI σL 9 = gI σ' 9 := LI 9 (by decide) (by decide) (by decide) (by decide)
  have e8 : gI σL 8 = gI σ' 8 := LI 8 (by decide) (by decide) (by decide) (by decide)
  have e10 : gI σL 10 = gI σ' 10 := LI 10 (by decide) (by decide) (by decide) (by decide)
  have e4 : gI σL 4 = gI σ' 4 := LI 4 (by decide) (by decide) (by decide) (by decide)
  have e5 : gI σL 5 = gI σ' 5 := LI 5 (by decide) (by decide) (by decide) (by decide)
  have e6 : gI σL 6 = gI σ' 6 := LI 6 (by decide) (by decide) (by decide) (by decide)
  have e13 : gI σL 13 = gI σ' 13 := LI 13 (by decide) (by decide) (by decide) (by decide)
  have hnp : prI (wp σL) (gI σL 8) ≤ 600 := by
    have h1 := np_text e (by rw [h17]; decide)
    have h2 : wp σL = wp σ' := funext (fun i => by unfold wp; rw [LA 13 _ (by decide)])
    rw [h2, e8]
    have h3 := i_le v13b
    have h4 : (600 : Int32).toNatClampNeg = 600 := rfl
    omega
  have h18 : gI σ' 18 ≤ 3000 := i_trans hWd.2.2.2.2.2.2.1 (i_trans hWd.2.2.2.2.2.2.2.1 hWd.1.2.2.1)
  obtain ⟨τ', μ'', l1, l2, l3, l4, l5⟩ := lift_go (σ0 := σ4) (D := D) eL hP k30 (by rw [e5]; exact t5) (by rw [e6]; exact t6) t13 (by rw [e9]; exact v9a) (by rw [e9]; exact v9b) (by rw [e10]; exact v10a) (by rw [e10]; exact i_trans v10b v13b) vm9a (i_trans vm9b (by decide)) (i_trans vm10b h18) v7 hDL (fun x x0 x1 => by
    rw [e9] at x1
    rw [LA 21 x (by decide)]
    exact hD x x0 x1) hnp (by rw [e8]; exact v8a) (by rw [e4]; exact hCt.2.2.1)
  have hKL := kl_f_X2_lift σ4 (KL.rf σ4) _ _ l1
  have hD4 : DN σ4 := DN_of hDN (fun i => by show gA σ4 20 _ = gA σ' 20 _; rw [hS.2.1 20 (by decide)]) (fun i => by show gB σ4 3 _ = gB σ' 3 _; rw [hS.2.2 3 (by decide)])
  have hZ4 : Z22 σ4 := by
    unfold Z22
    rw [hS.1 22 (by decide) (by decide)]
    exact hZ
  refine ⟨τ', μ'', l1, l2, hKL, p_lift l1, l5, ⟨dn_lift hD4 l1, z_lift hZ4 l1⟩, l3, fun h20 τs hs => ?_⟩
  have hLU := l4 h20
  obtain ⟨F, τ2, μ2, d1, d2, d3, d4⟩ := dem_go hLU hs (by rw [LI 22 (by decide) (by decide) (by decide) (by decide)]; exact hZ) (by rw [← l3.1]; exact h20)
  have hpr : PRg τ2 μ2 := by
    refine prg_of (μ := pI μ' 1 0) d4 (fun j hj => ?_) ?_ (fun j hj => ?_) l5 ?_ ?_ ?_ ?_ ?_
    · rw [hs.1 j (by omega), hKL.1 j (by omega), eL, gI_pI, if_neg (by omega), gI_pI, if_neg (by omega)]
    · rw [hs.2.1 2, hKL.2.2.1 2 (by omega), eL]
      rfl
    · rw [hs.2.2 j, hKL.2.2.2.1 j hj, eL]
      rfl
    · obtain ⟨c1, c2, c3, c4⟩ := hCt
      refine ⟨by rw [e4]; exact c1, by rw [e4]; exact c2, by rw [e4]; exact c3, fun i i0 i1 => ?_⟩
      rw [e4] at i1
      rw [LB 0 i (by decide), LA 2 i (by decide)]
      exact c4 i i0 i1
    · rw [e13]; exact v13
    · rw [e5, t5, nI_clamp (by omega)]; exact k30
    · rw [e5, t5]; exact t13
    · intro i hi
      rw [e5, t5, nI_clamp (by omega)] at hi
      rw [LB 1 _ (by decide)]
      exact (hPG.2.1 i hi).1.1
  have hpw : ∃ (F k T : Nat) (pa nv : Nat → Nat) (Tt : Nat → (Nat → Bool) → Bool) (Dom : Int32 → Prop) (τp : S5), PRgW τ2 μ2 F k T pa nv Tt ∧ (DmB τ2 Dom ∧ ∀ f, f < F → Dom (xA τ2 7 (nI f))) ∧ (∀ f, f < F → wtN (wD μ2 pa) μ2 (xA μ2 45 (nI f)).toNatClampNeg ≤ 600) ∧ TR2 τp τ2 ∧ X3s τp τ2 := by
    refine prw_of (μ := pI μ' 1 0) d4 (fun j hj => ?_) ?_ (fun j hj => ?_) l5 ?_ ?_ ?_ ?_ ?_ hnp
    · rw [hs.1 j (by omega), hKL.1 j (by omega), eL, gI_pI, if_neg (by omega), gI_pI, if_neg (by omega)]
    · rw [hs.2.1 2, hKL.2.2.1 2 (by omega), eL]
      rfl
    · rw [hs.2.2 j, hKL.2.2.2.1 j hj, eL]
      rfl
    · obtain ⟨c1, c2, c3, c4⟩ := hCt
      refine ⟨by rw [e4]; exact c1, by rw [e4]; exact c2, by rw [e4]; exact c3, fun i i0 i1 => ?_⟩
      rw [e4] at i1
      rw [LB 0 i (by decide), LA 2 i (by decide)]
      exact c4 i i0 i1
    · rw [e13]; exact v13
    · rw [e5, t5, nI_clamp (by omega)]; exact k30
    · rw [e5, t5]; exact t13
    · intro i hi
      rw [e5, t5, nI_clamp (by omega)] at hi
      rw [LB 1 _ (by decide)]
      exact (hPG.2.1 i hi).1.1
  obtain ⟨_, _, _, _, _, _, _, _, _, _, _, _, _, _, _, _, _, _, _, _, _, -, -, -, -, -, -, -, -, -, -, -, -, ⟨hFY, -, -⟩, hDT⟩ := d4
  have hz := cz_text e
  have hmz := mz_lift σ4 _ _ l1
  have hph : PRh τ2 μ2 := by
    obtain ⟨F', k', T', pa', nv', Tt', Dom', τp', x1, ⟨x2, x3⟩, x4, x5, x6⟩ := hpw
    have q2 : ∀ x, gA τ2 2 x = gA σ' 2 x := fun x => by rw [hFY.2.2.1 2 (by decide) (by decide) (by decide), hs.2.1 2, hKL.2.2.1 2 (by omega), hS.2.1 2 (by decide)]
    refine prh_of x1 x2 x3 x4 x5 x6 ⟨(q2 _).trans hz.2.1, (q2 _).trans hz.2.2⟩ ?_
    have q3 : ∀ x, gA τ2 3 x = gA τ' 3 x := fun x => by rw [hFY.2.2.1 3 (by decide) (by decide) (by decide), hs.2.1 3]
    have q7 : gI τ2 7 = gI τ' 7 := by rw [hFY.1 7 (by decide) (by decide), hs.1 7 (by decide)]
    show gA τ2 3 (gI τ2 7).toNatClampNeg ≤ 0
    rw [q3, q7]
    exact hmz.resolve_left (fun w => w h20)
  exact ⟨F, τ2, μ2, d1, d2, d3, hFY, ⟨hpr, hph⟩, hDT.2.2.2.1.1, hDT.2.2.2.1.2.2.1, hDT.2.2.2.2.1, hDT.2.2.2.2.2.1, hDT.2.2.2.2.2.2⟩
/-- THE CALL program, with what running must know -/
theorem prog_go2 {σ μ : S5} (h : RA σ μ) (hX : RXX σ μ) (hY : RYY σ μ) : ∃ (kx rm : Int32) (τ μ1 : S5), h_L_program σ = some (kx, τ) ∧ f_X12_program μ = some (rm, μ1) ∧ gI μ1 0 = kx ∧ (kx = 0 → gB τ 30 (0 : Int32).toNatClampNeg = rm.toInt64) ∧ RA τ μ1 ∧ RXX τ μ1 ∧ RYY τ μ1 ∧ (Kp σ τ ∨ τ = σ) := by
  have h63 : gI σ 63 = gI μ 12 := h.2.2.1.2.2.1
  by_cases hl : gI σ 63 < 20000
  · obtain ⟨τ22, f1, fI, fA, fB, fN, f40, f41⟩ := fo_mK σ
    obtain ⟨ν, c1, cI, -, cA, cB, -, c57⟩ := cr_go (pI (pI μ 0 0) 29 0)
    obtain ⟨σ1, e1⟩ : ∃ s, s = mK σ τ22 := ⟨_, rfl⟩
    rw [← e1] at fI fA fB fN f40 f41
    have hRT : RT σ1 ν := by
      obtain ⟨t1, t2, t3, t4⟩ := h.1
      have n1 : gI ν 1 = gI μ 1 := by rw [cI 1, if_neg (by decide), gI_pI, if_neg (by decide), gI_pI, if_neg (by decide)]
      refine ⟨by rw [fI 0, n1]; exact t1, by rw [fI 0]; exact t2, by rw [fI 0]; exact t3, fun i hi => ?_⟩
      rw [fI 0] at hi
      rw [fA 0 (by decide) (by decide), cA 0 (by decide)]
      exact t4 i hi
    obtain ⟨σ', μ', r1, r2, r3⟩ := rt_go hRT
    have hDN1 : DN σ1 := DN_of hX.1 (fun i => by show gA σ1 20 _ = gA σ 20 _; rw [fA 20 (by decide) (by decide)]) (fun i => by show gB σ1 3 _ = gB σ 3 _; rw [fB 3])
    have hZ1 : Z22 σ1 := by
      unfold Z22
      rw [fI 22]
      exact hX.2.1
    have hDN' := dn_text hDN1 r1
    have hZ' := z_text hZ1 r1
    have h11 := p_text r1
    have hKq : Kq μ ν := ⟨fun j hj => by rw [cI j, if_neg (by omega), gI_pI, if_neg (by omega), gI_pI, if_neg (by omega)], fun j hj => by rw [cI j, if_pos hj], by rw [cA 1 (by decide)]; rfl, c57⟩
    have hKp1 : Kp σ σ1 := ⟨fun j _ => fI j, fun j hj => fA j (by omega) (by omega), f40, f41, fun j _ _ => fB j, fun k _ => fN k⟩
    have n0 : gI ν 0 = 0 := by rw [cI 0, if_neg (by decide)]; rfl
    have n29 : gI ν 29 = 0 := by rw [cI 29, if_neg (by decide)]; rfl
    have n12 : gI ν 12 = gI μ 12 := by rw [cI 12, if_neg (by decide)]; rfl
    obtain ⟨S2, e2⟩ : ∃ s, s = mC σ1 σ' := ⟨_, rfl⟩
    obtain ⟨S3, e3⟩ : ∃ s, s = pI (pI (pI S2 63 (gI S2 63 + gI S2 13)) 0 0) 1 0 := ⟨_, rfl⟩
    obtain ⟨S4, e4⟩ : ∃ s, s = pI (pI S3 61 (gI S3 11)) 62 (gI S3 12) := ⟨_, rfl⟩
    have hKp2 : Kp σ S2 := by
      rw [e2]
      exact hKp1.fr (fun j hj => mC_I' (by omega)) (fun j hj => mC_A' (by omega)) (fun j hj => mC_B' (by omega)) (fun k hk => mC_N hk)
    have hKp3 : Kp σ S3 := by
      rw [e3]
      exact ((hKp2.pI _ _ (by decide)).pI _ _ (by decide)).pI _ _ (by decide)
    have hKp4 : Kp σ S4 := by
      rw [e4]
      exact (hKp3.pI _ _ (by decide)).pI _ _ (by decide)
    have s3I : ∀ j, 2 ≤ j → j ≤ 24 → gI S3 j = gI σ' j := fun j a b => by
      rw [e3, gI_pI, if_neg (by omega), gI_pI, if_neg (by omega), gI_pI, if_neg (by omega), e2]
      exact mC_I b
    have hS : SmR σ' S4 := ⟨fun j a b => by rw [e4, gI_pI, if_neg (by omega), gI_pI, if_neg (by omega)]; exact s3I j a b, fun j a => by rw [e4, e3, e2]; exact mC_A a, fun j a => by rw [e4, e3, e2]; exact mC_B a⟩
    have s63 : gI S3 63 = gI μ 12 + gI σ' 13 := by
      rw [e3, gI_pI, if_neg (by decide), gI_pI, if_neg (by decide), gI_pI, if_pos rfl, e2, mC_I' (by decide), mC_I (by decide), fI 63, h63]
    have s30 : gI S3 0 = 0 := by rw [e3, gI_pI, if_neg (by decide), gI_pI, if_pos rfl]
    have s40 : gI S4 0 = 0 := by rw [e4, gI_pI, if_neg (by decide), gI_pI, if_neg (by decide)]; exact s30
    have s463 : gI S4 63 = gI μ 12 + gI σ' 13 := by rw [e4, gI_pI, if_neg (by decide), gI_pI, if_neg (by decide)]; exact s63
    have hcl : f_X11_program σ = if gI S3 11 = 0 then bd (f_X2_lift S4) (fun _ τ88 => f_X11_program_b113 (pI (pI (mC S4 τ88) 61 (gI (mC S4 τ88) 20)) 62 (gI (mC S4 τ88) 21))) else f_X11_program_b113 S4 := by
      unfold f_X11_program
      rw [if_pos hl, f1, bd_of, ← e1, r1, bd_of, ← e2]
      unfold f_X8_clear_text_F
      rw [bd_of, ← e3, ← e4]
    have hre : f_X12_program μ = if gI μ' 7 = 0 then bd (f_X12_numberAll (pI μ' 1 0)) (fun _ ν => bd (f_X12_find ν) (fun _ μf => f_X12_program_b61 μf)) else f_X12_program_b61 (pI μ' 1 0) := by
      unfold f_X12_program f_X12_program_b16
      rw [if_pos (by rw [← h63]; exact hl), if_pos (by decide), c1, bd_of, r2, bd_of]
    have no_go : ∀ (S : S5) (f : Int32), gI S 61 = f → ¬ f = 0 → f_X11_program_b113 S = some ((0, -1), pI S 60 0) := fun S f a b => by
      unfold f_X11_program_b113 f_X11_program_b126
      rw [if_neg (by rw [a]; exact b), if_pos rfl]
      rfl
    have no_re : ∀ (M : S5) (f p : Int32), gI M 7 = f → 0 < f → gI M 8 = p → f_X12_program_b83 M = some (-1, pI (pI M 30 f) 31 p) := fun M f p a b c => by
      have hn : ¬ f ≤ 0 := by clear hl; grind
      unfold f_X12_program_b83 f_X12_program_b107
      rw [a, if_neg hn, c]
      rw [if_neg (by rw [gI_pI, if_neg (by decide), a]; exact hn)]
    have fin_no : ∀ (S M : S5) (f p : Int32), Kp σ S → Kq μ M → gI S 0 = 0 → gI M 1 = 0 → gI S 61 = f → gI S 62 = p → gI S 63 = gI M 12 → DN S → Z22 S → gI M 0 = 0 → gI M 29 = 0 → RA (pB (pI S 60 0) 30 0 ((-1 : Int32)).toInt64) (pI (pI M 30 f) 31 p) ∧ RXX (pB (pI S 60 0) 30 0 ((-1 : Int32)).toInt64) (pI (pI M 30 f) 31 p) := fun S M f p kp kq a0 a1 a61 a62 a63 dn z m0 m29 => by
      have e60 : gI (pB (pI S 60 0) 30 0 ((-1 : Int32)).toInt64) 60 = 0 := rfl
      refine ⟨ra_fin h ((kp.pI 60 0 (by decide)).out _ _) ((kq.pI 30 f (by decide)).pI 31 p (by decide)) ?_ ?_ ?_ ?_ ?_ ⟨Or.inl e60, ?_, fun w => absurd (e60.symm.trans w) (by decide)⟩, ?_, ?_, fun w => absurd (e60.symm.trans w) (by decide)⟩
      · show gI (pI S 60 0) 0 = 0
        rw [gI_pI, if_neg (by decide)]; exact a0
      · rw [gI_pI, if_neg (by decide), gI_pI, if_neg (by decide)]; exact a1
      · show gI (pI S 60 0) 61 = _
        rw [gI_pI, if_neg (by decide), gI_pI, if_neg (by decide), gI_pI, if_pos rfl]; exact a61
      · show gI (pI S 60 0) 62 = _
        rw [gI_pI, if_neg (by decide), gI_pI, if_pos rfl]; exact a62
      · show gI (pI S 60 0) 63 = _
        rw [gI_pI, if_neg (by decide), gI_pI, if_neg (by decide), gI_pI, if_neg (by decide)]; exact a63
      · rw [e60, gI_pI, if_neg (by decide), gI_pI, if_neg (by decide)]; exact m29.symm
      · exact DN_of dn (fun _ => rfl) (fun i => by show gB (pB (pI S 60 0) 30 0 _) 3 _ = gB S 3 _; rw [gB_pB_ne (by decide)]; rfl)
      · exact Z22_pB (Z22_pI _ _ _ (by decide) z)
    have hDN4 : DN S4 := DN_of hDN' (fun i => by show gA S4 20 _ = gA σ' 20 _; rw [hS.2.1 20 (by decide)]) (fun i => by show gB S4 3 _ = gB σ' 3 _; rw [hS.2.2 3 (by decide)])
    have hZ4 : Z22 S4 := by
      unfold Z22
      rw [hS.1 22 (by decide) (by decide)]
      exact hZ'
    have mq : ∀ M : S5, EqT ν M → Kq μ M := fun M hE => hKq.fr (fun j hj => hE.1 j (by omega)) (fun j hj => hE.2.2.1 j (by omega))
    rcases r3 with ⟨k, cc, fs, fu, fn, ft, hk1, hT, h17⟩ | ⟨f, p, n, ⟨s17, sf, s11, s12, s13, -⟩, d7, d8, d11, d12, dE⟩
    · have hT' := hT
      obtain ⟨⟨-, -, ⟨b11, b7, b13, -⟩⟩, -, -, -, t12, tE, -⟩ := hT
      obtain ⟨τ', μ'', l1, l2, l3, l4, l5, ⟨l6, l6'⟩, ⟨l7, l8⟩, l9⟩ := lp_go2 hT' h17 r1 hDN' hZ' hS
      have e5 : mC S4 τ' = τ' := mC_eq (fun j hj => l3.1 j (by omega)) l3.2.1 (fun j hj => l3.2.2.1 j (by omega)) (fun j hj => l3.2.2.2.1 j (by omega)) l3.2.2.2.2
      rw [if_pos (by rw [s3I 11 (by decide) (by decide)]; exact b11), l1, bd_of, e5] at hcl
      rw [if_pos b7, l2] at hre
      have kpτ : Kp σ τ' := hKp4.fr (fun j hj => l3.1 j (by omega)) (fun j hj => l3.2.2.1 j (by omega)) (fun j hj => l3.2.2.2.1 j (by omega)) (fun k _ => congrFun l3.2.2.2.2 k)
      have kqM : Kq μ μ'' := (((mq μ' tE).pI 1 0 (by decide)).fr (fun j hj => l5.1 j (by omega)) (fun j hj => l5.2.2.1 j (by omega)))
      have m63 : gI τ' 63 = gI μ'' 12 := by
        rw [l3.1 63 (by omega), s463, l5.1 12 (by omega), gI_pI, if_neg (by decide), ← n12, b13, ← t12]
        clear hcl hre l9 no_go no_re fin_no
        grind
      have m1 : gI μ'' 1 = 0 := by rw [l5.1 1 (by omega), gI_pI, if_pos rfl]
      have m0 : gI μ'' 0 = 0 := by rw [l5.1 0 (by omega), gI_pI, if_neg (by decide), tE.1 0 (by omega)]; exact n0
      have m29 : gI μ'' 29 = 0 := by rw [l5.1 29 (by omega), gI_pI, if_neg (by decide), tE.1 29 (by omega)]; exact n29
      have t0 : gI τ' 0 = 0 := by rw [l3.1 0 (by omega)]; exact s40
      obtain ⟨S6, e6⟩ : ∃ s, s = pI (pI τ' 61 (gI τ' 20)) 62 (gI τ' 21) := ⟨_, rfl⟩
      rw [← e6] at hcl
      have s661 : gI S6 61 = gI τ' 20 := by rw [e6, gI_pI, if_neg (by decide), gI_pI, if_pos rfl]
      have s662 : gI S6 62 = gI τ' 21 := by rw [e6, gI_pI, if_pos rfl]
      have s663 : gI S6 63 = gI τ' 63 := by rw [e6, gI_pI, if_neg (by decide), gI_pI, if_neg (by decide)]
      have s600 : gI S6 0 = 0 := by rw [e6, gI_pI, if_neg (by decide), gI_pI, if_neg (by decide)]; exact t0
      have kp6 : Kp σ S6 := by
        rw [e6]
        exact (kpτ.pI _ _ (by decide)).pI _ _ (by decide)
      by_cases hz : gI τ' 20 = 0
      · have hAs : AsS τ' (pI S6 60 1) := ⟨fun j hj => by rw [gI_pI, if_neg (by omega), e6, gI_pI, if_neg (by omega), gI_pI, if_neg (by omega)], fun j => by rw [e6]; rfl, fun j => by rw [e6]; rfl⟩
        obtain ⟨F, τ2, μ2, g1, g2, g3, g4, ⟨g5, g5h⟩, g6, g7, g8, g9, g10⟩ := l9 hz _ hAs
        have e7 : mC (pI S6 60 1) τ2 = τ2 := mC_eq (fun j hj => g4.1 j (by omega) (by omega)) g4.2.1 (fun j hj => g4.2.2.1 j (by omega) (by omega) (by omega)) (fun j hj => g4.2.2.2.1 j (by omega) (by omega) (by omega)) g4.2.2.2.2
        have hb : f_X11_program_b113 S6 = some ((0, gI τ2 6), τ2) := by
          unfold f_X11_program_b113 f_X11_program_b126
          rw [if_pos (by rw [s661]; exact hz), if_neg (by decide), g1, bd_of, e7]
          rfl
        have kp2 : Kp σ τ2 := (kp6.pI 60 1 (by decide)).fr (fun j hj => g4.1 j (by omega) (by omega)) (fun j hj => g4.2.2.1 j (by omega) (by omega) (by omega)) (fun j hj => g4.2.2.2.1 j (by omega) (by omega) (by omega)) (fun k _ => congrFun g4.2.2.2.2 k)
        have kq2 : Kq μ μ2 := kqM.fr (fun j hj => g6 j (by omega) (by omega) (by omega)) (fun j hj => g7 j (by omega) (by omega) (by omega) (by omega) (by omega))
        have q60 : gI τ2 60 = 1 := by rw [g4.1 60 (by decide) (by decide), gI_pI, if_pos rfl]
        have hPx : PRx (pB τ2 30 0 ((nI F)).toInt64) μ2 := ⟨τ2, μ2, ⟨fun _ _ => rfl, fun _ _ => rfl, fun j hj => gB_pB_ne (by omega)⟩, ⟨fun _ _ => rfl, fun _ _ => rfl, fun _ _ => rfl⟩, g5⟩
        have hPy : PRy (pB τ2 30 0 ((nI F)).toInt64) μ2 := ⟨τ2, μ2, ⟨fun _ _ => rfl, fun _ _ => rfl, fun j hj => gB_pB_ne (by omega)⟩, ⟨fun _ _ => rfl, fun _ _ => rfl, fun _ _ => rfl⟩, g5h⟩
        refine ⟨0, nI F, pB τ2 30 0 ((nI F)).toInt64, μ2, ?_, hre.trans g2, ?_, fun _ => out_at _ _, ra_fin h (kp2.out _ _) kq2 ?_ ?_ ?_ ?_ ?_ ⟨Or.inr q60, q60.trans g8.symm, fun _ => hPx.rp⟩, ⟨?_, ?_, fun _ => hPx⟩, fun _ => hPy, Or.inl (kp2.out _ _)⟩
        · unfold h_L_program
          rw [hcl, hb, bd_of, g3]
          rfl
        · rw [g6 0 (by decide) (by decide) (by decide)]; exact m0
        · show gI τ2 0 = 0
          rw [g4.1 0 (by decide) (by decide), gI_pI, if_neg (by decide)]; exact s600
        · rw [g6 1 (by decide) (by decide) (by decide)]; exact m1
        · show gI τ2 61 = _
          rw [g4.1 61 (by decide) (by decide), gI_pI, if_neg (by decide), s661, hz, g9]
        · show gI τ2 62 = _
          rw [g4.1 62 (by decide) (by decide), gI_pI, if_neg (by decide), s662, g10]
          rcases l4 with ⟨-, w⟩ | w
          · exact w
          · rw [hz] at w
            exact absurd w (by decide)
        · show gI τ2 63 = _
          rw [g4.1 63 (by decide) (by decide), gI_pI, if_neg (by decide), s663, g6 12 (by decide) (by decide) (by decide)]; exact m63
        · refine DN_of l6 (fun i => ?_) (fun i => ?_)
          · show gA τ2 20 _ = gA τ' 20 _
            rw [g4.2.2.1 20 (by decide) (by decide) (by decide)]
            exact congrFun (hAs.2.1 20) _
          · show gB (pB τ2 30 0 _) 3 _ = gB τ' 3 _
            rw [gB_pB_ne (by decide), g4.2.2.2.1 3 (by decide) (by decide) (by decide)]
            exact congrFun (hAs.2.2 3) _
        · show gI τ2 22 = 0
          rw [g4.1 22 (by decide) (by decide), hAs.1 22 (by decide)]
          exact l6'
      · have hpos : 0 < gI τ' 20 := by
          rcases l4 with ⟨w, -⟩ | w
          · exact absurd w hz
          · exact w
        have hb := no_go S6 _ s661 hz
        have hr := no_re μ'' _ _ l7.symm hpos (l8 hz).symm
        obtain ⟨w1, w2⟩ := fin_no S6 μ'' _ _ kp6 kqM s600 m1 s661 s662 (by rw [s663]; exact m63) (by rw [e6]; exact DN_of l6 (fun _ => rfl) (fun _ => rfl)) (by rw [e6]; exact Z22_pI _ _ _ (by decide) (Z22_pI _ _ _ (by decide) l6')) m0 m29
        refine ⟨0, -1, _, _, ?_, hre.trans hr, ?_, fun _ => out_at _ _, w1, w2, (fun w => absurd (show (0 : Int32) = 1 from w) (by decide)), Or.inl ((kp6.pI 60 0 (by decide)).out _ _)⟩
        · unfold h_L_program
          rw [hcl, hb, bd_of]
          rfl
        · rw [gI_pI, if_neg (by decide), gI_pI, if_neg (by decide)]; exact m0
    · have h11' : ¬ gI S3 11 = 0 := by rw [s3I 11 (by decide) (by decide), s11]; exact sf
      rw [if_neg h11'] at hcl
      have m7 : ¬ gI μ' 7 = 0 := by rw [d7]; exact sf
      rw [if_neg m7] at hre
      have hpos : 0 < f := by
        rw [s11] at h11
        clear hcl hre no_go no_re fin_no
        grind
      have e61 : f_X12_program_b61 (pI μ' 1 0) = f_X12_program_b83 (pI μ' 1 0) := by
        have : ¬ gI (pI μ' 1 0) 7 = 0 := by rw [gI_pI, if_neg (by decide)]; exact m7
        unfold f_X12_program_b61 f_X12_program_b72
        rw [if_neg this, if_neg this]
      rw [e61] at hre
      have q61 : gI S4 61 = f := by rw [e4, gI_pI, if_neg (by decide), gI_pI, if_pos rfl, s3I 11 (by decide) (by decide)]; exact s11
      have q62 : gI S4 62 = p := by rw [e4, gI_pI, if_pos rfl, s3I 12 (by decide) (by decide)]; exact s12
      have hb := no_go S4 f q61 sf
      have hr := no_re (pI μ' 1 0) f p (by rw [gI_pI, if_neg (by decide)]; exact d7) hpos (by rw [gI_pI, if_neg (by decide)]; exact d8)
      have m0 : gI (pI μ' 1 0) 0 = 0 := by rw [gI_pI, if_neg (by decide), dE.1 0 (by omega)]; exact n0
      have m29 : gI (pI μ' 1 0) 29 = 0 := by rw [gI_pI, if_neg (by decide), dE.1 29 (by omega)]; exact n29
      obtain ⟨w1, w2⟩ := fin_no S4 (pI μ' 1 0) f p hKp4 ((mq μ' dE).pI 1 0 (by decide)) s40 (by rw [gI_pI, if_pos rfl]) q61 q62 (by
        rw [s463, gI_pI, if_neg (by decide), ← n12, s13, ← d12, d11]
        clear hcl hre no_go no_re fin_no
        grind) hDN4 hZ4 m0 m29
      refine ⟨0, -1, _, _, ?_, hre.trans hr, ?_, fun _ => out_at _ _, w1, w2, (fun w => absurd (show (0 : Int32) = 1 from w) (by decide)), Or.inl ((hKp4.pI 60 0 (by decide)).out _ _)⟩
      · unfold h_L_program
        rw [hcl, hb, bd_of]
        rfl
      · rw [gI_pI, if_neg (by decide), gI_pI, if_neg (by decide)]; exact m0
  · refine ⟨1, 0, σ, pI μ 0 1, ?_, ?_, rfl, fun w => absurd w (by decide), h, ⟨hX.1, hX.2.1, fun w => ?_⟩, RYY.mv (eqC.rf σ) (eqM.thr μ 1) hY, Or.inr rfl⟩
    · unfold h_L_program f_X11_program
      rw [if_neg hl, bd_of]
      rfl
    · unfold f_X12_program f_X12_program_b16
      rw [if_neg (by rw [← h63]; exact hl), if_neg (by decide)]
    · obtain ⟨σ0, μ0, a, b, c⟩ := hX.2.2 w
      exact ⟨σ0, μ0, a, ⟨fun j hj => by rw [gI_pI, if_neg (by omega)]; exact b.1 j hj, b.2.1, b.2.2⟩, c⟩
