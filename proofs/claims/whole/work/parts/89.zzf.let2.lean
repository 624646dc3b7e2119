/-- a binding's name is read by both -/
theorem bh_one {σ0 μ0 σ μ : S5} {k : Nat} {g cc fs fu fn ft : Nat → Int32} (hs0 : Sim σ0 μ0) (h : LI σ0 μ0 σ μ k g cc fs fu fn ft) (h160 : 0 ≤ gI μ0 16) (h3 : gI σ 17 = 3) (hk4 : k ≤ 4) (hd : f_X5_declare (gI σ0 9) σ = bd (f_X10_advance (cNm σ (gI σ0 9) k)) (fun _ τ => some (gI σ0 9 * 5 + nI k, τ))) : ∃ σ1 μ1 : S5, f_X5_declare (gI σ0 9) σ = some (gI σ0 9 * 5 + nI k, σ1) ∧ f_X12_binding_b87 (gI μ0 9) μ = bd (f_X12_parameters (gI μ 9) 0 μ1) (fun _ ρ => mB2 (gI μ 9) ρ) ∧ gI σ 18 < gI σ1 18 ∧ (∀ j, j < 16 → gI σ1 j = gI σ j) ∧ (∀ j, 6 < j → ¬ j = 9 → gI μ1 j = gI μ j) ∧ LB σ0 μ0 σ1 μ1 k (gI μ 9) (gI σ 18) g cc fs fu fn ft := by
  have hb0 := hs0.2.2
  unfold Bg at hb0
  obtain ⟨l1, lF, ⟨x14, x15, x16, x17, x9, q9⟩, ⟨p14, p15⟩, ⟨y1, y2⟩, ⟨z2, z5, z10, z4⟩, ⟨n5, n20, n3, nrow⟩, hRG, hG, hG2⟩ := h
  have hb := l1.2.2
  have hp3 := l1.p3
  unfold Bg at hb
  obtain ⟨b1, b2, b3, b4, b5, b6, b7, b8, b9, b10, b11, b12, b13, b14, b15, b16, b17, b18, b19, b20, b21, b22, b23⟩ := hb
  have hm3 : gI μ 4 = 3 := by rw [l1.1.2.2.1, h3]; decide
  have hz : gJ σ 0 = gJ μ 0 := l1.1.2.2.2.2.2.2.2.2.2.1 (Or.inl h3)
  have hs00 : 0 ≤ gI σ0 9 ∧ gI σ0 9 < 630 := by grind
  have hl00 : 0 ≤ gI μ0 9 ∧ gI μ0 9 < 3200 := by grind
  have hv0 : 0 ≤ gI μ 9 ∧ gI μ 9 ≤ 2100 := by grind
  have arow := ndM_row μ 1
  have afr : FrM μ (pB (ndM μ 1) 0 (gI μ 9) (gJ μ 0)) := by
    obtain ⟨f1, f2⟩ := ndM_fr μ 1
    refine ⟨fun i p q => ?_, fun i p q => f2 i p q⟩
    have x := f1 i p q
    refine ⟨x.1, x.2.1, x.2.2.1, x.2.2.2.1, x.2.2.2.2.1, x.2.2.2.2.2.1, x.2.2.2.2.2.2.1, x.2.2.2.2.2.2.2.1, x.2.2.2.2.2.2.2.2.1, ?_⟩
    rw [xB_pB, if_neg (fun w => i_ne p q w.2)]
    exact x.2.2.2.2.2.2.2.2.2
  have apl : ∀ j x, 14 ≤ j → xA (pB (ndM μ 1) 0 (gI μ 9) (gJ μ 0)) j x = xA μ j x := fun j x h => ndM_pile μ 1 j x h
  have aB : ∀ j x, ¬ j = 0 → xB (pB (ndM μ 1) 0 (gI μ 9) (gJ μ 0)) j x = xB μ j x := fun j x h => by
    rw [xB_pB, if_neg (fun w => h w.1)]
    unfold ndM
    simp only [xB_pA, xB_pI, xB_pB]
    rw [if_neg (fun w => h w.1)]
  have aB0 : xB (pB (ndM μ 1) 0 (gI μ 9) (gJ μ 0)) 0 (gI μ 9) = gJ μ 0 := by rw [xB_pB, if_pos ⟨rfl, rfl⟩]
  have aI : ∀ j, ¬ j = 9 → gI (pB (ndM μ 1) 0 (gI μ 9) (gJ μ 0)) j = gI μ j := fun j h => ndM_gI μ 1 h
  have a9 : gI (pB (ndM μ 1) 0 (gI μ 9) (gJ μ 0)) 9 = gI μ 9 + 1 := rfl
  have aJ : gJ (pB (ndM μ 1) 0 (gI μ 9) (gJ μ 0)) 0 = gJ μ 0 := rfl
  have aR : EqR μ (pB (ndM μ 1) 0 (gI μ 9) (gJ μ 0)) := EqR.ndB
  have arow2 : xA (pB (ndM μ 1) 0 (gI μ 9) (gJ μ 0)) 2 (gI μ 9) = 1 ∧ xA (pB (ndM μ 1) 0 (gI μ 9) (gJ μ 0)) 5 (gI μ 9) = -1 ∧ xA (pB (ndM μ 1) 0 (gI μ 9) (gJ μ 0)) 6 (gI μ 9) = gI μ 5 ∧ xA (pB (ndM μ 1) 0 (gI μ 9) (gJ μ 0)) 10 (gI μ 9) = 0 := ⟨arow.1, arow.2.2.1, arow.2.2.2.1, arow.2.2.2.2⟩
  have hb87 := fun μc => m_b87 (μ := μ) (μc := μc) (l := gI μ0 9) b2 hm3 hv0.1 (by grind)
  generalize pB (ndM μ 1) 0 (gI μ 9) (gJ μ 0) = N at *
  have hRGa := hRG.fr (QBd_st (gI σ0 9)) (EqE.rf σ) (FrC.rf σ) afr (by rw [aI 10 (by decide)]; grind) (by grind) (by grind) (by grind) (by grind) (by grind)
  have kl := afr.1 (gI μ0 9) hl00.1 q9
  obtain ⟨μc, c1, c2, c3, c4, c5, c6, c7, c8, c9, c10⟩ := hRGa.ap (QBd_st (gI σ0 9)) hl00.1 hl00.2 (by rw [kl.2.1]; exact n3) (fun w => by rw [kl.2.2.1]; exact z4 w) (gI μ 9)
  have hb87' := hb87 μc c1
  have cI : ∀ j, gI μc j = gI N j := fun j => congrFun c5 j
  have cJ : gJ μc = gJ N := c6
  have cA : ∀ j x, ¬ j = 3 → ¬ j = 4 → ¬ j = 5 → xA μc j x = xA N j x := fun j x q1 q2 q3 => congrFun (c7 j q1 q2 q3) _
  have cB : ∀ j x, xB μc j x = xB N j x := fun j x => congrFun (congrFun c8 j) _
  have hRc : EqR μ μc := aR.tr c9
  have hWc : Wd (cNm σ (gI σ0 9) k) μc := Wd_of l1.1 rfl rfl rfl rfl rfl rfl rfl (hRc.1 1 (by decide)) (by rw [cI, aI 3 (by decide)]) (by rw [cI, aI 4 (by decide)]) (by rw [cI, aI 5 (by decide)]) (by rw [cI, aI 6 (by decide)]) (by rw [cJ]; exact aJ) (hRc.2.2.1 0 (by decide))
  obtain ⟨e, kc, p, v', z, vm, zm, a1, a2, a3, a4, a5, a6⟩ := adv hWc (by rw [cNm_gI, h3]; decide)
  rw [cNm_gI] at a4
  rw [a1, bd_of] at hd
  rw [a2, bd_of] at hb87'
  refine ⟨_, _, hd, hb87', by rw [p_wdC]; exact a4, fun j w => (gI_wdC (Or.inl w)).trans (cNm_gI ..), fun j w w2 => ((gI_wdM (Or.inr w)).trans (cI j)).trans (aI j w2), ?_⟩
  have SI : ∀ j, (j < 16 ∨ 19 < j) → gI (wdC (cNm σ (gI σ0 9) k) e kc p v' z) j = gI σ j := fun j w => (gI_wdC w).trans (cNm_gI ..)
  have S18 : gI (wdC (cNm σ (gI σ0 9) k) e kc p v' z) 18 = p := p_wdC
  have SA : ∀ j x, xA (wdC (cNm σ (gI σ0 9) k) e kc p v' z) j x = if j = 20 ∧ x.toNatClampNeg = (gI σ0 9).toNatClampNeg then nI k + 1 else xA σ j x := fun j x => by
    rw [xA_wdC]; unfold cNm; rw [xA_pA, xA_pB]
  have SB : ∀ j x, xB (wdC (cNm σ (gI σ0 9) k) e kc p v' z) j x = if j = 3 ∧ x.toNatClampNeg = (gI σ0 9 * 5 + nI k).toNatClampNeg then gJ σ 0 else xB σ j x := fun j x => by
    rw [xB_wdC]; unfold cNm; rw [xB_pA, xB_pB]
  have SE : EqE σ (wdC (cNm σ (gI σ0 9) k) e kc p v' z) := ((EqE.rf σ).Nm).w
  have MI : ∀ j, (j < 3 ∨ 6 < j) → gI (wdM μc e (kMd kc) p vm zm) j = gI N j := fun j w => (gI_wdM w).trans (cI j)
  have MA : ∀ j x, xA (wdM μc e (kMd kc) p vm zm) j x = xA μc j x := fun j x => xA_wdM ..
  have MB : ∀ j x, xB (wdM μc e (kMd kc) p vm zm) j x = xB N j x := fun j x => (xB_wdM ..).trans (cB j x)
  have MR : EqR μ (wdM μc e (kMd kc) p vm zm) := hRc.w
  clear hd hb87 hb87' a1 a2 hWc
  generalize wdC (cNm σ (gI σ0 9) k) e kc p v' z = S at *
  generalize wdM μc e (kMd kc) p vm zm = M at *
  have M9 : gI M 9 = gI μ 9 + 1 := by rw [MI 9 (by decide), a9]
  have MJ : ∀ j, (j < 3 ∨ 6 < j) → ¬ j = 9 → gI M j = gI μ j := fun j w w2 => (MI j w).trans (aI j w2)
  have hsne : ∀ i, 0 ≤ i → ¬ i = gI σ0 9 → ¬ i.toNatClampNeg = (gI σ0 9).toNatClampNeg := fun i p w v => w ((i_inj p hs00.1).mp v)
  obtain ⟨fE, fR, fC, fM, fP, f12, f8, f9, f10, fm9, fm10, f18⟩ := lF
  have hGm : Gm 2 0 σ0 S μ0 M := by
    have i8 := iv_eq (SI 8 (by decide))
    have i9 := iv_eq (SI 9 (by decide))
    have i10 := iv_eq (SI 10 (by decide))
    have i13 := iv_eq (SI 13 (by decide))
    have i18 : iv σ 18 < iv S 18 := iv_lt (by rw [S18]; exact a4)
    have m9 := iv_a1 M9 hv0.1 (by grind)
    have m10 := iv_eq (MJ 10 (by decide) (by decide))
    unfold Gm at *
    omega
  have hSim : Sim S M := Sim.mk2 hs0 a3 (fE.tr SE) (fR.tr MR) hGm (by decide) (by decide) (by rw [SI 11 (by decide)]; exact b1) (by rw [MJ 7 (by decide) (by decide)]; exact b2) (by rw [SI 13 (by decide), MJ 11 (by decide) (by decide)]; exact b3) (by rw [SI 13 (by decide)]; exact ⟨b4, b5⟩) (by rw [SI 14 (by decide), MJ 15 (by decide) (by decide)]; exact b6) (by rw [SI 14 (by decide)]; exact ⟨b7, b8⟩) (by rw [SI 8 (by decide)]; exact b9) (by rw [SI 9 (by decide)]; exact b11) (by rw [SI 10 (by decide)]; exact b15) (by rw [M9]; grind) (by rw [MJ 10 (by decide) (by decide)]; exact b19) (by rw [SI 15 (by decide), SI 9 (by decide)]; exact ⟨b21, b22⟩) (by rw [S18]; exact a6)
  have hFC : FrC σ0 S := by
    obtain ⟨g1, g2, g3, g4⟩ := fC
    refine ⟨fun i p q => ?_, fun i p q => ?_, fun i p q => ?_, fun i p q => ?_⟩
    · rw [SA, SA, SA, SA, SA, if_neg (fun w => absurd w.1 (by decide)), if_neg (fun w => absurd w.1 (by decide)), if_neg (fun w => absurd w.1 (by decide)), if_neg (fun w => absurd w.1 (by decide)), if_neg (fun w => absurd w.1 (by decide))]
      exact g1 i p q
    · have := hsne i p (by grind)
      rw [SA, SA, SA, SA, SA, if_neg (fun w => this w.2), if_neg (fun w => absurd w.1 (by decide)), if_neg (fun w => absurd w.1 (by decide)), if_neg (fun w => absurd w.1 (by decide)), if_neg (fun w => absurd w.1 (by decide))]
      exact g2 i p q
    · have h50 := s5_rg (s := gI σ0 9) (i := k) hs00.1 (by grind) hk4
      have hk5 : 0 ≤ nI k ∧ nI k < 5 := ⟨i_le0 (nI_nneg (by omega)), (nI_lt31 (b := 5) (by omega) (by omega)).mpr (by omega)⟩
      have f1 := five_lt (s' := 700) hs00.1 (by grind) (by decide) hk5.1 hk5.2
      rw [SB, if_neg (fun w => i_ne p (by grind) w.2)]
      exact g3 i p q
    · rw [SA, SA, SA, SB, if_neg (fun w => absurd w.1 (by decide)), if_neg (fun w => absurd w.1 (by decide)), if_neg (fun w => absurd w.1 (by decide)), if_neg (fun w => absurd w.1 (by decide))]
      exact g4 i p q
  have hFM : FrM μ0 M := by
    obtain ⟨g1, g2⟩ := fM
    refine ⟨fun i p q => ?_, fun i p q => ?_⟩
    · have x := g1 i p q
      have y := afr.1 i p (by grind)
      have w := c10 i p (by grind) (Or.inl (by grind))
      refine ⟨?_, ?_, ?_, ?_, ?_, ?_, ?_, ?_, ?_, ?_⟩
      · rw [MA, cA 2 i (by decide) (by decide) (by decide), y.1]; exact x.1
      · rw [MA, w.1, y.2.1]; exact x.2.1
      · rw [MA, w.2.1, y.2.2.1]; exact x.2.2.1
      · rw [MA, w.2.2, y.2.2.2.1]; exact x.2.2.2.1
      · rw [MA, cA 6 i (by decide) (by decide) (by decide), y.2.2.2.2.1]; exact x.2.2.2.2.1
      · rw [MA, cA 7 i (by decide) (by decide) (by decide), y.2.2.2.2.2.1]; exact x.2.2.2.2.2.1
      · rw [MA, cA 8 i (by decide) (by decide) (by decide), y.2.2.2.2.2.2.1]; exact x.2.2.2.2.2.2.1
      · rw [MA, cA 9 i (by decide) (by decide) (by decide), y.2.2.2.2.2.2.2.1]; exact x.2.2.2.2.2.2.2.1
      · rw [MA, cA 10 i (by decide) (by decide) (by decide), y.2.2.2.2.2.2.2.2.1]; exact x.2.2.2.2.2.2.2.2.1
      · rw [MB, y.2.2.2.2.2.2.2.2.2]; exact x.2.2.2.2.2.2.2.2.2
    · rw [MB, aB 1 i (by decide)]; exact g2 i p q
  have mpl : ∀ j x, 14 ≤ j → xA M j x = xA μ j x := fun j x w => by rw [MA, cA j x (by omega) (by omega) (by omega), apl j x w]
  have klM := fun j (h1 : ¬ j = 3) (h2 : ¬ j = 4) (h3 : ¬ j = 5) => (MA j (gI μ0 9)).trans (cA j (gI μ0 9) h1 h2 h3)
  have vM := fun j (h1 : ¬ j = 3) (h2 : ¬ j = 4) (h3 : ¬ j = 5) => (MA j (gI μ 9)).trans (cA j (gI μ 9) h1 h2 h3)
  have v5 := c10 (gI μ 9) hv0.1 (by grind) (Or.inr (by grind))
  have hi := hRG.2.2.2.2.2.2.2.2
  have gk : ∀ i, i < k → 0 ≤ g i ∧ g i < gI μ 9 := fun i hk => by
    obtain ⟨d1, hb, d2, d3, d4, d5, d6, d7, d8, d9, d10, d11, d12, d13⟩ := hi i hk
    unfold Bi at hb
    grind
  have l5 : xA μc 5 (gI μ0 9) = xA N 5 (gI μ0 9) := by
    by_cases c0 : k = 0
    · subst c0
      have hf : xA N 3 (gI μ0 9) < 0 := by rw [kl.2.1, n3, if_neg (by omega)]; decide
      rw [m_app0 (gI μ 9) hl00.1 hl00.2 hf] at c1
      simp only [Option.some.injEq, Prod.mk.injEq, true_and] at c1
      rw [← c1]
      rw [xA_pA, if_neg (fun w => absurd w.1 (by decide)), xA_pA, if_neg (fun w => absurd w.1 (by decide))]
    · have hk0 : 0 < k := by omega
      have g0 := gk 0 hk0
      have gl := gk (k - 1) (by omega)
      obtain ⟨d1, hbi, d2, d3, d4, d5, d6, d7, d8, d9, d10, d11, d12, d13⟩ := hi (k - 1) (by omega)
      unfold Bi at hbi
      have e3 : xA N 3 (gI μ0 9) = g 0 := by rw [kl.2.1, n3, if_pos hk0]
      have e4 : xA N 4 (gI μ0 9) = g (k - 1) := by rw [kl.2.2.1]; exact z4 hk0
      rw [m_app1 (gI μ 9) hl00.1 hl00.2 (by rw [e3]; grind) (by rw [e4]; grind) (by rw [e4]; grind)] at c1
      simp only [Option.some.injEq, Prod.mk.injEq, true_and] at c1
      rw [← c1]
      rw [xA_pA, if_neg (fun w => absurd w.1 (by decide)), xA_pA, e4, if_neg (fun w => i_ne (a := gI μ0 9) (b := g (k - 1)) hl00.1 (by grind) w.2)]
  have gB0 : ∀ i, i < k → xB M 0 (g i) = xB μ 0 (g i) := fun i hk => by rw [MB, (afr.1 (g i) (gk i hk).1 (gk i hk).2).2.2.2.2.2.2.2.2.2]
  refine ⟨hSim, ⟨fE.tr SE, fR.tr MR, hFC, hFM, ⟨fun i p q => ?_, fun i p q => ?_⟩, ?_, by rw [SI 8 (by decide)]; exact f8, by rw [SI 9 (by decide)]; exact f9, by rw [SI 10 (by decide)]; exact f10, by rw [M9]; grind, by rw [MJ 10 (by decide) (by decide)]; exact fm10, by rw [S18]; grind⟩, ⟨by rw [SI 14 (by decide)]; exact x14, by rw [SI 15 (by decide)]; exact x15, by rw [MJ 16 (by decide) (by decide)]; exact x16, by rw [MJ 17 (by decide) (by decide)]; exact x17, by rw [SI 9 (by decide)]; exact x9, q9, M9⟩, ⟨by rw [mpl 14 _ (by decide)]; exact p14, by rw [mpl 15 _ (by decide)]; exact p15⟩, ⟨by rw [SA, if_neg (fun w => absurd w.1 (by decide))]; exact y1, by rw [SA, if_neg (fun w => absurd w.1 (by decide))]; exact y2⟩, ⟨by rw [klM 2 (by decide) (by decide) (by decide), kl.1]; exact z2, by rw [MA, l5, kl.2.2.2.1]; exact z5, by rw [klM 10 (by decide) (by decide) (by decide), kl.2.2.2.2.2.2.2.2.1]; exact z10, by rw [MA]; exact c4, by rw [MA]; exact c3⟩, ⟨hk4, by rw [SA, if_pos ⟨rfl, rfl⟩, nI_add1], fun i hk => ⟨(gk i hk).1, (gk i hk).2, ?_⟩, ?_⟩, ⟨by rw [vM 2 (by decide) (by decide) (by decide)]; exact arow2.1, by rw [MA, v5.2.2]; exact arow2.2.1, by rw [vM 6 (by decide) (by decide) (by decide), arow2.2.2.1]; exact l1.1.2.2.2.2.1.symm, by rw [vM 10 (by decide) (by decide) (by decide)]; exact arow2.2.2.2⟩, ?_, hGm⟩
  · rw [mpl 14 i (by decide), mpl 15 i (by decide), mpl 16 i (by decide), mpl 17 i (by decide)]; exact fP.1 i p q
  · rw [mpl 18 i (by decide)]; exact fP.2 i p q
  · rw [MJ 12 (by decide) (by decide), MJ 11 (by decide) (by decide)]; exact f12
  · rw [SB, if_neg (fun w => ne5 hs00.1 (by grind) (by omega) hk4 (by omega) w.2), gB0 i hk]
    exact (nrow i hk).2.2.2
  · rw [SB, if_pos ⟨rfl, rfl⟩, MB, aB0]; exact hz
  · rw [SI 9 (by decide), SI 10 (by decide), SI 8 (by decide)]
    refine c2.st (QBd_st (gI σ0 9)) (fun i hk => ?_) (fun i hk => ?_) (fun i hk => MA _ _) (fun hk => ?_)
    · obtain ⟨d1, hbi, d2, d3, d4, d5, d6, d7, d8, d9, d10, d11, d12, d13⟩ := hi i hk
      unfold Bi at hbi
      refine ⟨fun x p q => ?_, fun x p q => ?_, fun x p q => ?_, fun x p q => ?_, fun x p q => ?_, fun x p q => ?_, fun x p q => ⟨MA _ _, MA _ _, MA _ _, MA _ _, MA _ _, MA _ _, MA _ _, MA _ _, (MB _ _).trans (cB _ _).symm⟩, fun x p q w => MA _ _, fun x p q => (MB _ _).trans (cB _ _).symm, by rw [MI 10 (by decide), cI]; grind, SI 4 (by decide), fun x p q => ?_⟩
      · rw [SA, SA, SA, SA, if_neg (fun w => absurd w.1 (by decide)), if_neg (fun w => absurd w.1 (by decide)), if_neg (fun w => absurd w.1 (by decide)), if_neg (fun w => absurd w.1 (by decide))]; exact ⟨rfl, rfl, rfl, rfl⟩
      · rw [SA, if_neg (fun w => absurd w.1 (by decide))]
      · have := hsne x (by grind) (by grind)
        rw [SA, SA, SA, SA, if_neg (fun w => this w.2), if_neg (fun w => absurd w.1 (by decide)), if_neg (fun w => absurd w.1 (by decide)), if_neg (fun w => absurd w.1 (by decide))]; exact ⟨rfl, rfl, rfl, rfl⟩
      · rw [SA, if_neg (fun w => absurd w.1 (by decide))]
      · have h5 := ne5s (x := x) (j := k) (f := fs i) hs00.1 (by grind) (by grind) p hk4
        rw [SB, if_neg (fun w => h5 w.2)]
      · rw [SA, SA, SA, SB, if_neg (fun w => absurd w.1 (by decide)), if_neg (fun w => absurd w.1 (by decide)), if_neg (fun w => absurd w.1 (by decide)), if_neg (fun w => absurd w.1 (by decide))]; exact ⟨rfl, rfl, rfl, rfl⟩
      · rw [SA, if_neg (fun w => absurd w.1 (by decide))]
    · rw [SA, if_neg (fun w => absurd w.1 (by decide))]
    · obtain ⟨d1, hbi, d2, d3, d4, d5, d6, d7, d8, d9, d10, d11, d12, d13⟩ := c2.2.2.2.2.2.2.2.2 (k - 1) (by omega)
      rw [if_neg (by omega)] at d12
      rw [MA]; exact d12
