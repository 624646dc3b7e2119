theorem FrC.cP {σ τ : S5} (h : FrC (cP σ) τ) : FrC σ τ := h
theorem FrC.I14 {σ τ : S5} {v : Int32} (h : FrC (pI σ 14 v) τ) : FrC σ τ := h
theorem FrM.mP {σ τ : S5} (h : FrM (mP σ) τ) : FrM σ τ := h
theorem FrM.I15 {σ τ : S5} {v : Int32} (h : FrM (pI σ 15 v) τ) : FrM σ τ := h
theorem ndM_fr (μ : S5) (k : Int32) : FrM μ (ndM μ k) := by
  refine ⟨fun i p q => ?_, fun i p q => rfl⟩
  have := i_ne p q
  simp [ndM, xA_pI, xA_pA, xA_pB, xB_pI, xB_pA, xB_pB, this]
theorem ndM_row (μ : S5) (k : Int32) : xA (ndM μ k) 2 (gI μ 9) = k ∧ xA (ndM μ k) 3 (gI μ 9) = -1 ∧ xA (ndM μ k) 5 (gI μ 9) = -1 ∧ xA (ndM μ k) 6 (gI μ 9) = gI μ 5 ∧ xA (ndM μ k) 10 (gI μ 9) = 0 := by
  simp [ndM, xA_pI, xA_pA, xA_pB]
theorem ndM_pile (μ : S5) (k : Int32) (j : Nat) (x : Int32) (h : 14 ≤ j) : xA (ndM μ k) j x = xA μ j x := by
  unfold ndM
  simp only [xA_pI, xA_pA, xA_pB]
  rw [if_neg (by omega), if_neg (by omega), if_neg (by omega), if_neg (by omega), if_neg (by omega), if_neg (by omega), if_neg (by omega), if_neg (by omega), if_neg (by omega)]
theorem ndM_gI (μ : S5) (k : Int32) {j : Nat} (h : ¬ j = 9) : gI (ndM μ k) j = gI μ j := by
  unfold ndM
  rw [gI_pA, gI_pA, gI_pB, gI_pA, gI_pA, gI_pA, gI_pA, gI_pA, gI_pA, gI_pA, gI_pI, if_neg h]
theorem ndM_9 (μ : S5) (k : Int32) : gI (ndM μ k) 9 = gI μ 9 + 1 := rfl
/-- the states at a lambda's first name -/
theorem la_one {σ0 μ0 : S5} (hs0 : Sim σ0 μ0) (ho : gI σ0 14 < 30) (hp : gI σ0 13 < 600) (hk : gI σ0 17 = 92) : ∃ σ3 μ2 : S5, f_X10_advance (cSc (cP (pI σ0 14 (gI σ0 14 + 1))) (gI σ0 15) (gI σ0 18) (gI σ0 9)) = some ((), σ3) ∧ f_X12_next (ndM (mP (pI μ0 15 (gI μ0 15 + 1))) 2) = some ((), μ2) ∧ gI μ2 7 = 0 ∧ LPr 2 σ0 μ0 σ3 (pA μ2 9 (gI μ0 9) (gI μ2 10)) ∧ NM σ3 (pA μ2 9 (gI μ0 9) (gI μ2 10)) (gI σ0 9) (gI μ0 9) 0 ∧ xA (pA μ2 9 (gI μ0 9) (gI μ2 10)) 9 (gI μ0 9) + nI 0 = gI (pA μ2 9 (gI μ0 9) (gI μ2 10)) 10 := by
  have hb := hs0.2.2
  have hbm := hs0.bm
  have hp3 := hs0.p3
  unfold Bg at hb
  obtain ⟨b1, b2, b3, b4, b5, b6, b7, b8, b9, b10, b11, b12, b13, b14, b15, b16, b17, b18, b19, b20, b21, b22, b23⟩ := hb
  have hrow := cSc_row (cP (pI σ0 14 (gI σ0 14 + 1))) (gI σ0 15) (gI σ0 18) (gI σ0 9)
  rw [show gI (cP (pI σ0 14 (gI σ0 14 + 1))) 9 = gI σ0 9 from rfl] at hrow
  have hfr : FrC σ0 (cSc (cP (pI σ0 14 (gI σ0 14 + 1))) (gI σ0 15) (gI σ0 18) (gI σ0 9)) := ((cSc_fr (cP (pI σ0 14 (gI σ0 14 + 1))) (gI σ0 15) (gI σ0 18) (gI σ0 9)).cP).I14
  have hI : ∀ k, ¬ k = 9 → ¬ k = 13 → ¬ k = 14 → gI (cSc (cP (pI σ0 14 (gI σ0 14 + 1))) (gI σ0 15) (gI σ0 18) (gI σ0 9)) k = gI σ0 k := fun k h1 h2 h3 => by
    rw [cSc_gI _ _ _ _ h1]
    unfold cP
    rw [gI_pI, if_neg h2, gI_pI, if_neg h3]
  have h9 : gI (cSc (cP (pI σ0 14 (gI σ0 14 + 1))) (gI σ0 15) (gI σ0 18) (gI σ0 9)) 9 = gI σ0 9 + 1 := rfl
  have h13 : gI (cSc (cP (pI σ0 14 (gI σ0 14 + 1))) (gI σ0 15) (gI σ0 18) (gI σ0 9)) 13 = gI σ0 13 + 1 := rfl
  have h14 : gI (cSc (cP (pI σ0 14 (gI σ0 14 + 1))) (gI σ0 15) (gI σ0 18) (gI σ0 9)) 14 = gI σ0 14 + 1 := rfl
  have hEE : EqE σ0 (cSc (cP (pI σ0 14 (gI σ0 14 + 1))) (gI σ0 15) (gI σ0 18) (gI σ0 9)) := (((EqE.rf σ0).I (by decide)).P).Sc
  have mrow := ndM_row (mP (pI μ0 15 (gI μ0 15 + 1))) 2
  rw [show gI (mP (pI μ0 15 (gI μ0 15 + 1))) 9 = gI μ0 9 from rfl, show gI (mP (pI μ0 15 (gI μ0 15 + 1))) 5 = gI μ0 5 from rfl] at mrow
  have mfr : FrM μ0 (ndM (mP (pI μ0 15 (gI μ0 15 + 1))) 2) := ((ndM_fr (mP (pI μ0 15 (gI μ0 15 + 1))) 2).mP).I15
  have mpl : ∀ j x, 14 ≤ j → xA (ndM (mP (pI μ0 15 (gI μ0 15 + 1))) 2) j x = xA μ0 j x := fun j x h => (ndM_pile _ _ _ _ h).trans rfl
  have m9 : gI (ndM (mP (pI μ0 15 (gI μ0 15 + 1))) 2) 9 = gI μ0 9 + 1 := rfl
  have m11 : gI (ndM (mP (pI μ0 15 (gI μ0 15 + 1))) 2) 11 = gI μ0 11 + 1 := ndM_gI _ _ (by decide)
  have m12 : gI (ndM (mP (pI μ0 15 (gI μ0 15 + 1))) 2) 12 = gI μ0 12 + 1 := ndM_gI _ _ (by decide)
  have m15 : gI (ndM (mP (pI μ0 15 (gI μ0 15 + 1))) 2) 15 = gI μ0 15 + 1 := ndM_gI _ _ (by decide)
  have mI : ∀ k, ¬ k = 9 → ¬ k = 11 → ¬ k = 12 → ¬ k = 15 → gI (ndM (mP (pI μ0 15 (gI μ0 15 + 1))) 2) k = gI μ0 k := fun k w1 w2 w3 w4 => by
    rw [ndM_gI _ _ w1]
    unfold mP
    rw [gI_pI, if_neg w3, gI_pI, if_neg w2, gI_pI, if_neg w4]
  have hER : EqR μ0 (ndM (mP (pI μ0 15 (gI μ0 15 + 1))) 2) := (((EqR.rf μ0).I (by decide)).P).nd
  have hW : Wd (cSc (cP (pI σ0 14 (gI σ0 14 + 1))) (gI σ0 15) (gI σ0 18) (gI σ0 9)) (ndM (mP (pI μ0 15 (gI μ0 15 + 1))) 2) := ((((((hs0.1.I14).cP).Sc).I15m).mP).nd)
  generalize cSc (cP (pI σ0 14 (gI σ0 14 + 1))) (gI σ0 15) (gI σ0 18) (gI σ0 9) = S at *
  generalize ndM (mP (pI μ0 15 (gI μ0 15 + 1))) 2 = M at *
  have hGm : Gm 0 0 σ0 S μ0 M := by
    have i8 := iv_eq (hI 8 (by decide) (by decide) (by decide))
    have i9 := iv_a1 h9 b11 (by grind)
    have i10 := iv_eq (hI 10 (by decide) (by decide) (by decide))
    have i13 := iv_a1 h13 b4 (by grind)
    have i18 := iv_eq (hI 18 (by decide) (by decide) (by decide))
    have j9 := iv_a1 m9 b17 (by grind)
    have j10 := iv_eq (mI 10 (by decide) (by decide) (by decide) (by decide))
    unfold Gm
    omega
  have hSim : Sim S M := ⟨hW, Ct_eq hs0.2.1 hEE hER, Bg_mk (by rw [hI 11 (by decide) (by decide) (by decide)]; exact b1) (by rw [mI 7 (by decide) (by decide) (by decide) (by decide)]; exact b2) (by rw [h13, m11, b3]) (by rw [h13]; grind) (by rw [h13]; grind) (by rw [h14, m15, b6]) (by rw [h14]; grind) (by rw [h14]; grind) (by rw [hI 8 (by decide) (by decide) (by decide)]; exact b9) (by rw [h9]; grind) (by rw [hI 5 (by decide) (by decide) (by decide)]; exact b13) (by rw [hI 5 (by decide) (by decide) (by decide)]; exact b14) (by rw [hI 10 (by decide) (by decide) (by decide)]; exact b15) (by rw [m9]; grind) (by rw [mI 10 (by decide) (by decide) (by decide) (by decide)]; exact b19) (by rw [hI 15 (by decide) (by decide) (by decide)]; exact b21) (by rw [hI 15 (by decide) (by decide) (by decide), h9]; grind) (by rw [hI 18 (by decide) (by decide) (by decide)]; exact hp3.2) (hbm.gr hGm (by decide) (by decide) (hI 5 (by decide) (by decide) (by decide)))⟩
  obtain ⟨e, kc, p, v, z, vm, zm, a1, a2, a3, a4, a5⟩ := sim_adv hSim (by rw [hI 17 (by decide) (by decide) (by decide), hk]; decide)
  rw [hI 18 (by decide) (by decide) (by decide)] at a4
  refine ⟨_, _, a1, a2, (gI_wdM (by decide)).trans ((mI 7 (by decide) (by decide) (by decide) (by decide)).trans b2), ?_⟩
  have S18 : gI (wdC S e kc p v z) 18 = p := p_wdC
  have SI : ∀ k, (k < 16 ∨ 19 < k) → gI (wdC S e kc p v z) k = gI S k := fun k h => gI_wdC h
  have NI : ∀ k, (k < 3 ∨ 6 < k) → gI (wdM M e (kMd kc) p vm zm) k = gI M k := fun k h => gI_wdM h
  have SA : ∀ k x, xA (wdC S e kc p v z) k x = xA S k x := fun k x => xA_wdC ..
  have NA : ∀ k x, xA (wdM M e (kMd kc) p vm zm) k x = xA M k x := fun k x => xA_wdM ..
  have hEE2 : EqE σ0 (wdC S e kc p v z) := hEE.w
  have hER2 : EqR μ0 (wdM M e (kMd kc) p vm zm) := hER.w
  have hF2 : FrC σ0 (wdC S e kc p v z) := hfr.w
  have hF3 : FrM μ0 (wdM M e (kMd kc) p vm zm) := mfr.w
  clear a1 a2 hW hSim
  generalize wdC S e kc p v z = T at *
  generalize wdM M e (kMd kc) p vm zm = N at *
  have n10 : gI N 10 = gI μ0 10 := (NI 10 (by decide)).trans (mI 10 (by decide) (by decide) (by decide) (by decide))
  have PI : ∀ k, gI (pA N 9 (gI μ0 9) (gI N 10)) k = gI N k := fun k => rfl
  have PA : ∀ k x, ¬ k = 9 → xA (pA N 9 (gI μ0 9) (gI N 10)) k x = xA N k x := fun k x h => by rw [xA_pA, if_neg (fun w => h w.1)]
  have P9 : xA (pA N 9 (gI μ0 9) (gI N 10)) 9 (gI μ0 9) = gI N 10 := by rw [xA_pA, if_pos ⟨rfl, rfl⟩]
  have PB9 : ∀ x, 0 ≤ x → x < gI μ0 9 → xA (pA N 9 (gI μ0 9) (gI N 10)) 9 x = xA N 9 x := fun x h1 h2 => by rw [xA_pA, if_neg (fun w => i_ne h1 h2 w.2)]
  have PX : ∀ k x, xB (pA N 9 (gI μ0 9) (gI N 10)) k x = xB N k x := fun k x => rfl
  have hEN : EqR N (pA N 9 (gI μ0 9) (gI N 10)) := (EqR.rf N).A (by decide)
  have hSN : Sim T (pA N 9 (gI μ0 9) (gI N 10)) := a3.of hEN rfl rfl rfl rfl rfl rfl rfl rfl rfl rfl
  generalize pA N 9 (gI μ0 9) (gI N 10) = Q at *
  refine ⟨⟨hSN, hEE2, hER2.tr hEN, hF2, ?_, ⟨fun i p q => ?_, fun i p q => ?_⟩, ?_, ⟨?_, ?_, ?_, ?_, ?_, by rw [S18]; exact a4⟩, ⟨?_, ?_, ?_, ?_⟩, ⟨?_, ?_, ?_⟩, ⟨?_, ?_, ?_⟩, ?_⟩, ⟨by omega, ?_, ?_, ?_, ?_, fun i hi => absurd hi (by omega)⟩, ?_⟩
  · obtain ⟨f1, f2⟩ := hF3
    refine ⟨fun i p q => ?_, fun i p q => (PX _ _).trans (f2 i p q)⟩
    rw [PA 2 i (by decide), PA 3 i (by decide), PA 4 i (by decide), PA 5 i (by decide), PA 6 i (by decide), PA 7 i (by decide), PA 8 i (by decide), PB9 i p q, PA 10 i (by decide), PX]
    exact f1 i p q
  · rw [PA 14 i (by decide), PA 15 i (by decide), PA 16 i (by decide), PA 17 i (by decide), NA, NA, NA, NA, mpl 14 i (by decide), mpl 15 i (by decide), mpl 16 i (by decide), mpl 17 i (by decide)]
    exact ⟨rfl, rfl, rfl, rfl⟩
  · rw [PA 18 i (by decide), NA, mpl 18 i (by decide)]
  · rw [PI, PI, NI 12 (by decide), NI 11 (by decide), m12, m11]; grind
  · rw [SI 8 (by decide)]; exact hI 8 (by decide) (by decide) (by decide)
  · rw [SI 9 (by decide)]; exact h9
  · rw [SI 10 (by decide)]; exact hI 10 (by decide) (by decide) (by decide)
  · rw [SI 14 (by decide)]; exact h14
  · rw [SI 15 (by decide)]; exact hI 15 (by decide) (by decide) (by decide)
  · rw [PI, NI 9 (by decide)]; exact m9
  · rw [PI, n10]; grind
  · rw [PI, NI 16 (by decide)]; exact mI 16 (by decide) (by decide) (by decide) (by decide)
  · rw [PI, NI 17 (by decide)]; exact mI 17 (by decide) (by decide) (by decide) (by decide)
  · rw [SA]; exact hrow.2.1
  · rw [SA]; exact hrow.2.2.1
  · rw [SA]; exact hrow.2.2.2
  · rw [PA 2 _ (by decide), NA]; exact mrow.1
  · rw [PA 5 _ (by decide), NA]; exact mrow.2.2.1
  · rw [PA 6 _ (by decide), NA]; exact mrow.2.2.2.1.trans hs0.1.2.2.2.2.1.symm
  · have i8 := iv_eq (SI 8 (by decide))
    have i9 := iv_eq (SI 9 (by decide))
    have i10 := iv_eq (SI 10 (by decide))
    have i13 := iv_eq (SI 13 (by decide))
    have i18 : iv σ0 18 < iv T 18 := iv_lt (by rw [S18]; exact a4)
    have i18' := iv_eq (hI 18 (by decide) (by decide) (by decide))
    have j9 := iv_eq (PI 9)
    have j9' := iv_eq (NI 9 (by decide))
    have j10 := iv_eq (PI 10)
    have j10' := iv_eq (NI 10 (by decide))
    unfold Gm at *
    omega
  · rw [SA]; exact hrow.1
  · rw [PA 10 _ (by decide), NA]; exact mrow.2.2.2.2
  · rw [P9, n10]; exact b19
  · rw [P9, n10]; grind
  · rw [P9, PI, show nI 0 = 0 from rfl, Int32.add_zero]
