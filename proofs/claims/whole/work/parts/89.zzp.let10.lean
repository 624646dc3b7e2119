theorem c_let0 {σ0 : S5} {E : S5 → Option (Int32 × S5)} {σ : S5} (hk : gI σ0 17 = 7) (ho : gI σ0 14 < 30) (hp : gI σ0 13 < 600) (h9 : 0 ≤ gI σ0 9) (h9' : gI σ0 9 < 700) (h15 : 0 ≤ gI σ0 15) (h15' : gI σ0 15 < 700) (e1 : f_X10_advance (pI (cSc (cP (pI σ0 14 (gI σ0 14 + 1))) (gI σ0 15) (gI σ0 18) (xA σ0 22 (gI σ0 15))) 15 (gI σ0 9)) = some ((), σ)) : f_X5_readLet E σ0 = bd (f_X5_readBinding E σ) (fun r51 τ51 => f_X5_readLet_L61 E FU (gI σ0 15) (gI σ0 9) r51 r51 0 τ51) := by
  have hadd := c_add60 (σ := cP (pI σ0 14 (gI σ0 14 + 1))) (a := gI σ0 15) (gI σ0 18) h9 h9' h15 h15'
  unfold f_X5_readLet f_X5_opens
  rw [if_pos ho, bd_of, if_neg (by decide), c_cnt0 (σ := pI σ0 14 (gI σ0 14 + 1)) hp (by show ¬ gI σ0 17 = 0; rw [hk]; decide), bd_of, show gI (cP (pI σ0 14 (gI σ0 14 + 1))) 15 = gI σ0 15 from rfl, show gI (cP (pI σ0 14 (gI σ0 14 + 1))) 18 = gI σ0 18 from rfl, hadd, bd_of]
  rw [show gI (cP (pI σ0 14 (gI σ0 14 + 1))) 9 = gI σ0 9 from rfl, show xA (cP (pI σ0 14 (gI σ0 14 + 1))) 22 (gI σ0 15) = xA σ0 22 (gI σ0 15) from rfl, e1, bd_of]
theorem m_b67F {μ : S5} (h7 : 0 < gI μ 7) (h0 : 0 ≤ gI μ 16) (h1 : gI μ 16 < 3200) : f_X12_begins_b66 μ = some (1, mPl μ 3 0 0) := by
  have hn : ¬ gI μ 7 = 0 := by grind
  unfold f_X12_begins_b66 f_X12_begins_b67
  rw [m_accF _ hn, bd_of, m_pile 3 0 0 h0 h1, bd_of, show pI (pA (pA (pA (pA μ 14 (gI μ 16) 3) 15 (gI μ 16) 0) 16 (gI μ 16) 0) 17 (gI μ 16) 0) 16 (gI μ 16 + 1) = mPl μ 3 0 0 from rfl]
  unfold f_X12_binding
  rw [if_neg (show ¬ gI (mPl μ 3 0 0) 7 ≤ 0 from (by show ¬ gI μ 7 ≤ 0; grind)), bd_of]
theorem m_let30 {μ : S5} (hw : gI μ 4 = 11) (h7 : gI μ 7 = 0) (ho : gI μ 15 = 30) (h0 : 0 ≤ gI μ 16) (h1 : gI μ 16 < 3200) : f_X12_begins μ = some (1, mPl (pI (pI (pI μ 7 1) 8 (gI μ 5)) 15 (gI μ 15 + 1)) 3 0 0) := by
  unfold f_X12_begins f_X12_opens f_X12_opens_b13
  rw [if_pos hw, if_pos ho, m_wrong0 h7, bd_of, bd_of, if_neg (show ¬ gI (pI (pI (pI μ 7 1) 8 (gI μ 5)) 15 (gI (pI (pI μ 7 1) 8 (gI μ 5)) 15 + 1)) 7 = 0 from (by decide : ¬ (1 : Int32) = 0))]
  exact m_b67F (by exact (by decide : (0 : Int32) < 1)) h0 h1
theorem m_let6 {μ : S5} (hw : gI μ 4 = 11) (h7 : gI μ 7 = 0) (ho : ¬ gI μ 15 = 30) (hp : gI μ 11 = 600) (h0 : 0 ≤ gI μ 16) (h1 : gI μ 16 < 3200) : f_X12_begins μ = some (1, mPl (pI (pI (pI μ 15 (gI μ 15 + 1)) 7 4) 8 (gI μ 5)) 3 0 0) := by
  unfold f_X12_begins f_X12_opens f_X12_opens_b13
  rw [if_pos hw, if_neg ho, bd_of, if_pos (show gI (pI μ 15 (gI μ 15 + 1)) 7 = 0 from h7), m_part1 (μ := pI μ 15 (gI μ 15 + 1)) h7 hp, bd_of, if_pos rfl]
  exact m_b67F (by exact (by decide : (0 : Int32) < 4)) h0 h1
theorem m_let0 {μ μ1 ν : S5} (hw : gI μ 4 = 11) (h7 : gI μ 7 = 0) (ho : ¬ gI μ 15 = 30) (hp : ¬ gI μ 11 = 600) (h9 : 0 ≤ gI μ 9) (h9' : gI μ 9 < 3200) (e1 : f_X12_next (ndM (mP (pI μ 15 (gI μ 15 + 1))) 0) = some ((), μ1)) (h0 : 0 ≤ gI μ1 16) (h1 : gI μ1 16 < 3200) (e2 : f_X12_binding (gI μ 9) (mPl μ1 3 (gI μ 9) 0) = some ((), ν)) : f_X12_begins μ = some (1, ν) := by
  unfold f_X12_begins f_X12_opens f_X12_opens_b13
  rw [if_pos hw, if_neg ho, bd_of, if_pos (show gI (pI μ 15 (gI μ 15 + 1)) 7 = 0 from h7), m_part0 (μ := pI μ 15 (gI μ 15 + 1)) h7 hp, bd_of, if_neg (by decide)]
  have e9 : gI (pI (pI (pI μ 15 (gI μ 15 + 1)) 11 (gI (pI μ 15 (gI μ 15 + 1)) 11 + 1)) 12 (gI (pI μ 15 (gI μ 15 + 1)) 12 + 1)) 9 = gI μ 9 := rfl
  rw [m_node 0 (by rw [e9]; exact h9) (by rw [e9]; exact h9'), bd_of, e9]
  unfold f_X12_begins_b67
  rw [show ndM (pI (pI (pI μ 15 (gI μ 15 + 1)) 11 (gI (pI μ 15 (gI μ 15 + 1)) 11 + 1)) 12 (gI (pI μ 15 (gI μ 15 + 1)) 12 + 1)) 0 = ndM (mP (pI μ 15 (gI μ 15 + 1))) 0 from rfl, m_acc1 (μ := ndM (mP (pI μ 15 (gI μ 15 + 1))) 0) h7, e1, bd_of, m_pile 3 (gI μ 9) 0 h0 h1, bd_of, show pI (pA (pA (pA (pA μ1 14 (gI μ1 16) 3) 15 (gI μ1 16) (gI μ 9)) 16 (gI μ1 16) 0) 17 (gI μ1 16) 0) 16 (gI μ1 16 + 1) = mPl μ1 3 (gI μ 9) 0 from rfl, e2, bd_of]
/-- the states at a let's first binding: before its word -/
theorem le_oneA {σ0 μ0 : S5} (hs0 : Sim σ0 μ0) : ∃ S M : S5, pI (cSc (cP (pI σ0 14 (gI σ0 14 + 1))) (gI σ0 15) (gI σ0 18) (xA σ0 22 (gI σ0 15))) 15 (gI σ0 9) = S ∧ ndM (mP (pI μ0 15 (gI μ0 15 + 1))) 0 = M ∧ (∀ k, ¬ k = 9 → ¬ k = 13 → ¬ k = 14 → ¬ k = 15 → gI S k = gI σ0 k) ∧ gI S 9 = gI σ0 9 + 1 ∧ gI S 13 = gI σ0 13 + 1 ∧ gI S 14 = gI σ0 14 + 1 ∧ gI S 15 = gI σ0 9 ∧ (xA S 20 (gI σ0 9) = 0 ∧ xA S 21 (gI σ0 9) = gI σ0 15 ∧ xA S 22 (gI σ0 9) = xA σ0 22 (gI σ0 15)) ∧ FrC σ0 S ∧ EqE σ0 S ∧ Wd S M ∧ (xA M 2 (gI μ0 9) = 0 ∧ xA M 3 (gI μ0 9) = -1 ∧ xA M 5 (gI μ0 9) = -1 ∧ xA M 6 (gI μ0 9) = gI μ0 5 ∧ xA M 10 (gI μ0 9) = 0) ∧ FrM μ0 M ∧ (∀ j x, 14 ≤ j → xA M j x = xA μ0 j x) ∧ gI M 9 = gI μ0 9 + 1 ∧ gI M 11 = gI μ0 11 + 1 ∧ gI M 12 = gI μ0 12 + 1 ∧ gI M 15 = gI μ0 15 + 1 ∧ (∀ k, ¬ k = 9 → ¬ k = 11 → ¬ k = 12 → ¬ k = 15 → gI M k = gI μ0 k) ∧ EqR μ0 M := by
  have hrow0 := cSc_row (cP (pI σ0 14 (gI σ0 14 + 1))) (gI σ0 15) (gI σ0 18) (xA σ0 22 (gI σ0 15))
  rw [show gI (cP (pI σ0 14 (gI σ0 14 + 1))) 9 = gI σ0 9 from rfl] at hrow0
  have hfr0 : FrC σ0 (cSc (cP (pI σ0 14 (gI σ0 14 + 1))) (gI σ0 15) (gI σ0 18) (xA σ0 22 (gI σ0 15))) := ((cSc_fr (cP (pI σ0 14 (gI σ0 14 + 1))) (gI σ0 15) (gI σ0 18) (xA σ0 22 (gI σ0 15))).cP).I14
  have hI0 : ∀ k, ¬ k = 9 → ¬ k = 13 → ¬ k = 14 → gI (cSc (cP (pI σ0 14 (gI σ0 14 + 1))) (gI σ0 15) (gI σ0 18) (xA σ0 22 (gI σ0 15))) k = gI σ0 k := fun k h1 h2 h3 => by
    rw [cSc_gI _ _ _ _ h1]
    unfold cP
    rw [gI_pI, if_neg h2, gI_pI, if_neg h3]
  have h9 : gI (cSc (cP (pI σ0 14 (gI σ0 14 + 1))) (gI σ0 15) (gI σ0 18) (xA σ0 22 (gI σ0 15))) 9 = gI σ0 9 + 1 := rfl
  have h13 : gI (cSc (cP (pI σ0 14 (gI σ0 14 + 1))) (gI σ0 15) (gI σ0 18) (xA σ0 22 (gI σ0 15))) 13 = gI σ0 13 + 1 := rfl
  have h14 : gI (cSc (cP (pI σ0 14 (gI σ0 14 + 1))) (gI σ0 15) (gI σ0 18) (xA σ0 22 (gI σ0 15))) 14 = gI σ0 14 + 1 := rfl
  have hEE0 : EqE σ0 (cSc (cP (pI σ0 14 (gI σ0 14 + 1))) (gI σ0 15) (gI σ0 18) (xA σ0 22 (gI σ0 15))) := (((EqE.rf σ0).I (by decide)).P).Sc
  have mrow := ndM_row (mP (pI μ0 15 (gI μ0 15 + 1))) 0
  rw [show gI (mP (pI μ0 15 (gI μ0 15 + 1))) 9 = gI μ0 9 from rfl, show gI (mP (pI μ0 15 (gI μ0 15 + 1))) 5 = gI μ0 5 from rfl] at mrow
  have mfr : FrM μ0 (ndM (mP (pI μ0 15 (gI μ0 15 + 1))) 0) := ((ndM_fr (mP (pI μ0 15 (gI μ0 15 + 1))) 0).mP).I15
  have mpl : ∀ j x, 14 ≤ j → xA (ndM (mP (pI μ0 15 (gI μ0 15 + 1))) 0) j x = xA μ0 j x := fun j x h => (ndM_pile _ _ _ _ h).trans rfl
  have m9 : gI (ndM (mP (pI μ0 15 (gI μ0 15 + 1))) 0) 9 = gI μ0 9 + 1 := rfl
  have m11 : gI (ndM (mP (pI μ0 15 (gI μ0 15 + 1))) 0) 11 = gI μ0 11 + 1 := ndM_gI _ _ (by decide)
  have m12 : gI (ndM (mP (pI μ0 15 (gI μ0 15 + 1))) 0) 12 = gI μ0 12 + 1 := ndM_gI _ _ (by decide)
  have m15 : gI (ndM (mP (pI μ0 15 (gI μ0 15 + 1))) 0) 15 = gI μ0 15 + 1 := ndM_gI _ _ (by decide)
  have mI : ∀ k, ¬ k = 9 → ¬ k = 11 → ¬ k = 12 → ¬ k = 15 → gI (ndM (mP (pI μ0 15 (gI μ0 15 + 1))) 0) k = gI μ0 k := fun k w1 w2 w3 w4 => by
    rw [ndM_gI _ _ w1]
    unfold mP
    rw [gI_pI, if_neg w3, gI_pI, if_neg w2, gI_pI, if_neg w4]
  have hER : EqR μ0 (ndM (mP (pI μ0 15 (gI μ0 15 + 1))) 0) := (((EqR.rf μ0).I (by decide)).P).nd
  have hW0 : Wd (cSc (cP (pI σ0 14 (gI σ0 14 + 1))) (gI σ0 15) (gI σ0 18) (xA σ0 22 (gI σ0 15))) (ndM (mP (pI μ0 15 (gI μ0 15 + 1))) 0) := ((((((hs0.1.I14).cP).Sc).I15m).mP).nd)
  refine ⟨_, _, rfl, rfl, ?_⟩
  generalize cSc (cP (pI σ0 14 (gI σ0 14 + 1))) (gI σ0 15) (gI σ0 18) (xA σ0 22 (gI σ0 15)) = S0 at *
  generalize ndM (mP (pI μ0 15 (gI μ0 15 + 1))) 0 = M at *
  have hI : ∀ k, ¬ k = 9 → ¬ k = 13 → ¬ k = 14 → ¬ k = 15 → gI (pI S0 15 (gI σ0 9)) k = gI σ0 k := fun k w1 w2 w3 w4 => by
    rw [gI_pI, if_neg w4]
    exact hI0 k w1 w2 w3
  have s9 : gI (pI S0 15 (gI σ0 9)) 9 = gI σ0 9 + 1 := h9
  have s13 : gI (pI S0 15 (gI σ0 9)) 13 = gI σ0 13 + 1 := h13
  have s14 : gI (pI S0 15 (gI σ0 9)) 14 = gI σ0 14 + 1 := h14
  have s15 : gI (pI S0 15 (gI σ0 9)) 15 = gI σ0 9 := rfl
  have hrow : xA (pI S0 15 (gI σ0 9)) 20 (gI σ0 9) = 0 ∧ xA (pI S0 15 (gI σ0 9)) 21 (gI σ0 9) = gI σ0 15 ∧ xA (pI S0 15 (gI σ0 9)) 22 (gI σ0 9) = xA σ0 22 (gI σ0 15) := ⟨hrow0.1, hrow0.2.1, hrow0.2.2.1⟩
  have hfr : FrC σ0 (pI S0 15 (gI σ0 9)) := hfr0
  have hEE : EqE σ0 (pI S0 15 (gI σ0 9)) := hEE0.I (by decide)
  have hW : Wd (pI S0 15 (gI σ0 9)) M := hW0.I15
  exact ⟨hI, s9, s13, s14, s15, hrow, hfr, hEE, hW, mrow, mfr, mpl, m9, m11, m12, m15, mI, hER⟩
/-- the states at a let's first binding -/
theorem le_one {σ0 μ0 : S5} (hs0 : Sim σ0 μ0) (ho : gI σ0 14 < 30) (hp : gI σ0 13 < 600) (hk : gI σ0 17 = 7) (h160 : 0 ≤ gI μ0 16) : ∃ σ μ1 : S5, f_X10_advance (pI (cSc (cP (pI σ0 14 (gI σ0 14 + 1))) (gI σ0 15) (gI σ0 18) (xA σ0 22 (gI σ0 15))) 15 (gI σ0 9)) = some ((), σ) ∧ f_X12_next (ndM (mP (pI μ0 15 (gI μ0 15 + 1))) 0) = some ((), μ1) ∧ gI μ1 16 = gI μ0 16 ∧ gI σ0 18 < gI σ 18 ∧ LI σ0 μ0 σ (mPl μ1 3 (gI μ0 9) 0) 0 (fun _ => 0) (fun _ => 0) (fun _ => gI σ0 9 + 1) (fun _ => gI σ0 10) (fun _ => gI μ0 9 + 1) (fun _ => gI σ0 8) := by
  have hb := hs0.2.2
  have hbm := hs0.bm
  have hp3 := hs0.p3
  unfold Bg at hb
  obtain ⟨b1, b2, b3, b4, b5, b6, b7, b8, b9, b10, b11, b12, b13, b14, b15, b16, b17, b18, b19, b20, b21, b22, b23⟩ := hb
  obtain ⟨S, M, hS, hM, hI, s9, s13, s14, s15, hrow, hfr, hEE, hW, mrow, mfr, mpl, m9, m11, m12, m15, mI, hER⟩ := le_oneA hs0
  rw [hS, hM]
  clear hS hM
  have hGm : Gm 0 0 σ0 S μ0 M := by
    have i8 := iv_eq (hI 8 (by decide) (by decide) (by decide) (by decide))
    have i9 := iv_a1 s9 b11 (by grind)
    have i10 := iv_eq (hI 10 (by decide) (by decide) (by decide) (by decide))
    have i13 := iv_a1 s13 b4 (by grind)
    have i18 := iv_eq (hI 18 (by decide) (by decide) (by decide) (by decide))
    have j9 := iv_a1 m9 b17 (by grind)
    have j10 := iv_eq (mI 10 (by decide) (by decide) (by decide) (by decide))
    unfold Gm
    omega
  have hSim : Sim S M := Sim.mk2 hs0 hW hEE hER hGm (by decide) (by decide) (by rw [hI 11 (by decide) (by decide) (by decide) (by decide)]; exact b1) (by rw [mI 7 (by decide) (by decide) (by decide) (by decide)]; exact b2) (by rw [s13, m11, b3]) (by rw [s13]; grind) (by rw [s14, m15, b6]) (by rw [s14]; grind) (by rw [hI 8 (by decide) (by decide) (by decide) (by decide)]; exact b9) (by rw [s9]; grind) (by rw [hI 10 (by decide) (by decide) (by decide) (by decide)]; exact b15) (by rw [m9]; grind) (by rw [mI 10 (by decide) (by decide) (by decide) (by decide)]; exact b19) (by rw [s15, s9]; grind) (by rw [hI 18 (by decide) (by decide) (by decide) (by decide)]; exact hp3.2)
  obtain ⟨e, kc, p, v, z, vm, zm, a1, a2, a3, a4, a5⟩ := sim_adv hSim (by rw [hI 17 (by decide) (by decide) (by decide) (by decide), hk]; decide)
  rw [hI 18 (by decide) (by decide) (by decide) (by decide)] at a4
  have S18 : gI (wdC S e kc p v z) 18 = p := p_wdC
  have n16 : gI (wdM M e (kMd kc) p vm zm) 16 = gI μ0 16 := (gI_wdM (by decide)).trans (mI 16 (by decide) (by decide) (by decide) (by decide))
  refine ⟨_, _, a1, a2, n16, by rw [S18]; exact a4, ?_⟩
  have SI : ∀ k, (k < 16 ∨ 19 < k) → gI (wdC S e kc p v z) k = gI S k := fun k h => gI_wdC h
  have NI : ∀ k, (k < 3 ∨ 6 < k) → gI (wdM M e (kMd kc) p vm zm) k = gI M k := fun k h => gI_wdM h
  have SA : ∀ k x, xA (wdC S e kc p v z) k x = xA S k x := fun k x => xA_wdC ..
  have NA : ∀ k x, xA (wdM M e (kMd kc) p vm zm) k x = xA M k x := fun k x => xA_wdM ..
  have hEE2 : EqE σ0 (wdC S e kc p v z) := hEE.w
  have hER2 : EqR μ0 (wdM M e (kMd kc) p vm zm) := hER.w
  have hF2 : FrC σ0 (wdC S e kc p v z) := hfr.w
  have hF3 : FrM μ0 (wdM M e (kMd kc) p vm zm) := mfr.w
  clear a1 a2 hW hSim
  generalize wdC S e kc p v z = T at *
  generalize wdM M e (kMd kc) p vm zm = N at *
  have PI : ∀ k, ¬ k = 16 → gI (mPl N 3 (gI μ0 9) 0) k = gI N k := fun k h => by
    unfold mPl
    rw [gI_pI, if_neg h]
    rfl
  have P16 : gI (mPl N 3 (gI μ0 9) 0) 16 = gI N 16 + 1 := rfl
  have PA : ∀ k x, (k ≤ 13 ∨ k = 18) → xA (mPl N 3 (gI μ0 9) 0) k x = xA N k x := fun k x h => by
    unfold mPl
    simp only [xA_pI, xA_pA]
    rw [if_neg (by omega), if_neg (by omega), if_neg (by omega), if_neg (by omega)]
  have PX : ∀ k x, xB (mPl N 3 (gI μ0 9) 0) k x = xB N k x := fun k x => rfl
  have PT : xA (mPl N 3 (gI μ0 9) 0) 14 (gI N 16) = 3 ∧ xA (mPl N 3 (gI μ0 9) 0) 15 (gI N 16) = gI μ0 9 := by simp [mPl, xA_pI, xA_pA]
  have PP : PF N (mPl N 3 (gI μ0 9) 0) := by
    refine ⟨fun i p q => ?_, fun i p q => rfl⟩
    have := i_ne p q
    simp [mPl, xA_pI, xA_pA, this]
  have PE : EqR N (mPl N 3 (gI μ0 9) 0) := (EqR.rf N).Pl
  have PS : Sim T (mPl N 3 (gI μ0 9) 0) := a3.of PE rfl rfl rfl rfl rfl rfl rfl rfl rfl rfl
  generalize mPl N 3 (gI μ0 9) 0 = Q at *
  have q9 : gI Q 9 = gI μ0 9 + 1 := (PI 9 (by decide)).trans ((NI 9 (by decide)).trans m9)
  have q10 : gI Q 10 = gI μ0 10 := (PI 10 (by decide)).trans ((NI 10 (by decide)).trans (mI 10 (by decide) (by decide) (by decide) (by decide)))
  have t8 : gI T 8 = gI σ0 8 := (SI 8 (by decide)).trans (hI 8 (by decide) (by decide) (by decide) (by decide))
  have t9 : gI T 9 = gI σ0 9 + 1 := (SI 9 (by decide)).trans s9
  have t10 : gI T 10 = gI σ0 10 := (SI 10 (by decide)).trans (hI 10 (by decide) (by decide) (by decide) (by decide))
  have t13 : gI T 13 = gI σ0 13 + 1 := (SI 13 (by decide)).trans s13
  have i8 := iv_eq t8
  have i9 := iv_a1 t9 b11 (by grind)
  have i10 := iv_eq t10
  have i13 := iv_a1 t13 b4 (by grind)
  have i18 : iv σ0 18 < iv T 18 := iv_lt (by rw [S18]; exact a4)
  have j9 := iv_a1 q9 b17 (by grind)
  have j10 := iv_eq q10
  rw [n16] at PT
  refine ⟨PS, ⟨hEE2, hER2.tr PE, hF2, ?_, PF.tr ⟨fun i p q => ?_, fun i p q => ?_⟩ PP (by rw [n16]; exact Int32.le_refl _) ?_, ?_, by rw [t8]; exact Int32.le_refl _, by rw [t9]; grind, by rw [t10]; exact Int32.le_refl _, by rw [q9]; grind, by rw [q10]; exact Int32.le_refl _, by rw [S18]; grind⟩, ⟨?_, ?_, by rw [P16, n16], ?_, by rw [t9]; grind, by rw [q9]; grind⟩, PT, ⟨by rw [SA]; exact hrow.2.1, by rw [SA]; exact hrow.2.2⟩, ⟨?_, ?_, ?_, fun w => absurd w (by omega)⟩, ⟨by omega, by rw [SA]; exact hrow.1, ?_, fun i hi => absurd hi (by omega)⟩, ⟨rfl, t9.symm, rfl, t10.symm, rfl, q9.symm, rfl, t8.symm, fun i hi => absurd hi (by omega)⟩, ?_, by omega⟩
  · unfold FrM at *
    simp only [PX, PA 2 _ (by decide), PA 3 _ (by decide), PA 4 _ (by decide), PA 5 _ (by decide), PA 6 _ (by decide), PA 7 _ (by decide), PA 8 _ (by decide), PA 9 _ (by decide), PA 10 _ (by decide)]
    exact hF3
  · rw [NA, NA, NA, NA, mpl 14 i (by decide), mpl 15 i (by decide), mpl 16 i (by decide), mpl 17 i (by decide)]
    exact ⟨rfl, rfl, rfl, rfl⟩
  · rw [NA, mpl 18 i (by decide)]
  · rw [NI 17 (by decide), mI 17 (by decide) (by decide) (by decide) (by decide)]; exact Int32.le_refl _
  · rw [PI 12 (by decide), PI 11 (by decide), NI 12 (by decide), NI 11 (by decide), m12, m11]; grind
  · rw [SI 14 (by decide)]; exact s14
  · rw [SI 15 (by decide)]; exact s15
  · rw [PI 17 (by decide), NI 17 (by decide)]; exact mI 17 (by decide) (by decide) (by decide) (by decide)
  · rw [PA 2 _ (by decide), NA]; exact mrow.1
  · rw [PA 5 _ (by decide), NA]; exact mrow.2.2.1
  · rw [PA 10 _ (by decide), NA]; exact mrow.2.2.2.2
  · rw [PA 3 _ (by decide), NA, if_neg (by omega)]; exact mrow.2.1
  · unfold Gm
    omega
