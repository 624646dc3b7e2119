theorem c_cas0 {σ0 : S5} {E : S5 → Option (Int32 × S5)} {σ : S5} (hk : gI σ0 17 = 9) (ho : gI σ0 14 < 30) (hp : gI σ0 13 < 600) (e1 : f_X10_advance (cP (pI σ0 14 (gI σ0 14 + 1))) = some ((), σ)) : f_X5_readCase E σ0 = bd (E σ) (fun r21 τ21 => bd (f_X5_expect 10 τ21) (fun _ τ28 => bd (f_X5_expect 123 τ28) (fun _ τ34 => bd (f_X5_readAlternative E 0 τ34) (fun r39 τ39 => gd r21 6200 <| f_X5_readCase_L55 E FU r21 r39 1 (pA τ39 17 r21 r39))))) := by
  unfold f_X5_readCase f_X5_opens
  rw [if_pos ho, bd_of, if_neg (by decide), c_cnt0 (σ := pI σ0 14 (gI σ0 14 + 1)) hp (by show ¬ gI σ0 17 = 0; rw [hk]; decide), bd_of, e1, bd_of]
theorem m_b113F {μ : S5} (h7 : ¬ gI μ 7 = 0) (h0 : 0 ≤ gI μ 16) (h1 : gI μ 16 < 3200) : f_X12_begins_b113 μ = some (1, mPl μ 5 0 0) := by
  unfold f_X12_begins_b113 f_X12_begins_b114
  rw [m_accF _ h7, bd_of, m_pile 5 0 0 h0 h1, bd_of]
  rfl
theorem m_cas30 {μ : S5} (hw : gI μ 4 = 13) (h7 : gI μ 7 = 0) (ho : gI μ 15 = 30) (h0 : 0 ≤ gI μ 16) (h1 : gI μ 16 < 3200) : f_X12_begins μ = some (1, mPl (pI (pI (pI μ 7 1) 8 (gI μ 5)) 15 (gI μ 15 + 1)) 5 0 0) := by
  unfold f_X12_begins f_X12_opens f_X12_opens_b13
  rw [if_neg (by rw [hw]; decide), if_pos hw, if_pos ho, m_wrong0 h7, bd_of, bd_of, if_neg (show ¬ gI (pI (pI (pI μ 7 1) 8 (gI μ 5)) 15 (gI (pI (pI μ 7 1) 8 (gI μ 5)) 15 + 1)) 7 = 0 from (by decide : ¬ (1 : Int32) = 0))]
  exact m_b113F (by exact (by decide : ¬ (1 : Int32) = 0)) h0 h1
theorem m_cas6 {μ : S5} (hw : gI μ 4 = 13) (h7 : gI μ 7 = 0) (ho : ¬ gI μ 15 = 30) (hp : gI μ 11 = 600) (h0 : 0 ≤ gI μ 16) (h1 : gI μ 16 < 3200) : f_X12_begins μ = some (1, mPl (pI (pI (pI μ 15 (gI μ 15 + 1)) 7 4) 8 (gI μ 5)) 5 0 0) := by
  unfold f_X12_begins f_X12_opens f_X12_opens_b13
  rw [if_neg (by rw [hw]; decide), if_pos hw, if_neg ho, bd_of, if_pos (show gI (pI μ 15 (gI μ 15 + 1)) 7 = 0 from h7), m_part1 (μ := pI μ 15 (gI μ 15 + 1)) h7 hp, bd_of, if_pos rfl]
  exact m_b113F (by exact (by decide : ¬ (4 : Int32) = 0)) h0 h1
theorem m_cas0 {μ μ1 : S5} (hw : gI μ 4 = 13) (h7 : gI μ 7 = 0) (ho : ¬ gI μ 15 = 30) (hp : ¬ gI μ 11 = 600) (h9 : 0 ≤ gI μ 9) (h9' : gI μ 9 < 3200) (e1 : f_X12_next (ndM (mP (pI μ 15 (gI μ 15 + 1))) 3) = some ((), μ1)) (h0 : 0 ≤ gI μ1 16) (h1 : gI μ1 16 < 3200) : f_X12_begins μ = some (1, mPl μ1 5 (gI μ 9) 0) := by
  unfold f_X12_begins f_X12_opens f_X12_opens_b13
  rw [if_neg (by rw [hw]; decide), if_pos hw, if_neg ho, bd_of, if_pos (show gI (pI μ 15 (gI μ 15 + 1)) 7 = 0 from h7), m_part0 (μ := pI μ 15 (gI μ 15 + 1)) h7 hp, bd_of, if_neg (by decide)]
  have e9 : gI (pI (pI (pI μ 15 (gI μ 15 + 1)) 11 (gI (pI μ 15 (gI μ 15 + 1)) 11 + 1)) 12 (gI (pI μ 15 (gI μ 15 + 1)) 12 + 1)) 9 = gI μ 9 := rfl
  rw [m_node 3 (by rw [e9]; exact h9) (by rw [e9]; exact h9'), bd_of, e9]
  unfold f_X12_begins_b114
  rw [show ndM (pI (pI (pI μ 15 (gI μ 15 + 1)) 11 (gI (pI μ 15 (gI μ 15 + 1)) 11 + 1)) 12 (gI (pI μ 15 (gI μ 15 + 1)) 12 + 1)) 3 = ndM (mP (pI μ 15 (gI μ 15 + 1))) 3 from rfl, m_acc1 (μ := ndM (mP (pI μ 15 (gI μ 15 + 1))) 3) h7, e1, bd_of, m_pile 5 (gI μ 9) 0 h0 h1, bd_of]
  rfl
/-- the states at a case's E -/
theorem ca_one {σ0 μ0 : S5} (hs0 : Sim σ0 μ0) (ho : gI σ0 14 < 30) (hp : gI σ0 13 < 600) (hk : gI σ0 17 = 9) (h160 : 0 ≤ gI μ0 16) : ∃ σ μ1 : S5, f_X10_advance (cP (pI σ0 14 (gI σ0 14 + 1))) = some ((), σ) ∧ f_X12_next (ndM (mP (pI μ0 15 (gI μ0 15 + 1))) 3) = some ((), μ1) ∧ gI μ1 16 = gI μ0 16 ∧ CS σ0 μ0 σ (pI (pI (mPl μ1 5 (gI μ0 9) 0) 19 1) 18 1) := by
  have hb := hs0.2.2
  have hp3 := hs0.p3
  unfold Bg at hb
  obtain ⟨b1, b2, b3, b4, b5, b6, b7, b8, b9, b10, b11, b12, b13, b14, b15, b16, b17, b18, b19, b20, b21, b22, b23⟩ := hb
  have hI : ∀ k, ¬ k = 13 → ¬ k = 14 → gI (cP (pI σ0 14 (gI σ0 14 + 1))) k = gI σ0 k := fun k h2 h3 => by
    unfold cP
    rw [gI_pI, if_neg h2, gI_pI, if_neg h3]
  have h13 : gI (cP (pI σ0 14 (gI σ0 14 + 1))) 13 = gI σ0 13 + 1 := rfl
  have h14 : gI (cP (pI σ0 14 (gI σ0 14 + 1))) 14 = gI σ0 14 + 1 := rfl
  have hEE : EqE σ0 (cP (pI σ0 14 (gI σ0 14 + 1))) := ((EqE.rf σ0).I (by decide)).P
  have hfr : FrC σ0 (cP (pI σ0 14 (gI σ0 14 + 1))) := FrC.rf σ0
  have mrow := ndM_row (mP (pI μ0 15 (gI μ0 15 + 1))) 3
  rw [show gI (mP (pI μ0 15 (gI μ0 15 + 1))) 9 = gI μ0 9 from rfl, show gI (mP (pI μ0 15 (gI μ0 15 + 1))) 5 = gI μ0 5 from rfl] at mrow
  have mfr : FrM μ0 (ndM (mP (pI μ0 15 (gI μ0 15 + 1))) 3) := ((ndM_fr (mP (pI μ0 15 (gI μ0 15 + 1))) 3).mP).I15
  have mpl : ∀ j x, 14 ≤ j → xA (ndM (mP (pI μ0 15 (gI μ0 15 + 1))) 3) j x = xA μ0 j x := fun j x h => (ndM_pile _ _ _ _ h).trans rfl
  have m9 : gI (ndM (mP (pI μ0 15 (gI μ0 15 + 1))) 3) 9 = gI μ0 9 + 1 := rfl
  have m11 : gI (ndM (mP (pI μ0 15 (gI μ0 15 + 1))) 3) 11 = gI μ0 11 + 1 := ndM_gI _ _ (by decide)
  have m12 : gI (ndM (mP (pI μ0 15 (gI μ0 15 + 1))) 3) 12 = gI μ0 12 + 1 := ndM_gI _ _ (by decide)
  have m15 : gI (ndM (mP (pI μ0 15 (gI μ0 15 + 1))) 3) 15 = gI μ0 15 + 1 := ndM_gI _ _ (by decide)
  have mI : ∀ k, ¬ k = 9 → ¬ k = 11 → ¬ k = 12 → ¬ k = 15 → gI (ndM (mP (pI μ0 15 (gI μ0 15 + 1))) 3) k = gI μ0 k := fun k w1 w2 w3 w4 => by
    rw [ndM_gI _ _ w1]
    unfold mP
    rw [gI_pI, if_neg w3, gI_pI, if_neg w2, gI_pI, if_neg w4]
  have hER : EqR μ0 (ndM (mP (pI μ0 15 (gI μ0 15 + 1))) 3) := (((EqR.rf μ0).I (by decide)).P).nd
  have hW : Wd (cP (pI σ0 14 (gI σ0 14 + 1))) (ndM (mP (pI μ0 15 (gI μ0 15 + 1))) 3) := (((((hs0.1.I14).cP).I15m).mP).nd)
  generalize cP (pI σ0 14 (gI σ0 14 + 1)) = S at *
  generalize ndM (mP (pI μ0 15 (gI μ0 15 + 1))) 3 = M at *
  have hGm : Gm 0 0 σ0 S μ0 M := by
    have i8 := iv_eq (hI 8 (by decide) (by decide))
    have i9 := iv_eq (hI 9 (by decide) (by decide))
    have i10 := iv_eq (hI 10 (by decide) (by decide))
    have i13 := iv_a1 h13 b4 (by grind)
    have i18 := iv_eq (hI 18 (by decide) (by decide))
    have j9 := iv_a1 m9 b17 (by grind)
    have j10 := iv_eq (mI 10 (by decide) (by decide) (by decide) (by decide))
    unfold Gm
    omega
  have hSim : Sim S M := Sim.mk2 hs0 hW hEE hER hGm (by decide) (by decide) (by rw [hI 11 (by decide) (by decide)]; exact b1) (by rw [mI 7 (by decide) (by decide) (by decide) (by decide)]; exact b2) (by rw [h13, m11, b3]) (by rw [h13]; grind) (by rw [h14, m15, b6]) (by rw [h14]; grind) (by rw [hI 8 (by decide) (by decide)]; exact b9) (by rw [hI 9 (by decide) (by decide)]; exact b11) (by rw [hI 10 (by decide) (by decide)]; exact b15) (by rw [m9]; grind) (by rw [mI 10 (by decide) (by decide) (by decide) (by decide)]; exact b19) (by rw [hI 15 (by decide) (by decide), hI 9 (by decide) (by decide)]; exact ⟨b21, b22⟩) (by rw [hI 18 (by decide) (by decide)]; exact hp3.2)
  obtain ⟨e, kc, p, v, z, vm, zm, a1, a2, a3, a4, a5⟩ := sim_adv hSim (by rw [hI 17 (by decide) (by decide), hk]; decide)
  rw [hI 18 (by decide) (by decide)] at a4
  have S18 : gI (wdC S e kc p v z) 18 = p := p_wdC
  have n16 : gI (wdM M e (kMd kc) p vm zm) 16 = gI μ0 16 := (gI_wdM (by decide)).trans (mI 16 (by decide) (by decide) (by decide) (by decide))
  refine ⟨_, _, a1, a2, n16, ?_⟩
  have SI : ∀ k, (k < 16 ∨ 19 < k) → gI (wdC S e kc p v z) k = gI S k := fun k h => gI_wdC h
  have NI : ∀ k, (k < 3 ∨ 6 < k) → gI (wdM M e (kMd kc) p vm zm) k = gI M k := fun k h => gI_wdM h
  have NA : ∀ k x, xA (wdM M e (kMd kc) p vm zm) k x = xA M k x := fun k x => xA_wdM ..
  have hEE2 : EqE σ0 (wdC S e kc p v z) := hEE.w
  have hER2 : EqR μ0 (wdM M e (kMd kc) p vm zm) := hER.w
  have hF2 : FrC σ0 (wdC S e kc p v z) := hfr.w
  have hF3 : FrM μ0 (wdM M e (kMd kc) p vm zm) := mfr.w
  clear a1 a2 hW hSim
  generalize wdC S e kc p v z = T at *
  generalize wdM M e (kMd kc) p vm zm = N at *
  have tp := mPl_top N 5 (gI μ0 9) 0
  rw [n16] at tp
  have PI : ∀ k, ¬ k = 16 → ¬ k = 18 → ¬ k = 19 → gI (pI (pI (mPl N 5 (gI μ0 9) 0) 19 1) 18 1) k = gI N k := fun k h1 h2 h3 => mPl_gI _ _ _ _ h1 h2 h3
  have PA : ∀ k x, (k ≤ 13 ∨ k = 18) → xA (pI (pI (mPl N 5 (gI μ0 9) 0) 19 1) 18 1) k x = xA N k x := fun k x h => mPl_A _ _ _ _ _ h
  have PX : ∀ k x, xB (pI (pI (mPl N 5 (gI μ0 9) 0) 19 1) 18 1) k x = xB N k x := fun k x => mPl_B ..
  have P16 : gI (pI (pI (mPl N 5 (gI μ0 9) 0) 19 1) 18 1) 16 = gI N 16 + 1 := mPl_16 ..
  have PP := mPl_PF N 5 (gI μ0 9) 0
  have PE : EqR N (pI (pI (mPl N 5 (gI μ0 9) 0) 19 1) 18 1) := (((EqR.rf N).Pl).I (by decide)).I (by decide)
  have PS : Sim T (pI (pI (mPl N 5 (gI μ0 9) 0) 19 1) 18 1) := a3.Pl
  have P18 : gI (pI (pI (mPl N 5 (gI μ0 9) 0) 19 1) 18 1) 18 = 1 := rfl
  have P19 : gI (pI (pI (mPl N 5 (gI μ0 9) 0) 19 1) 18 1) 19 = 1 := rfl
  generalize pI (pI (mPl N 5 (gI μ0 9) 0) 19 1) 18 1 = Q at *
  have q9 : gI Q 9 = gI μ0 9 + 1 := (PI 9 (by decide) (by decide) (by decide)).trans ((NI 9 (by decide)).trans m9)
  have q10 : gI Q 10 = gI μ0 10 := (PI 10 (by decide) (by decide) (by decide)).trans ((NI 10 (by decide)).trans (mI 10 (by decide) (by decide) (by decide) (by decide)))
  have t8 : gI T 8 = gI σ0 8 := (SI 8 (by decide)).trans (hI 8 (by decide) (by decide))
  have t9 : gI T 9 = gI σ0 9 := (SI 9 (by decide)).trans (hI 9 (by decide) (by decide))
  have t10 : gI T 10 = gI σ0 10 := (SI 10 (by decide)).trans (hI 10 (by decide) (by decide))
  have t13 : gI T 13 = gI σ0 13 + 1 := (SI 13 (by decide)).trans h13
  have t15 : gI T 15 = gI σ0 15 := (SI 15 (by decide)).trans (hI 15 (by decide) (by decide))
  have i8 := iv_eq t8
  have i9 := iv_eq t9
  have i10 := iv_eq t10
  have i13 := iv_a1 t13 b4 (by grind)
  have i18 : iv σ0 18 < iv T 18 := iv_lt (by rw [S18]; exact a4)
  have j9 := iv_a1 q9 b17 (by grind)
  have j10 := iv_eq q10
  refine ⟨PS, ⟨hEE2, hER2.tr PE, hF2, ?_, PF.tr ⟨fun i p q => ?_, fun i p q => ?_⟩ PP (by rw [n16]; exact Int32.le_refl _) ?_, ?_, by rw [t8]; exact Int32.le_refl _, by rw [t9]; exact Int32.le_refl _, by rw [t10]; exact Int32.le_refl _, by rw [q9]; grind, by rw [q10]; exact Int32.le_refl _, by rw [S18]; grind⟩, ⟨t8, t9, t10, (SI 14 (by decide)).trans h14, t15, by rw [S18]; exact a4⟩, ⟨q9, by rw [P16, n16], ?_, P18, P19⟩, tp, ⟨?_, ?_, ?_, ?_⟩, ?_, by omega⟩
  · unfold FrM at *
    simp only [PX, PA 2 _ (by decide), PA 3 _ (by decide), PA 4 _ (by decide), PA 5 _ (by decide), PA 6 _ (by decide), PA 7 _ (by decide), PA 8 _ (by decide), PA 9 _ (by decide), PA 10 _ (by decide)]
    exact hF3
  · rw [NA, NA, NA, NA, mpl 14 i (by decide), mpl 15 i (by decide), mpl 16 i (by decide), mpl 17 i (by decide)]
    exact ⟨rfl, rfl, rfl, rfl⟩
  · rw [NA, mpl 18 i (by decide)]
  · rw [NI 17 (by decide), mI 17 (by decide) (by decide) (by decide) (by decide)]; exact Int32.le_refl _
  · rw [PI 12 (by decide) (by decide) (by decide), PI 11 (by decide) (by decide) (by decide), NI 12 (by decide), NI 11 (by decide), m12, m11]; grind
  · rw [PI 17 (by decide) (by decide) (by decide), NI 17 (by decide)]; exact mI 17 (by decide) (by decide) (by decide) (by decide)
  · rw [PA 2 _ (by decide), NA]; exact mrow.1
  · rw [PA 3 _ (by decide), NA]; exact mrow.2.1
  · rw [PA 5 _ (by decide), NA]; exact mrow.2.2.1
  · rw [PA 10 _ (by decide), NA]; exact mrow.2.2.2.2
  · unfold Gm
    omega
