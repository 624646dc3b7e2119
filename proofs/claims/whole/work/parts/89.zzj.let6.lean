/-- a binding without parameters, behind its name -/
def bC (E : S5 → Option (Int32 × S5)) (w : Int32) (σ : S5) : Option (Int32 × S5) := bd (f_X5_expect 61 σ) (fun _ τ44 => bd (E τ44) (fun r48 τ48 => f_X5_readBinding_b52 E w r48 τ48))
theorem mB2_go {μ : S5} {v : Int32} (h7 : gI μ 7 = 0) : mB2 v μ = bd (if gI μ 4 = 161 then f_X12_next μ else some ((), pI (pI μ 7 1) 8 (gI μ 5))) (fun _ τ2 => bd (f_X12_pile 2 v 0 τ2) (fun _ τ3 => some ((), pI (pI τ3 19 1) 18 1))) := by
  unfold mB2
  rw [m_isS, bd_of, show (100 : Int32) + 61 = 161 from rfl]
  by_cases c : gI μ 4 = 161
  · rw [if_pos c, if_pos c, m_acc1 h7]
  · rw [if_neg c, if_neg c, m_acc0 h7]
theorem mB2_F {μ : S5} {v : Int32} (h7 : ¬ gI μ 7 = 0) (h0 : 0 ≤ gI μ 16) (h1 : gI μ 16 < 3200) : mB2 v μ = some ((), pI (pI (mPl μ 2 v 0) 19 1) 18 1) := by
  unfold mB2
  rw [m_isS, bd_of, m_accF _ h7, bd_of, m_pile 2 v 0 h0 h1, bd_of]
  rfl
theorem Sim.Pl {σ μ : S5} {k n r : Int32} (h : Sim σ μ) : Sim σ (pI (pI (mPl μ k n r) 19 1) 18 1) := h.of ((((EqR.rf μ).Pl).I (by decide)).I (by decide)) rfl rfl rfl rfl rfl rfl rfl rfl rfl rfl
/-- the numbers and rows of the reference when a frame is piled -/
theorem mPl_gI (μ : S5) (k n r : Int32) {j : Nat} (h1 : ¬ j = 16) (h2 : ¬ j = 18) (h3 : ¬ j = 19) : gI (pI (pI (mPl μ k n r) 19 1) 18 1) j = gI μ j := by
  unfold mPl
  rw [gI_pI, if_neg h2, gI_pI, if_neg h3, gI_pI, if_neg h1]
  rfl
theorem mPl_16 (μ : S5) (k n r : Int32) : gI (pI (pI (mPl μ k n r) 19 1) 18 1) 16 = gI μ 16 + 1 := rfl
theorem mPl_A (μ : S5) (k n r : Int32) {j : Nat} (x : Int32) (h : j ≤ 13 ∨ j = 18) : xA (pI (pI (mPl μ k n r) 19 1) 18 1) j x = xA μ j x := by
  unfold mPl
  simp only [xA_pI, xA_pA]
  rw [if_neg (by omega), if_neg (by omega), if_neg (by omega), if_neg (by omega)]
theorem mPl_B (μ : S5) (k n r : Int32) (j : Nat) (x : Int32) : xB (pI (pI (mPl μ k n r) 19 1) 18 1) j x = xB μ j x := rfl
theorem mPl_top (μ : S5) (k n r : Int32) : xA (pI (pI (mPl μ k n r) 19 1) 18 1) 14 (gI μ 16) = k ∧ xA (pI (pI (mPl μ k n r) 19 1) 18 1) 15 (gI μ 16) = n := by
  simp [mPl, xA_pI, xA_pA]
theorem mPl_PF (μ : S5) (k n r : Int32) : PF μ (pI (pI (mPl μ k n r) 19 1) 18 1) := by
  refine ⟨fun i p q => ?_, fun i p q => rfl⟩
  have := i_ne p q
  simp [mPl, xA_pI, xA_pA, this]
theorem a9_gI (μ : S5) (v w : Int32) (j : Nat) : gI (pA μ 9 v w) j = gI μ j := rfl
theorem a9_A (μ : S5) (v w : Int32) {j : Nat} (x : Int32) (h : ¬ j = 9) : xA (pA μ 9 v w) j x = xA μ j x := by rw [xA_pA, if_neg (fun q => h q.1)]
theorem a9_9 (μ : S5) {v : Int32} (w : Int32) {x : Int32} (h0 : 0 ≤ x) (h1 : x < v) : xA (pA μ 9 v w) 9 x = xA μ 9 x := by rw [xA_pA, if_neg (fun q => i_ne h0 h1 q.2)]
theorem b1_go {σ0 μ0 σ1 μ1 : S5} {E : S5 → Option (Int32 × S5)} {k : Nat} {v pl : Int32} {g cc fs fu fn ft : Nat → Int32} (hE : ESp E (gI σ0 14 + 1)) (hs0 : Sim σ0 μ0) (hz : Pz 0 σ0 μ0) (h : LB σ0 μ0 σ1 μ1 k v pl g cc fs fu fn ft) (h3 : ¬ gI σ1 17 = 3) : ∃ ν : S5, bd (f_X12_parameters v 0 μ1) (fun _ ρ => mB2 v ρ) = some ((), ν) ∧ (BF μ0 ν (bC E (gI σ0 9 * 5 + nI k) σ1) ∨ (gI ν 18 = 1 ∧ gI ν 19 = 1 ∧ Qt (bC E (gI σ0 9 * 5 + nI k) σ1) (BOut σ0 μ0 σ1 k v cc ν))) := by
  have hb0 := hs0.2.2
  unfold Bg at hb0
  obtain ⟨h160, h161, h170, h171⟩ := hz.rg hb0.2.2.2.2.2.2.2.1 (by decide)
  have hl := h
  obtain ⟨l1, lF, ⟨x14, x15, x16, x17, x9, q9, q9'⟩, ⟨p14, p15⟩, ly, lz, ⟨n4, ln⟩, ⟨w2, w5, w6, w10⟩, lRG, lG⟩ := hl
  obtain ⟨fE, fR, fC, fM, fP, f12, f8, f9, f10, fm9, fm10, f18⟩ := lF
  have hb1 := l1.2.2
  have hp1 := l1.p3
  have hpn1 := pn_3 l1
  unfold Bg at hb1
  have hv : 0 ≤ v ∧ v < 3200 := by grind
  have h16 : 0 ≤ gI μ1 16 ∧ gI μ1 16 < 3100 := by rw [x16]; grind
  have h17 : 0 ≤ gI μ1 17 ∧ gI μ1 17 < 3100 := by rw [x17]; grind
  have w3 := l1.1.2.2.1
  have w4 := l1.1.2.2.2.1
  have hm3 : ¬ gI μ1 4 = 3 := by rw [w3]; intro q; exact h3 ((kMd_at 3 (by decide +kernel) w4).mp (by rw [q]; decide))
  have hpar : f_X12_parameters v 0 μ1 = some ((), pA μ1 9 v (gI μ1 10)) := by
    unfold f_X12_parameters
    obtain ⟨m, hm⟩ := FU_s
    rw [gd3200 hv.1 hv.2, hm]
    exact m_pmX (μ := pA μ1 9 v (gI μ1 10)) m hb1.2.1 hm3 hv.1 hv.2 (by rw [a9_A _ _ _ _ (by decide), w10]; decide)
  have hS2 : Sim σ1 (pA μ1 9 v (gI μ1 10)) := l1.of ((EqR.rf μ1).A (by decide)) rfl rfl rfl rfl rfl rfl rfl rfl rfl rfl
  rw [hpar, bd_of, mB2_go (μ := pA μ1 9 v (gI μ1 10)) hb1.2.1, a9_gI]
  unfold bC
  by_cases h61 : gI σ1 17 = 61
  · have hm61 : gI μ1 4 = 161 := by rw [w3, h61]; decide
    obtain ⟨e, kc, p, vv, z, vm, zm, a1, a2, a3, a4, a5⟩ := sim_adv hS2 (by rw [h61]; decide)
    have e16 : gI (wdM (pA μ1 9 v (gI μ1 10)) e (kMd kc) p vm zm) 16 = gI μ1 16 := (gI_wdM (by decide)).trans rfl
    have hex : f_X5_expect 61 σ1 = some ((), wdC σ1 e kc p vv z) := by
      unfold f_X5_expect
      rw [if_pos h61, a1, bd_of]
    have hν : bd (f_X12_next (pA μ1 9 v (gI μ1 10))) (fun _ τ2 => bd (f_X12_pile 2 v 0 τ2) (fun _ τ3 => some ((), pI (pI τ3 19 1) 18 1))) = some ((), pI (pI (mPl (wdM (pA μ1 9 v (gI μ1 10)) e (kMd kc) p vm zm) 2 v 0) 19 1) 18 1) := by
      rw [a2, bd_of, m_pile (μ := wdM (pA μ1 9 v (gI μ1 10)) e (kMd kc) p vm zm) 2 v 0 (by rw [e16]; exact h16.1) (by rw [e16]; grind), bd_of]
      rfl
    rw [if_pos hm61, hν, hex, bd_of]
    refine ⟨_, rfl, Or.inr ⟨rfl, rfl, ?_⟩⟩
    have hH : BH1 σ1 μ1 (wdC σ1 e kc p vv z) (pI (pI (mPl (wdM (pA μ1 9 v (gI μ1 10)) e (kMd kc) p vm zm) 2 v 0) 19 1) 18 1) v := by
      have MI : ∀ j, (j < 3 ∨ 6 < j) → gI (wdM (pA μ1 9 v (gI μ1 10)) e (kMd kc) p vm zm) j = gI μ1 j := fun j w => (gI_wdM w).trans rfl
      have MA : ∀ j x, xA (wdM (pA μ1 9 v (gI μ1 10)) e (kMd kc) p vm zm) j x = xA (pA μ1 9 v (gI μ1 10)) j x := fun j x => xA_wdM ..
      have MB : ∀ j x, xB (wdM (pA μ1 9 v (gI μ1 10)) e (kMd kc) p vm zm) j x = xB μ1 j x := fun j x => (xB_wdM ..).trans rfl
      have ME : EqR μ1 (wdM (pA μ1 9 v (gI μ1 10)) e (kMd kc) p vm zm) := ((EqR.rf μ1).A (by decide)).w
      have tp := mPl_top (wdM (pA μ1 9 v (gI μ1 10)) e (kMd kc) p vm zm) 2 v 0
      rw [e16] at tp
      have hPF : PF μ1 (wdM (pA μ1 9 v (gI μ1 10)) e (kMd kc) p vm zm) := by
        refine ⟨fun i _ _ => ?_, fun i _ _ => ?_⟩
        · rw [MA, MA, MA, MA, a9_A _ _ _ _ (by decide), a9_A _ _ _ _ (by decide), a9_A _ _ _ _ (by decide), a9_A _ _ _ _ (by decide)]
          exact ⟨rfl, rfl, rfl, rfl⟩
        · rw [MA, a9_A _ _ _ _ (by decide)]
      clear hν a2 hex a1
      generalize wdM (pA μ1 9 v (gI μ1 10)) e (kMd kc) p vm zm = N at *
      refine ⟨a3.Pl, (EqE.rf σ1).w, ((ME.Pl).I (by decide)).I (by decide), (FrC.rf σ1).w, FrM.pI9 (fun i p q => ?_) (fun i p q => (mPl_B ..).trans (MB _ _)), hPF.tr (mPl_PF N 2 v 0) (by rw [e16]; exact Int32.le_refl _) (by rw [MI 17 (by decide)]; exact Int32.le_refl _), fun j w => gI_wdC (Or.inl w), by rw [p_wdC]; exact a4, fun j w h1 h2 h3 => (mPl_gI _ _ _ _ h1 h2 h3).trans (MI j (Or.inr w)), (mPl_16 ..).trans (by rw [e16]), rfl, rfl, ⟨?_, ?_, ?_, (mPl_B ..).trans (MB _ _)⟩, tp.1, tp.2⟩
      · rw [mPl_A _ _ _ _ _ (by decide), mPl_A _ _ _ _ _ (by decide), mPl_A _ _ _ _ _ (by decide), mPl_A _ _ _ _ _ (by decide), mPl_A _ _ _ _ _ (by decide), mPl_A _ _ _ _ _ (by decide), mPl_A _ _ _ _ _ (by decide), mPl_A _ _ _ _ _ (by decide), mPl_A _ _ _ _ _ (by decide), mPl_B, MA, MA, MA, MA, MA, MA, MA, MA, MA, MB, a9_A _ _ _ _ (by decide), a9_A _ _ _ _ (by decide), a9_A _ _ _ _ (by decide), a9_A _ _ _ _ (by decide), a9_A _ _ _ _ (by decide), a9_A _ _ _ _ (by decide), a9_A _ _ _ _ (by decide), a9_9 _ _ p q, a9_A _ _ _ _ (by decide)]
        exact ⟨rfl, rfl, rfl, rfl, rfl, rfl, rfl, rfl, rfl, rfl⟩
      · rw [mPl_A _ _ _ _ _ (by decide), MA, a9_A _ _ _ _ (by decide)]
      · rw [mPl_A _ _ _ _ _ (by decide), MA, a9_A _ _ _ _ (by decide)]
      · rw [mPl_A _ _ _ _ _ (by decide), MA, a9_A _ _ _ _ (by decide)]
    clear hν hex a1 a2 a3
    generalize wdC σ1 e kc p vv z = σ2 at *
    generalize pI (pI (mPl (wdM (pA μ1 9 v (gI μ1 10)) e (kMd kc) p vm zm) 2 v 0) 19 1) 18 1 = N at *
    have hH' := hH
    obtain ⟨NS, SE, NE, SC, NM', NP, SI, S18, NI, N16, N18, N19, ⟨N2, N5, N10, N0⟩, t14, t15⟩ := hH'
    have n16 : gI N 16 = gI μ0 16 + 1 + 1 := by rw [N16, x16]
    have n17 : gI N 17 = gI μ0 17 := (NI 17 (by decide) (by decide) (by decide) (by decide)).trans x17
    have hpn2 : pn σ1 + 1 ≤ pn σ2 := pn_lt hp1.1 S18
    have hIn := hE.2 σ2 N NS (by rw [N19]; decide) (by rw [N18]; decide) (by
      have i16 := iv_a1 N16 h16.1 (by grind)
      have i16' := iv_a1 x16 (by grind) (by grind)
      have i17 := iv_eq n17
      have i14 := iv_eq (SI 14 (by decide))
      have i14' := iv_a1 x14 (by grind) (by grind)
      unfold Pz at *
      omega) (by rw [SI 14 (by decide), x14]; exact Int32.le_refl _) (by rw [N16, show gI μ1 16 + 1 - 1 = gI μ1 16 by grind, t14]; decide)
    refine Qt.bd hIn (fun c σ7 ow => ?_)
    unfold f_X5_readBinding_b52
    rcases ow with ⟨μ9, n9, kk, o1, o2, o3, o4, o5⟩ | ⟨f, pp, mm, kk, o1, o2, o3, o4, o5⟩
    · have hc1 := o3.1
      have hb7 := hc1.2.2
      unfold Bg at hb7
      have hLM := b1_mid h hH o3 (fb_of μ9 v n9) hv.1 h16.1 h16.2 h17.1 h17.2
      have hLI := hLM.li hs0 h (by grind) (by grind) h170
      obtain ⟨u1, u2, u3, u4, u5⟩ := o3.2.2.1
      have u41 := u4 (gI μ0 16 + 1) (by grind) (by rw [n16]; grind)
      have u40 := u4 (gI μ0 16) (by grind) (by rw [n16]; grind)
      have np := NP.1 (gI μ0 16) (by grind) (by rw [x16]; grind)
      rw [c_addN (σ := σ7) 10 (gI σ0 9 * 5 + nI k) 0 c (by grind) (by grind), bd_of]
      refine Qt.so (Or.inl ⟨μ9, n9, kk, _, _, _, _, _, ?_, o2, ⟨hb7.2.1, o3.2.1, o4, ?_, by rw [u1, n16], by rw [u2, n17], ?_, ?_, ?_, ?_⟩, ⟨by grind, by grind⟩, hLI⟩)
      · have hq : pn (cN σ7 10 (gI σ0 9 * 5 + nI k) 0 c) = pn σ7 := rfl
        omega
      · rw [hc1.1.2.2.1, rk_eq hc1.1.2.2.2.1, o5]; decide
      · rw [u41.1, ← x16]; exact t14
      · rw [u41.2.1, ← x16]; exact t15
      · rw [u40.2.1, np.2.1]; exact p15
      · rw [← n17]; exact u3
    · rw [bd_eta']
      exact (dm_add9 _ _ _ _ o3).mono (fun c3 σ8 w => Or.inr ⟨f, pp, mm, kk, by omega, o2.base (by rw [NI 12 (by decide) (by decide) (by decide) (by decide), NI 11 (by decide) (by decide) (by decide) (by decide)]; exact f12) (fR.tr NE), w.1, w.2.1, w.2.2⟩)
  · have hm61 : ¬ gI μ1 4 = 161 := by rw [w3]; intro q; exact h61 ((kMd_at 61 (by decide +kernel) w4).mp (by rw [q]; decide))
    obtain ⟨τ, g1, g2⟩ := c_ref l1 (k := 1) (by decide)
    have hex : f_X5_expect 61 σ1 = some ((), τ) := by
      unfold f_X5_expect
      rw [if_neg h61, bd_eta, g1]
    rw [if_neg hm61, bd_of, m_pile (μ := pI (pI (pA μ1 9 v (gI μ1 10)) 7 1) 8 (gI (pA μ1 9 v (gI μ1 10)) 5)) 2 v 0 h16.1 (by show gI μ1 16 < 3200; grind), bd_of, hex, bd_of, hE.1 _ _ _ _ g2, bd_of]
    refine ⟨_, rfl, Or.inl ⟨1, gI σ1 18, gI σ1 13, by decide, rfl, l1.1.2.2.2.2.1.symm, hb1.2.2.1.symm, f12, ?_, ?_⟩⟩
    · exact (((((fR.A (by decide)).I (by decide)).I (by decide)).pl).I (by decide)).I (by decide)
    · unfold f_X5_readBinding_b52
      rw [bd_eta']
      exact dm_add9 _ _ _ _ (Or.inl g2)
