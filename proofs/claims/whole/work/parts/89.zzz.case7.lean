/-- an alternative whose pattern is a number or _ -/
theorem al_non {σ0 μ0 σ1 μ1 : S5} {E : S5 → Option (Int32 × S5)} {k : Nat} {c0 s1 u1 a1 v ck con num : Int32} {g cc fs fu fn ft : Nat → Int32} (hE : ESp E (gI σ0 14 + 1)) (hs0 : Sim σ0 μ0) (hz : Pz 0 σ0 μ0) (h : CB σ0 μ0 σ1 μ1 c0 s1 u1 a1 k v ck con num g cc fs fu fn ft) (hck : ¬ ck = 4) (cr : Int32) : ∃ ν : S5, f_X12_branch_L215 FU cr v 0 μ1 = some ((), ν) ∧ (BF μ0 ν (f_X5_readAlternative_b163 E ck con num (gI σ1 15) σ1) ∨ (gI ν 18 = 1 ∧ gI ν 19 = 1 ∧ Qt (f_X5_readAlternative_b163 E ck con num (gI σ1 15) σ1) (AOut σ0 μ0 σ1 c0 s1 u1 a1 k v cc ν))) := by
  have hb0 := hs0.2.2
  unfold Bg at hb0
  obtain ⟨h160, h161, h170, h171⟩ := hz.rg hb0.2.2.2.2.2.2.2.1 (by decide)
  have hl := h
  obtain ⟨l1, ⟨fE, fR, fC, fM, fP, f12, f8, f9, f10, fm9, fm10, f18⟩, ⟨x14, x15, x16, x17, x9⟩, ⟨-, -, -, -, r5, r6, -, -⟩, ⟨p14, p15⟩, -, -, -, ⟨w2, w5, w10, w9⟩, hPK, -, lG⟩ := hl
  have hb1 := l1.2.2
  unfold Bg at hb1
  have hv : 0 ≤ v ∧ v < 3200 := ⟨(rv_of (by grind) (by grind) r5 r6).1, by grind⟩
  have h16 := r16_of x16 h160 h161
  clear r5 r6
  have h8 : ¬ xA μ1 8 v = 0 := by
    rcases hPK with q | q | q
    · exact absurd q.1 hck
    · rw [q.2.2.1]; decide
    · rw [q.2.2]; decide
  have hL : f_X12_branch_L215 FU cr v 0 μ1 = f_X12_branch_b316 v μ1 := by
    obtain ⟨m, hm⟩ := FU_s
    rw [hm]
    show f_X12_branch_B215 _ _ _ _ _ = _
    unfold f_X12_branch_B215
    rw [gd3200 hv.1 hv.2, if_neg h8]
  have w3 := l1.1.2.2.1
  have w4 := l1.1.2.2.2.1
  rw [hL, c_163, m_316 hb1.2.1]
  by_cases h128 : gI σ1 17 = 128
  · have hm20 : gI μ1 4 = 20 := by rw [w3, h128]; decide
    obtain ⟨e, kc, p, vv, z, vm, zm, a1', a2, a3, a4, a5⟩ := sim_adv l1 (by rw [h128]; decide)
    have hex : f_X5_expect 128 σ1 = some ((), wdC σ1 e kc p vv z) := by
      unfold f_X5_expect
      rw [if_pos h128, a1', bd_of]
    have r16' : gI (wdM μ1 e (kMd kc) p vm zm) 16 = gI μ1 16 := gI_wdM (by decide)
    have hν : bd (f_X12_next μ1) (fun _ τ2 => bd (f_X12_pile 6 v 0 τ2) (fun _ τ3 => some ((), pI (pI τ3 19 1) 18 1))) = some ((), pI (pI (mPl (wdM μ1 e (kMd kc) p vm zm) 6 v 0) 19 1) 18 1) := by
      rw [a2, bd_of, m_pile (μ := wdM μ1 e (kMd kc) p vm zm) 6 v 0 (by rw [r16']; exact h16.1) (by rw [r16']; grind), bd_of]
      rfl
    have SI : ∀ j, (j < 16 ∨ 19 < j) → gI (wdC σ1 e kc p vv z) j = gI σ1 j := fun j w => gI_wdC w
    have hS6 : Sim (pI (wdC σ1 e kc p vv z) 15 (gI σ1 15)) (wdM μ1 e (kMd kc) p vm zm) := a3.h15 (by grind) (by rw [SI 9 (by decide)]; grind)
    have S18 : gI (wdC σ1 e kc p vv z) 18 = p := p_wdC
    have SE : EqE σ1 (wdC σ1 e kc p vv z) := (EqE.rf σ1).w
    have SC : FrC σ1 (wdC σ1 e kc p vv z) := (FrC.rf σ1).w
    have MI : ∀ j, (j < 3 ∨ 6 < j) → gI (wdM μ1 e (kMd kc) p vm zm) j = gI μ1 j := fun j w => gI_wdM w
    have MA : ∀ j x, xA (wdM μ1 e (kMd kc) p vm zm) j x = xA μ1 j x := fun j x => xA_wdM ..
    have MB : ∀ j x, xB (wdM μ1 e (kMd kc) p vm zm) j x = xB μ1 j x := fun j x => xB_wdM ..
    have ME : EqR μ1 (wdM μ1 e (kMd kc) p vm zm) := (EqR.rf μ1).w
    rw [if_pos hm20, hν, hex, bd_of]
    refine ⟨_, rfl, Or.inr ⟨rfl, rfl, ?_⟩⟩
    clear hν hex a1' a2 a3
    generalize wdC σ1 e kc p vv z = σ6 at *
    generalize wdM μ1 e (kMd kc) p vm zm = N at *
    have tp := mPl_top N 6 v 0
    rw [r16'] at tp
    have i18 : iv σ1 18 < iv σ6 18 := iv_lt (by rw [S18]; exact a4)
    have hM9 := mPl_gI N 6 v 0 (j := 9) (by decide) (by decide) (by decide)
    have hM10 := mPl_gI N 6 v 0 (j := 10) (by decide) (by decide) (by decide)
    have hAH : AH σ1 μ1 σ6 (pI (pI (mPl N 6 v 0) 19 1) 18 1) v (gI σ1 15) := by
      refine ⟨hS6.Pl, SE, ((ME.Pl).I (by decide)).I (by decide), SC, FrM.pI9 (fun i p q => ?_) (fun i p q => (mPl_B ..).trans (MB _ _)), PF.tr ⟨fun i p q => ⟨MA _ _, MA _ _, MA _ _, MA _ _⟩, fun i p q => MA _ _⟩ (mPl_PF N 6 v 0) (by rw [r16']; exact Int32.le_refl _) (by rw [MI 17 (by decide)]; exact Int32.le_refl _), ?_, ⟨SI 8 (by decide), by rw [SI 9 (by decide)]; exact Int32.le_refl _, SI 10 (by decide), SI 14 (by decide), SI 15 (by decide)⟩, ⟨hM9.trans ((MI 9 (by decide)).trans x9), by rw [hM10, MI 10 (by decide)]; exact Int32.le_refl _, (mPl_16 ..).trans (by rw [r16']), (mPl_gI _ _ _ _ (by decide) (by decide) (by decide)).trans (MI 17 (by decide)), rfl, rfl⟩, ⟨?_, ?_, ?_, ?_⟩, tp, by omega, ?_⟩
      · rw [mPl_A _ _ _ _ _ (by decide), mPl_A _ _ _ _ _ (by decide), mPl_A _ _ _ _ _ (by decide), mPl_A _ _ _ _ _ (by decide), mPl_A _ _ _ _ _ (by decide), mPl_A _ _ _ _ _ (by decide), mPl_A _ _ _ _ _ (by decide), mPl_A _ _ _ _ _ (by decide), mPl_A _ _ _ _ _ (by decide), mPl_B, MA, MA, MA, MA, MA, MA, MA, MA, MA, MB]
        exact ⟨rfl, rfl, rfl, rfl, rfl, rfl, rfl, rfl, rfl, rfl⟩
      · rw [mPl_gI _ _ _ _ (by decide) (by decide) (by decide), mPl_gI _ _ _ _ (by decide) (by decide) (by decide), MI 12 (by decide), MI 11 (by decide)]
      · rw [mPl_A _ _ _ _ _ (by decide), MA]; exact w2
      · rw [mPl_A _ _ _ _ _ (by decide), MA]; exact w5
      · rw [mPl_A _ _ _ _ _ (by decide), MA]
      · rw [mPl_A _ _ _ _ _ (by decide), MA]
      · have i8 := iv_eq (SI 8 (by decide))
        have i9 := iv_eq (SI 9 (by decide))
        have i10 := iv_eq (SI 10 (by decide))
        have i13 := iv_eq (SI 13 (by decide))
        have m9 := iv_eq (hM9.trans (MI 9 (by decide)))
        have m10 := iv_eq (hM10.trans (MI 10 (by decide)))
        unfold Gm
        omega
    exact al_E hE hs0 hz h hAH (Or.inr ⟨hck, SI 9 (by decide), rfl, by rw [mPl_A _ _ _ _ _ (by decide), MA]; exact w10, SI 13 (by decide)⟩)
  · have hm20 : ¬ gI μ1 4 = 20 := by rw [w3]; intro q; exact h128 ((kMd_at 128 (by decide +kernel) w4).mp (by rw [q]; decide))
    obtain ⟨τ, g1, g2⟩ := c_ref l1 (k := 1) (by decide)
    have hex : f_X5_expect 128 σ1 = some ((), τ) := by
      unfold f_X5_expect
      rw [if_neg h128, bd_eta, g1]
    rw [if_neg hm20, bd_of, m_pile (μ := pI (pI μ1 7 1) 8 (gI μ1 5)) 6 v 0 h16.1 (by show gI μ1 16 < 3200; grind), bd_of, hex, bd_of]
    refine ⟨_, rfl, Or.inl ⟨1, gI σ1 18, gI σ1 13, by decide, rfl, l1.1.2.2.2.2.1.symm, hb1.2.2.1.symm, f12, ?_, st_aC hE.1 abE g2 (by grind) (by grind)⟩⟩
    exact ((((fR.I (by decide)).I (by decide)).pl).I (by decide)).I (by decide)
/-- an alternative, from its first word on -/
theorem al_go {σ0 μ0 σ μ : S5} {E : S5 → Option (Int32 × S5)} {k : Nat} {c0 s1 u1 a1 : Int32} {g cc fs fu fn ft : Nat → Int32} (hE : ESp E (gI σ0 14 + 1)) (hs0 : Sim σ0 μ0) (hz : Pz 0 σ0 μ0) (h : CI σ0 μ0 σ μ c0 s1 u1 a1 k g cc fs fu fn ft) : ∃ ν : S5, f_X12_branch (gI μ0 9) μ = some ((), ν) ∧ (BF μ0 ν (f_X5_readAlternative E (nI k) σ) ∨ (gI ν 18 = 1 ∧ gI ν 19 = 1 ∧ ∃ v : Int32, 0 ≤ v ∧ v < 3200 ∧ Qt (f_X5_readAlternative E (nI k) σ) (AOut σ0 μ0 σ c0 s1 u1 a1 k v cc ν))) := by
  have hb0 := hs0.2.2
  unfold Bg at hb0
  obtain ⟨h160, h161, h170, h171⟩ := hz.rg hb0.2.2.2.2.2.2.2.1 (by decide)
  have hl := h
  obtain ⟨l1, ⟨fE, fR, fC, fM, fP, f12, f8, f9, f10, fm9, fm10, f18⟩, ⟨x14, x15, x16, x17⟩, -, -, -, -, -, -, -, -⟩ := hl
  have hb := l1.2.2
  unfold Bg at hb
  rcases al_head E hs0 h with ⟨f, ck, con, τ, e1, e2, e3, e4⟩ | ⟨ck, con, cr, hk7, e1, e2, e3, e4⟩
  · refine ⟨_, e4, Or.inl ⟨f, gI σ 18, gI σ 13, e2.2.1, rfl, l1.1.2.2.2.2.1.symm, hb.2.2.1.symm, f12, (fR.I (by decide)).I (by decide), ?_⟩⟩
    rw [e1]
    exact st_alt85 hE.1 abE e2 e3
  · obtain ⟨σ1, μ1, k1, k2, k3, hCB⟩ := ah_one hs0 h (by grind) hk7 e3 e4
    have hpn : pn σ ≤ pn σ1 := pn_le (by grind)
    have hx15 : gI σ 15 = gI σ1 15 := x15.trans hCB.2.2.1.2.1.symm
    rw [e1, e2, k2]
    unfold f_X5_readAlternative_b85
    rw [k1, bd_of, hx15]
    rcases e4 with ⟨q1, q2, q3, q4⟩ | ⟨q1, q2, q3⟩ | ⟨q1, q2, q3⟩
    · subst q1 q2
      rw [if_neg (by intro w; rw [w] at q3; exact absurd q3 (by decide))]
      obtain ⟨ν, y1, y2⟩ := al_con hE hs0 hz hCB
      refine ⟨ν, y1, ?_⟩
      rcases y2 with y2 | ⟨a, b, c⟩
      · exact Or.inl y2
      · exact Or.inr ⟨a, b, gI μ 9, by grind, by grind, c.mono (fun r τ w => w.wk hpn)⟩
    · rw [if_pos q2]
      obtain ⟨ν, y1, y2⟩ := al_non hE hs0 hz hCB (by rw [q1]; decide) cr
      refine ⟨ν, y1, ?_⟩
      rcases y2 with y2 | ⟨a, b, c⟩
      · exact Or.inl y2
      · exact Or.inr ⟨a, b, gI μ 9, by grind, by grind, c.mono (fun r τ w => w.wk hpn)⟩
    · rw [if_pos q2]
      obtain ⟨ν, y1, y2⟩ := al_non hE hs0 hz hCB (by rw [q1]; decide) cr
      refine ⟨ν, y1, ?_⟩
      rcases y2 with y2 | ⟨a, b, c⟩
      · exact Or.inl y2
      · exact Or.inr ⟨a, b, gI μ 9, by grind, by grind, c.mono (fun r τ w => w.wk hpn)⟩
/-- the next word changes nothing of what has been read -/
theorem CI.go {σ0 μ0 σ μ σ' μ' : S5} {c0 s1 u1 a1 : Int32} {k : Nat} {g cc fs fu fn ft : Nat → Int32} (h : CI σ0 μ0 σ μ c0 s1 u1 a1 k g cc fs fu fn ft) (hS : Sim σ' μ') (SI : ∀ j, j < 16 → gI σ' j = gI σ j) (S18 : gI σ 18 < gI σ' 18) (MI : ∀ j, 6 < j → ¬ j = 18 → ¬ j = 19 → gI μ' j = gI μ j) (SA : ∀ j x, xA σ' j x = xA σ j x) (SB : ∀ j x, xB σ' j x = xB σ j x) (MA : ∀ j x, xA μ' j x = xA μ j x) (MB : ∀ j x, xB μ' j x = xB μ j x) (hE : EqE σ σ') (hR : EqR μ μ') : CI σ0 μ0 σ' μ' c0 s1 u1 a1 k g cc fs fu fn ft := by
  obtain ⟨l1, ⟨fE, fR, fC, fM, fP, f12, f8, f9, f10, fm9, fm10, f18⟩, ⟨x14, x15, x16, x17⟩, ⟨r1, r2, r3, r4, r5, r6, r7, r8⟩, ⟨p14, p15⟩, ⟨z2, z5, z10, z3, z4⟩, ⟨a17, aT⟩, hk8, hRG, hG, hG2⟩ := h
  have M9 := MI 9 (by decide) (by decide) (by decide)
  have M10 := MI 10 (by decide) (by decide) (by decide)
  have i8 := iv_eq (SI 8 (by decide))
  have i9 := iv_eq (SI 9 (by decide))
  have i10 := iv_eq (SI 10 (by decide))
  have i13 := iv_eq (SI 13 (by decide))
  have i18 := iv_lt S18
  have m9 := iv_eq M9
  have m10 := iv_eq M10
  have hAg : ∀ s s' u u' a b t n c, Agr σ σ' μ μ' s s' u u' a b t n c := fun s s' u u' a b t n c => ⟨fun x _ _ => ⟨SA _ _, SA _ _, SA _ _, SA _ _⟩, fun x _ _ => SA _ _, fun x _ _ => ⟨SA _ _, SA _ _, SA _ _, SA _ _⟩, fun x _ _ => SA _ _, fun x _ _ => SB _ _, fun x _ _ => ⟨SA _ _, SA _ _, SA _ _, SB _ _⟩, fun x _ _ => ⟨MA _ _, MA _ _, MA _ _, MA _ _, MA _ _, MA _ _, MA _ _, MA _ _, MB _ _⟩, fun x _ _ _ => MA _ _, fun x _ _ => MB _ _, by rw [M10]; exact Int32.le_refl _, hE.1 4 (by decide), fun x _ _ => SA _ _⟩
  refine ⟨hS, ⟨fE.tr hE, fR.tr hR, ?_, ?_, ?_, ?_, by rw [SI 8 (by decide)]; exact f8, by rw [SI 9 (by decide)]; exact f9, by rw [SI 10 (by decide)]; exact f10, by rw [M9]; exact fm9, by rw [M10]; exact fm10, by grind⟩, ⟨by rw [SI 14 (by decide)]; exact x14, by rw [SI 15 (by decide)]; exact x15, by rw [MI 16 (by decide) (by decide) (by decide)]; exact x16, by rw [MI 17 (by decide) (by decide) (by decide)]; exact x17⟩, ⟨r1, by rw [SI 9 (by decide)]; exact r2, r3, by rw [SI 10 (by decide)]; exact r4, r5, by rw [M9]; exact r6, r7, by rw [SI 8 (by decide)]; exact r8⟩, ⟨by rw [MA]; exact p14, by rw [MA]; exact p15⟩, ⟨by rw [MA]; exact z2, by rw [MA]; exact z5, by rw [MA]; exact z10, by rw [MA]; exact z3, fun w => by rw [MA]; exact z4 w⟩, ⟨by rw [SA]; exact a17, by rw [MA]; exact aT.st (hAg _ _ _ _ _ _ _ _ _)⟩, hk8, ?_, ?_, by omega⟩
  · unfold FrC at *
    simp only [SA, SB]
    exact fC
  · unfold FrM at *
    simp only [MA, MB]
    exact fM
  · unfold PF at *
    simp only [MA]
    exact fP
  · rw [MI 12 (by decide) (by decide) (by decide), MI 11 (by decide) (by decide) (by decide)]; exact f12
  · rw [SI 9 (by decide), SI 10 (by decide), M9, SI 8 (by decide)]
    refine hRG.st (QA_st _) (fun i hk => hAg _ _ _ _ _ _ _ _ _) (fun i hk => SA _ _) (fun i hk => MA _ _) (fun hk => ?_)
    obtain ⟨d1, hbi, d2, d3, d4, d5, d6, d7, d8, d9, d10, d11, d12, d13⟩ := hRG.2.2.2.2.2.2.2.2 (k - 1) (by omega)
    rw [if_neg (by omega)] at d12
    rw [MA]; exact d12
  · unfold Gm at *
    omega
theorem CI.w {σ0 μ0 σ μ : S5} {c0 s1 u1 a1 : Int32} {k : Nat} {g cc fs fu fn ft : Nat → Int32} {e kc p v vm : Int32} {z zm : Int64} (h : CI σ0 μ0 σ μ c0 s1 u1 a1 k g cc fs fu fn ft) (hS : Sim (wdC σ e kc p v z) (wdM μ e (kMd kc) p vm zm)) (hp : gI σ 18 < p) : CI σ0 μ0 (wdC σ e kc p v z) (wdM μ e (kMd kc) p vm zm) c0 s1 u1 a1 k g cc fs fu fn ft :=
  h.go hS (fun j w => gI_wdC (Or.inl w)) (by rw [p_wdC]; exact hp) (fun j w _ _ => gI_wdM (Or.inr w)) (fun j x => xA_wdC ..) (fun j x => xB_wdC ..) (fun j x => xA_wdM ..) (fun j x => xB_wdM ..) ((EqE.rf σ).w) ((EqR.rf μ).w)
