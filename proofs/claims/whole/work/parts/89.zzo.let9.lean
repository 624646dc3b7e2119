theorem BOut.wk {σ0 μ0 σ σ1 ν σ' : S5} {k : Nat} {v c : Int32} {cc : Nat → Int32} (h : BOut σ0 μ0 σ1 k v cc ν c σ') (hp : pn σ ≤ pn σ1) : BOut σ0 μ0 σ k v cc ν c σ' := by
  rcases h with ⟨μ9, n9, kk, g', fs', fu', fn', ft', o1, o2⟩ | ⟨f, p, m, kk, o1, o2⟩
  · exact Or.inl ⟨μ9, n9, kk, g', fs', fu', fn', ft', by omega, o2⟩
  · exact Or.inr ⟨f, p, m, kk, by omega, o2⟩
/-- a binding, from its first word on -/
theorem bi_go {σ0 μ0 σ μ : S5} {E : S5 → Option (Int32 × S5)} {k : Nat} {g cc fs fu fn ft : Nat → Int32} (hE : ESp E (gI σ0 14 + 1)) (hs0 : Sim σ0 μ0) (hz : Pz 0 σ0 μ0) (h : LI σ0 μ0 σ μ k g cc fs fu fn ft) : ∃ ν : S5, f_X12_binding (gI μ0 9) μ = some ((), ν) ∧ (BF μ0 ν (f_X5_readBinding E σ) ∨ (gI ν 18 = 1 ∧ gI ν 19 = 1 ∧ ∃ v : Int32, 0 ≤ v ∧ v < 3200 ∧ Qt (f_X5_readBinding E σ) (BOut σ0 μ0 σ k v cc ν))) := by
  have hb0 := hs0.2.2
  unfold Bg at hb0
  obtain ⟨h160, h161, h170, h171⟩ := hz.rg hb0.2.2.2.2.2.2.2.1 (by decide)
  have hl := h
  obtain ⟨l1, lF, ⟨x14, x15, x16, x17, x9, q9⟩, lp, ly, lz, hBN, hRG, hG, hG2⟩ := hl
  obtain ⟨fE, fR, fC, fM, fP, f12, f8, f9, f10, fm9, fm10, f18⟩ := lF
  have hb := l1.2.2
  unfold Bg at hb
  unfold f_X5_readBinding
  rw [x15]
  rcases bn_go l1 hBN (by grind) (by grind) (by grind) (by grind) with ⟨f, τ, e1, e2, e3⟩ | ⟨h3, hk4, hd, e⟩
  · refine ⟨_, e3, Or.inl ⟨f, gI σ 18, gI σ 13, e2.2.1, rfl, l1.1.2.2.2.2.1.symm, hb.2.2.1.symm, f12, (fR.I (by decide)).I (by decide), ?_⟩⟩
    rw [e1, bd_of, if_neg (by rw [e2.1]; decide), st_expect 61 (by decide) e2, bd_of, hE.1 _ _ _ _ e2, bd_of]
    unfold f_X5_readBinding_b52
    rw [bd_eta']
    exact dm_add9 _ _ _ _ (Or.inl e2)
  · obtain ⟨σ1, μ1, k1, k2, k3, k4, k5, hLB⟩ := bh_one hs0 h (by grind) h3 hk4 hd
    have hpn : pn σ ≤ pn σ1 := pn_le (by grind)
    rw [e, k2, k1, bd_of]
    by_cases c3 : gI σ1 17 = 3
    · rw [if_pos c3]
      obtain ⟨ν, e1, e2⟩ := b2_go hE hs0 hz hLB c3
      refine ⟨ν, e1, ?_⟩
      rcases e2 with e2 | ⟨a, b, c⟩
      · exact Or.inl e2
      · exact Or.inr ⟨a, b, gI μ 9, by grind, by grind, c.mono (fun r τ w => w.wk hpn)⟩
    · rw [if_neg c3]
      obtain ⟨ν, e1, e2⟩ := b1_go hE hs0 hz hLB c3
      refine ⟨ν, e1, ?_⟩
      rcases e2 with e2 | ⟨a, b, c⟩
      · exact Or.inl e2
      · exact Or.inr ⟨a, b, gI μ 9, by grind, by grind, c.mono (fun r τ w => w.wk hpn)⟩
/-- the next word changes nothing of what has been read -/
theorem LI.go {σ0 μ0 σ μ σ' μ' : S5} {k : Nat} {g cc fs fu fn ft : Nat → Int32} (h : LI σ0 μ0 σ μ k g cc fs fu fn ft) (hS : Sim σ' μ') (SI : ∀ j, j < 16 → gI σ' j = gI σ j) (S18 : gI σ 18 < gI σ' 18) (MI : ∀ j, 6 < j → ¬ j = 18 → ¬ j = 19 → gI μ' j = gI μ j) (SA : ∀ j x, xA σ' j x = xA σ j x) (SB : ∀ j x, xB σ' j x = xB σ j x) (MA : ∀ j x, xA μ' j x = xA μ j x) (MB : ∀ j x, xB μ' j x = xB μ j x) (hE : EqE σ σ') (hR : EqR μ μ') : LI σ0 μ0 σ' μ' k g cc fs fu fn ft := by
  obtain ⟨l1, lF, ⟨x14, x15, x16, x17, x9, q9⟩, ⟨p14, p15⟩, ⟨y1, y2⟩, ⟨z2, z5, z10, z4⟩, ⟨n5, n20, n3, nrow⟩, hRG, hG, hG2⟩ := h
  obtain ⟨fE, fR, fC, fM, fP, f12, f8, f9, f10, fm9, fm10, f18⟩ := lF
  have M9 := MI 9 (by decide) (by decide) (by decide)
  have M10 := MI 10 (by decide) (by decide) (by decide)
  have i8 := iv_eq (SI 8 (by decide))
  have i9 := iv_eq (SI 9 (by decide))
  have i10 := iv_eq (SI 10 (by decide))
  have i13 := iv_eq (SI 13 (by decide))
  have i18 := iv_lt S18
  have m9 := iv_eq M9
  have m10 := iv_eq M10
  refine ⟨hS, ⟨fE.tr hE, fR.tr hR, ?_, ?_, ?_, ?_, by rw [SI 8 (by decide)]; exact f8, by rw [SI 9 (by decide)]; exact f9, by rw [SI 10 (by decide)]; exact f10, by rw [M9]; exact fm9, by rw [M10]; exact fm10, by grind⟩, ⟨by rw [SI 14 (by decide)]; exact x14, by rw [SI 15 (by decide)]; exact x15, by rw [MI 16 (by decide) (by decide) (by decide)]; exact x16, by rw [MI 17 (by decide) (by decide) (by decide)]; exact x17, by rw [SI 9 (by decide)]; exact x9, by rw [M9]; exact q9⟩, ⟨by rw [MA]; exact p14, by rw [MA]; exact p15⟩, ⟨by rw [SA]; exact y1, by rw [SA]; exact y2⟩, ⟨by rw [MA]; exact z2, by rw [MA]; exact z5, by rw [MA]; exact z10, fun w => by rw [MA]; exact z4 w⟩, ⟨n5, by rw [SA]; exact n20, by rw [MA]; exact n3, fun i hi => by rw [MA, SB, MB]; exact nrow i hi⟩, ?_, ?_, by omega⟩
  · unfold FrC at *
    simp only [SA, SB]
    exact fC
  · unfold FrM at *
    simp only [MA, MB]
    exact fM
  · unfold PF at *
    simp only [MA]
    exact fP
  · rw [MI 12 (by decide) (by decide) (by decide), MI 11 (by decide) (by decide) (by decide)]; exact f12
  · rw [SI 9 (by decide), SI 10 (by decide), M9, SI 8 (by decide)]
    refine hRG.st (QBd_st _) (fun i hk => ⟨fun x _ _ => ⟨SA _ _, SA _ _, SA _ _, SA _ _⟩, fun x _ _ => SA _ _, fun x _ _ => ⟨SA _ _, SA _ _, SA _ _, SA _ _⟩, fun x _ _ => SA _ _, fun x _ _ => SB _ _, fun x _ _ => ⟨SA _ _, SA _ _, SA _ _, SB _ _⟩, fun x _ _ => ⟨MA _ _, MA _ _, MA _ _, MA _ _, MA _ _, MA _ _, MA _ _, MA _ _, MB _ _⟩, fun x _ _ _ => MA _ _, fun x _ _ => MB _ _, by rw [M10]; exact Int32.le_refl _, hE.1 4 (by decide), fun x _ _ => SA _ _⟩) (fun i hk => SA _ _) (fun i hk => MA _ _) (fun hk => ?_)
    obtain ⟨d1, hbi, d2, d3, d4, d5, d6, d7, d8, d9, d10, d11, d12, d13⟩ := hRG.2.2.2.2.2.2.2.2 (k - 1) (by omega)
    rw [if_neg (by omega)] at d12
    rw [MA]; exact d12
  · unfold Gm at *
    omega
theorem LI.w {σ0 μ0 σ μ : S5} {k : Nat} {g cc fs fu fn ft : Nat → Int32} {e kc p v vm : Int32} {z zm : Int64} (h : LI σ0 μ0 σ μ k g cc fs fu fn ft) (hS : Sim (wdC σ e kc p v z) (wdM μ e (kMd kc) p vm zm)) (hp : gI σ 18 < p) : LI σ0 μ0 (wdC σ e kc p v z) (wdM μ e (kMd kc) p vm zm) k g cc fs fu fn ft :=
  h.go hS (fun j w => gI_wdC (Or.inl w)) (by rw [p_wdC]; exact hp) (fun j w _ _ => gI_wdM (Or.inr w)) (fun j x => xA_wdC ..) (fun j x => xB_wdC ..) (fun j x => xA_wdM ..) (fun j x => xB_wdM ..) ((EqE.rf σ).w) ((EqR.rf μ).w)
theorem Sim.I19 {σ μ : S5} (h : Sim σ μ) : Sim σ (pI (pI μ 19 1) 18 1) := h.of (((EqR.rf μ).I (by decide)).I (by decide)) rfl rfl rfl rfl rfl rfl rfl rfl rfl rfl
theorem I19_gI (μ : S5) {j : Nat} (h2 : ¬ j = 18) (h3 : ¬ j = 19) : gI (pI (pI μ 19 1) 18 1) j = gI μ j := by rw [gI_pI, if_neg h2, gI_pI, if_neg h3]
theorem LI.w2 {σ0 μ0 σ μ : S5} {k : Nat} {g cc fs fu fn ft : Nat → Int32} {e kc p v vm : Int32} {z zm : Int64} (h : LI σ0 μ0 σ μ k g cc fs fu fn ft) (hS : Sim (wdC σ e kc p v z) (wdM μ e (kMd kc) p vm zm)) (hp : gI σ 18 < p) : LI σ0 μ0 (wdC σ e kc p v z) (pI (pI (wdM μ e (kMd kc) p vm zm) 19 1) 18 1) k g cc fs fu fn ft :=
  h.go hS.I19 (fun j w => gI_wdC (Or.inl w)) (by rw [p_wdC]; exact hp) (fun j w w1 w2 => (I19_gI _ w1 w2).trans (gI_wdM (Or.inr w))) (fun j x => xA_wdC ..) (fun j x => xB_wdC ..) (fun j x => (xA_pI ..).trans ((xA_pI ..).trans (xA_wdM ..))) (fun j x => (xB_pI ..).trans ((xB_pI ..).trans (xB_wdM ..))) ((EqE.rf σ).w) ((((EqR.rf μ).w).I (by decide)).I (by decide))
