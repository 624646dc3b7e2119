theorem FrC.N (σ : S5) (a b c d : Int32) : FrC σ (cN σ a b c d) := by
  refine ⟨fun i p q => ?_, fun i p q => ⟨rfl, rfl, rfl, rfl, rfl⟩, fun i p q => rfl, fun i p q => ⟨rfl, rfl, rfl, rfl⟩⟩
  have := i_ne p q
  simp [cN, xA_pI, xA_pA, this]
theorem FrM.rf (μ : S5) : FrM μ μ := ⟨fun i p q => ⟨rfl, rfl, rfl, rfl, rfl, rfl, rfl, rfl, rfl, rfl⟩, fun i p q => rfl⟩
theorem FrC.rf (σ : S5) : FrC σ σ := ⟨fun i p q => ⟨rfl, rfl, rfl, rfl, rfl⟩, fun i p q => ⟨rfl, rfl, rfl, rfl, rfl⟩, fun i p q => rfl, fun i p q => ⟨rfl, rfl, rfl, rfl⟩⟩
theorem cN_row (σ : S5) (a b c d : Int32) : xA (cN σ a b c d) 13 (gI σ 8) = a ∧ xA (cN σ a b c d) 14 (gI σ 8) = b ∧ xA (cN σ a b c d) 15 (gI σ 8) = c ∧ xA (cN σ a b c d) 16 (gI σ 8) = d ∧ xA (cN σ a b c d) 17 (gI σ 8) = -1 := by
  simp [cN, xA_pI, xA_pA]
theorem c_addN {σ : S5} (a b c d : Int32) (h0 : 0 ≤ gI σ 8) (h1 : gI σ 8 < 6200) : f_X9_add a b c d σ = some (gI σ 8, cN σ a b c d) := c_add9 a b c d h0 h1
theorem nI_j {j : Nat} (h1 : 1 ≤ j) (h2 : j ≤ 8) : ¬ nI j = 0 ∧ 0 ≤ nI j ∧ nI j ≤ 8 := by
  refine ⟨?_, i_le0 (nI_nneg (by omega)), (nI_le31 (b := 8) (by omega) (by omega)).mpr (by omega)⟩
  intro w
  have := (nI_lt31 (a := 0) (b := j) (by omega) (by omega)).mpr (by omega)
  rw [w] at this
  exact absurd this (by decide)
theorem AL.exit {σ0 μ0 σ μ : S5} {j : Nat} {c0 cl an : Int32} {g cc fs fu fn ft : Nat → Int32} (hs0 : Sim σ0 μ0) (q : AL σ0 μ0 σ μ j c0 cl an g cc fs fu fn ft) (hj : 1 ≤ j) (hj5 : j ≤ 5) (h160 : 0 ≤ gI μ0 16) (h161 : gI μ0 16 < 3100) (h170 : 0 ≤ gI μ0 17) (h171 : gI μ0 17 < 3100) (hna : ¬ atK (gI σ 17)) (E : S5 → Option (Int32 × S5)) (m : Nat) : ∃ μ' : S5, Rch 1 μ μ' ∧ f_X5_readApplication_L67 E (m + 1) c0 cl (nI j) σ = some (gI σ 8, cN σ 8 0 (nI j) c0) ∧ Cor σ0 μ0 (gI σ 8) (cN σ 8 0 (nI j) c0) μ' an ∧ gI μ' 20 = 1 ∧ gI μ' 21 = 0 := by
  obtain ⟨μy, y1, y2, y3, y4, y5, y6, y7, y8, y9, y10, y11, y12, y13, y14, y15, y16, y17⟩ := q.hang h160 h161 h170 h171
  obtain ⟨hBa, a19, a20, a21, a16, a17, a18, p14, p15, p17, hgr, hRB, hc0, hcl, k2, k10, k5, k7, k34, k30, hn0, hn1, haa, hM0, h01⟩ := q
  obtain ⟨r1, r4, r5, r6, r7, r8, r9, r10, r11, t4, t5⟩ := hBa
  have hp0 := hs0.p3
  have hp3 := r1.p3
  have hbm0 := hs0.bm
  obtain ⟨w0, hct0, hb0⟩ := hs0
  obtain ⟨hw, hct, hb⟩ := id r1
  have hbg := hb
  unfold Bg at hb hb0
  obtain ⟨d1, d2, d3, d4, d5, d6, d7, d8, d9, d10, d11, d12, d13, d14, d15, d16, d17, d18, d19, d20, d21, d22, d23⟩ := hb
  have hnI := nI_j hj (by omega)
  obtain ⟨gr1, gr2, gr3, gr4, gr5, gr6, gr7⟩ := id r11
  have h8 : gI σ 8 < 6200 := by grind
  have hat : ¬ (gI μ 4 = 3 ∨ gI μ 4 = 4 ∨ gI μ 4 = 2 ∨ gI μ 4 = 15 ∨ gI μ 4 = 140) := by
    rw [hw.2.2.1, kMd_atom hw.2.2.2.1]; exact hna
  rw [m_aeX (by rw [y2 4 (by decide)]; exact hat) (by rw [y4]; exact h170) (by rw [y4]; grind), if_neg (by grind)] at y1
  have hj16 : j + 1 ≤ 6 := by omega
  have hex : f_X5_readApplication_L67 E (m + 1) c0 cl (nI j) σ = some (gI σ 8, cN σ 8 0 (nI j) c0) := by
    show f_X5_readApplication_B67 E _ c0 cl (nI j) σ = _
    unfold f_X5_readApplication_B67 f_X5_readApplication_b139
    rw [if_neg (by have := (nI_le31 (a := j) (b := 5) (by omega) (by omega)).mpr hj5; intro w; exact absurd w (by have h5 : nI j ≤ 5 := this; grind)), c_isAtom, bd_of, if_neg (show ¬ (gI σ 17 = 3 ∨ gI σ 17 = 4 ∨ gI σ 17 = 5 ∨ gI σ 17 = 11 ∨ gI σ 17 = 40) from hna), if_pos rfl, if_neg hnI.1, c_addN 8 0 (nI j) c0 d9 h8, bd_of]
  refine ⟨_, tn_atom d2 (by rw [a16]; grind) a19 a20 y1, hex, ?_, rfl, ?_⟩
  · have hE' : EqE σ0 (cN σ 8 0 (nI j) c0) := r4.N
    have hR' : EqR μ0 (pI (mO (pI μy 16 (gI μy 16 - 1)) an) 20 1) := (((r5.tr y5).I (by decide)).O).I (by decide)
    have hRB3 : RB (cN σ 8 0 (nI j) c0) (pI (mO (pI μy 16 (gI μy 16 - 1)) an) 20 1) (gI σ0 15) (gI σ0 9) (gI σ0 10) (gI μ0 9) (gI σ0 8) appGap an (gI σ 9) (gI σ 10) (gI μ 9) (gI σ 8) j (j + 1) g cc fs fu fn ft := by
      have z := y11.fr ((EqE.rf σ).N (a := 8) (b := 0) (c := nI j) (d := c0)) (FrC.N σ 8 0 (nI j) c0) (FrM.rf μy) (by grind) (by grind) (by grind) (by grind) (by rw [y2 9 (by decide)]; grind) (by grind)
      exact z.rows (fun k hk => gA_ne _ _ _ (by omega)) rfl rfl
    have e16 : gI μy 16 - 1 = gI μ0 16 := by rw [y2 16 (by decide), a16]; grind
    have hrow := cN_row σ 8 0 (nI j) c0
    have n9 : gI (pI (mO (pI μy 16 (gI μy 16 - 1)) an) 20 1) 9 = gI μ 9 := by show gI μy 9 = _; exact y2 9 (by decide)
    have n10 : gI (pI (mO (pI μy 16 (gI μy 16 - 1)) an) 20 1) 10 = gI μ 10 := by show gI μy 10 = _; exact y2 10 (by decide)
    have n11 : gI (pI (mO (pI μy 16 (gI μy 16 - 1)) an) 20 1) 11 = gI μ 11 := by show gI μy 11 = _; exact y2 11 (by decide)
    have n12 : gI (pI (mO (pI μy 16 (gI μy 16 - 1)) an) 20 1) 12 = gI μ 12 := by show gI μy 12 = _; exact y2 12 (by decide)
    have n7 : gI (pI (mO (pI μy 16 (gI μy 16 - 1)) an) 20 1) 7 = gI μ 7 := by show gI μy 7 = _; exact y2 7 (by decide)
    have n15 : gI (pI (mO (pI μy 16 (gI μy 16 - 1)) an) 20 1) 15 = gI μ 15 := by show gI μy 15 = _; exact y2 15 (by decide)
    have hGm : Gm 1 1 σ0 (cN σ 8 0 (nI j) c0) μ0 (pI (mO (pI μy 16 (gI μy 16 - 1)) an) 20 1) := by
      have i8 : iv (cN σ 8 0 (nI j) c0) 8 = iv σ 8 + 1 := iv_a1 rfl d9 (by grind)
      have i9 : iv (cN σ 8 0 (nI j) c0) 9 = iv σ 9 := iv_eq rfl
      have i10 : iv (cN σ 8 0 (nI j) c0) 10 = iv σ 10 := iv_eq rfl
      have i13 : iv (cN σ 8 0 (nI j) c0) 13 = iv σ 13 := iv_eq rfl
      have i18 : iv (cN σ 8 0 (nI j) c0) 18 = iv σ 18 := iv_eq rfl
      have m9 := iv_eq n9
      have m10 := iv_eq n10
      unfold Gm at *
      omega
    refine ⟨⟨?_, Ct_eq hct0 hE' hR', ?_⟩, ?_, ⟨e16, ?_, ?_, fun i p q => y7.1 i p q, fun i p q => ?_⟩, hE', hR', ?_, r7, r8, ?_, y6, ?_, ?_, rfl, hrow.2.2.2.2, y14⟩
    · refine Wd_of hw rfl rfl rfl rfl rfl rfl rfl ?_ (y2 3 (by decide)) (y2 4 (by decide)) (y2 5 (by decide)) (y2 6 (by decide)) (congrFun y3 0) (y5.2.2.1 0 (by decide))
      exact y2 1 (by decide)
    · exact Bg_mk d1 (by rw [n7]; exact d2) (by rw [n11]; exact d3) d4 d5 (by rw [n15]; exact d6) d7 d8 (by show 0 ≤ gI σ 8 + 1; grind) d11 d13 d14 d15 (by rw [n9]; exact d17) (by rw [n10]; exact d19) d21 d22 hp3.2 (hbm0.gr hGm (by decide) (by decide) (r4.1 5 (by decide)))
    · show gI μy 19 = 0
      rw [y2 19 (by decide)]; exact a19
    · show gI μy 17 + 1 = gI μ0 17 + 1
      rw [y4]
    · show xA (pA (pI μy 16 (gI μy 16 - 1)) 18 (gI μy 17) an) 18 (gI μ0 17) = an
      rw [y4, xA_pA, if_pos ⟨rfl, rfl⟩]
    · show xA (pA (pI μy 16 (gI μy 16 - 1)) 18 (gI μy 17) an) 18 i = xA μ0 18 i
      rw [y4, xA_pA, if_neg (fun w => i_ne p q w.2)]
      exact y7.2 i p q
    · rw [n12, n11]; exact r6
    · exact r9.tr (FrC.N σ 8 0 (nI j) c0) (by grind) (by grind) (by grind) (by grind) (by grind)
    · exact ⟨by show gI σ0 8 ≤ gI σ 8 + 1; grind, gr2, gr3, by rw [n9]; exact gr4, by rw [n10]; exact gr5, gr6, hGm⟩
    · rw [n9]
      show TR (cN σ 8 0 (nI j) c0) (pI (mO (pI μy 16 (gI μy 16 - 1)) an) 20 1) (gI σ0 15) (gI σ0 9) (gI σ 9) (gI σ0 10) (gI σ 10) (gI μ0 9) (gI μ 9) (gI σ0 8) an (gI σ 8)
      refine TR.fold ⟨?_, Or.inr (Or.inr (Or.inl ⟨y12, y13, hrow.1, j + 1, by omega, hj16, ?_, ?_⟩))⟩
      · unfold Bd
        grind
      · rw [hrow.2.2.1]; rfl
      · have := hRB3.row
        rw [hc0] at this
        show TRow _ _ _ _ _ _ _ _ _ _ _ _ (xA μy 3 an) _ _ _
        rw [y15, hrow.2.2.2.1]
        exact this
  · show gI μy 21 = 0
    rw [y2 21 (by decide)]; exact a21
