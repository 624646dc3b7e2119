theorem m_f25 {μ τ : S5} {q : Int32} (h7 : gI μ 7 = 0) (ha : f_X12_atom μ = some (q, τ)) (hq : q = 0 ∨ q = 1) : f_X12_field_b25 μ = some (q, τ) := by
  unfold f_X12_field_b25
  rw [if_pos h7, ha, bd_of]
  rcases hq with rfl | rfl
  · rw [if_pos rfl]
  · rw [if_neg (by decide)]
theorem m_f25F {μ : S5} (h7 : ¬ gI μ 7 = 0) : f_X12_field_b25 μ = some (0, μ) := by
  unfold f_X12_field_b25
  rw [if_neg h7]
theorem m_fieldN {μ τ : S5} {q k : Int32} (h7 : gI μ 7 = 0) (hj : f_X12_judgeAtom μ = some ((), μ)) (h0 : 0 ≤ k) (h1 : k < 3200) (hc : ¬ xA μ 17 k = 0) (ha : f_X12_atom μ = some (q, τ)) (hq : q = 0 ∨ q = 1) : f_X12_field k μ = some (q, τ) := by
  unfold f_X12_field
  rw [hj, bd_of, if_pos h7, gd3200 h0 h1, if_neg hc, m_f25 h7 ha hq]
theorem m_field1 {μ τ : S5} {q k : Int32} (h7 : gI μ 7 = 0) (hj : f_X12_judgeAtom μ = some ((), μ)) (h0 : 0 ≤ k) (h1 : k < 3200) (hc : xA μ 17 k = 0) (hp : ¬ gI μ 11 = 600) (ha : f_X12_atom (mP μ) = some (q, τ)) (hq : q = 0 ∨ q = 1) : f_X12_field k μ = some (q, τ) := by
  unfold f_X12_field
  rw [hj, bd_of, if_pos h7, gd3200 h0 h1, if_pos hc, m_part0 h7 hp, bd_of]
  exact m_f25 (μ := mP μ) h7 ha hq
theorem m_field6 {μ : S5} {k : Int32} (h7 : gI μ 7 = 0) (hj : f_X12_judgeAtom μ = some ((), μ)) (h0 : 0 ≤ k) (h1 : k < 3200) (hc : xA μ 17 k = 0) (hp : gI μ 11 = 600) : f_X12_field k μ = some (0, pI (pI μ 7 4) 8 (gI μ 5)) := by
  unfold f_X12_field
  rw [hj, bd_of, if_pos h7, gd3200 h0 h1, if_pos hc, m_part1 h7 hp, bd_of]
  exact m_f25F (by exact (by decide : ¬ (4 : Int32) = 0))
theorem m_fieldB {μ F : S5} {k : Int32} (hj : f_X12_judgeAtom μ = some ((), F)) (h7 : ¬ gI F 7 = 0) : f_X12_field k μ = some (0, F) := by
  unfold f_X12_field
  rw [hj, bd_of, if_neg h7, m_f25F h7]
theorem m_b80 {τ : S5} {q : Int32} (hq : q = 0 ∨ q = 1) (h20 : gI τ 20 = 0) : (if q = 0 then f_X12_atomEnds_b80 1 τ else f_X12_atomEnds_b80 0 τ) = some ((), aft (1 - q) τ) := by
  unfold f_X12_atomEnds_b80 aft
  rw [pI_self τ 20 h20]
  rcases hq with rfl | rfl
  · rw [if_pos rfl]; rfl
  · rw [if_neg (by decide)]; rfl
/-- a constructor that has stopped -/
theorem st_build81 {f p n : Int32} {σ : S5} (E : S5 → Option (Int32 × S5)) (B : Int32 → Prop) {v1 v2 : Int32} (h : Dm B f p n σ) : Qt (f_X5_readBuild_b81 E v1 v2 σ) (fun r τ => Dm B f p n τ ∧ 0 ≤ r ∧ r < 6200) := by
  unfold f_X5_readBuild_b81
  rw [bd_eta']
  exact dm_add9 _ _ _ _ h
theorem st_buildL {f p n : Int32} {σ : S5} (E : S5 → Option (Int32 × S5)) (B : Int32 → Prop) {m : Nat} {v1 v2 v3 v4 : Int32} (h : St f p n σ) (h0 : 0 ≤ v1) (h1 : v1 < 30) : Qt (f_X5_readBuild_L14 E (m + 1) v1 v2 v3 v4 σ) (fun r τ => Dm B f p n τ ∧ 0 ≤ r ∧ r < 6200) := by
  show Qt (f_X5_readBuild_B14 E _ v1 v2 v3 v4 σ) _
  unfold f_X5_readBuild_B14
  rw [gd30 h0 h1, st_stands h, bd_of, if_pos rfl, ite_self]
  exact st_build81 E B (Or.inl h)
/-- a constructor's fields -/
def CL (r : Int32) (σ0 μ0 σ μ : S5) (j : Nat) (c0 cl : Int32) (g cc fs fu fn ft : Nat → Int32) : Prop := GL 9 7 (gI μ0 9 + 1) r noGap σ0 μ0 σ μ j c0 cl (gI μ0 9) g cc fs fu fn ft
theorem nI_inj {a b : Nat} (ha : a ≤ 4000) (hb : b ≤ 4000) (h : nI a = nI b) : a = b := by
  apply Classical.byContradiction
  intro hc
  rcases Nat.lt_or_gt_of_ne hc with w | w
  · have := (nI_lt31 (a := a) (b := b) (by omega) (by omega)).mpr w
    rw [h] at this
    exact absurd this (by grind)
  · have := (nI_lt31 (a := b) (b := a) (by omega) (by omega)).mpr w
    rw [h] at this
    exact absurd this (by grind)
theorem CL.exit {r : Int32} {σ0 μ0 σ μ : S5} {j : Nat} {c0 cl : Int32} {g cc fs fu fn ft : Nat → Int32} (hs0 : Sim σ0 μ0) (q : CL r σ0 μ0 σ μ j c0 cl g cc fs fu fn ft) (hj : j ≤ 3) (hr0 : 0 ≤ r) (hr1 : r < gI σ0 4) (hf : xA σ0 2 r = nI (j + 1)) {μy : S5} (y2 : ∀ k, ¬ k = 17 → gI μy k = gI μ k) (y3 : gJ μy = gJ μ) (y4 : gI μy 17 = gI μ0 17) (y5 : EqR μ μy) (y6 : FrM μ0 μy) (y7 : PF μ0 μy) (y11 : RB σ μy (gI σ0 15) (gI σ0 9) (gI σ0 10) (gI μ0 9 + 1) (gI σ0 8) noGap (gI μ0 9) (gI σ 9) (gI σ 10) (gI μ 9) (gI σ 8) j (j + 1) g cc fs fu fn ft) (y12 : xA μy 2 (gI μ0 9) = 7) (y13 : xA μy 10 (gI μ0 9) = 0) (y14 : xA μy 5 (gI μ0 9) = -1) (y15 : xA μy 3 (gI μ0 9) = g 0) (y17 : xA μy 7 (gI μ0 9) = r) : Cor σ0 μ0 (gI σ 8) (cN σ 9 r 0 c0) (pI (mO (pI μy 16 (gI μy 16 - 1)) (gI μ0 9)) 20 1) (gI μ0 9) := by
  obtain ⟨hBa, a19, a20, a21, a16, a17, a18, p14, p15, p17, hgr, hRB, hc0, hcl, k2, k10, k5, k7, k34, k30, hn0, hn1, haa, hM0, h01⟩ := q
  obtain ⟨r1, r4, r5, r6, r7, r8, r9, r10, r11, t4, t5⟩ := hBa
  have hp0 := hs0.p3
  have hp3 := r1.p3
  have hbm0 := hs0.bm
  obtain ⟨w0, hct0, hb0⟩ := hs0
  obtain ⟨hw, hct, hb⟩ := id r1
  unfold Bg at hb hb0
  obtain ⟨d1, d2, d3, d4, d5, d6, d7, d8, d9, d10, d11, d12, d13, d14, d15, d16, d17, d18, d19, d20, d21, d22, d23⟩ := hb
  obtain ⟨gr1, gr2, gr3, gr4, gr5, gr6, gr7⟩ := id r11
  have hE' : EqE σ0 (cN σ 9 r 0 c0) := r4.N
  have hR' : EqR μ0 (pI (mO (pI μy 16 (gI μy 16 - 1)) (gI μ0 9)) 20 1) := (((r5.tr y5).I (by decide)).O).I (by decide)
  have hRB3 : RB (cN σ 9 r 0 c0) (pI (mO (pI μy 16 (gI μy 16 - 1)) (gI μ0 9)) 20 1) (gI σ0 15) (gI σ0 9) (gI σ0 10) (gI μ0 9 + 1) (gI σ0 8) noGap (gI μ0 9) (gI σ 9) (gI σ 10) (gI μ 9) (gI σ 8) j (j + 1) g cc fs fu fn ft := by
    have z := y11.fr ((EqE.rf σ).N (a := 9) (b := r) (c := 0) (d := c0)) (FrC.N σ 9 r 0 c0) (FrM.rf μy) (by grind) (by grind) (by grind) (by grind) (by rw [y2 9 (by decide)]; grind) (by grind)
    exact z.rows (fun k hk => gA_ne _ _ _ (by omega)) rfl rfl
  have e16 : gI μy 16 - 1 = gI μ0 16 := by rw [y2 16 (by decide), a16]; grind
  have hrow := cN_row σ 9 r 0 c0
  have n9 : gI (pI (mO (pI μy 16 (gI μy 16 - 1)) (gI μ0 9)) 20 1) 9 = gI μ 9 := by show gI μy 9 = _; exact y2 9 (by decide)
  have n10 : gI (pI (mO (pI μy 16 (gI μy 16 - 1)) (gI μ0 9)) 20 1) 10 = gI μ 10 := by show gI μy 10 = _; exact y2 10 (by decide)
  have n11 : gI (pI (mO (pI μy 16 (gI μy 16 - 1)) (gI μ0 9)) 20 1) 11 = gI μ 11 := by show gI μy 11 = _; exact y2 11 (by decide)
  have n12 : gI (pI (mO (pI μy 16 (gI μy 16 - 1)) (gI μ0 9)) 20 1) 12 = gI μ 12 := by show gI μy 12 = _; exact y2 12 (by decide)
  have n7 : gI (pI (mO (pI μy 16 (gI μy 16 - 1)) (gI μ0 9)) 20 1) 7 = gI μ 7 := by show gI μy 7 = _; exact y2 7 (by decide)
  have n15 : gI (pI (mO (pI μy 16 (gI μy 16 - 1)) (gI μ0 9)) 20 1) 15 = gI μ 15 := by show gI μy 15 = _; exact y2 15 (by decide)
  have hGm : Gm 1 1 σ0 (cN σ 9 r 0 c0) μ0 (pI (mO (pI μy 16 (gI μy 16 - 1)) (gI μ0 9)) 20 1) := by
    have i8 : iv (cN σ 9 r 0 c0) 8 = iv σ 8 + 1 := iv_a1 rfl d9 (by grind)
    have i9 : iv (cN σ 9 r 0 c0) 9 = iv σ 9 := iv_eq rfl
    have i10 : iv (cN σ 9 r 0 c0) 10 = iv σ 10 := iv_eq rfl
    have i13 : iv (cN σ 9 r 0 c0) 13 = iv σ 13 := iv_eq rfl
    have i18 : iv (cN σ 9 r 0 c0) 18 = iv σ 18 := iv_eq rfl
    have m9 := iv_eq n9
    have m10 := iv_eq n10
    unfold Gm at *
    omega
  refine ⟨⟨?_, Ct_eq hct0 hE' hR', ?_⟩, ?_, ⟨e16, ?_, ?_, fun i p q => y7.1 i p q, fun i p q => ?_⟩, hE', hR', ?_, r7, r8, ?_, y6, ?_, ?_, rfl, hrow.2.2.2.2, y14⟩
  · exact Wd_of hw rfl rfl rfl rfl rfl rfl rfl (y2 1 (by decide)) (y2 3 (by decide)) (y2 4 (by decide)) (y2 5 (by decide)) (y2 6 (by decide)) (congrFun y3 0) (y5.2.2.1 0 (by decide))
  · exact Bg_mk d1 (by rw [n7]; exact d2) (by rw [n11]; exact d3) d4 d5 (by rw [n15]; exact d6) d7 d8 (by show 0 ≤ gI σ 8 + 1; grind) d11 d13 d14 d15 (by rw [n9]; exact d17) (by rw [n10]; exact d19) d21 d22 hp3.2 (hbm0.gr hGm (by decide) (by decide) (r4.1 5 (by decide)))
  · show gI μy 19 = 0
    rw [y2 19 (by decide)]; exact a19
  · show gI μy 17 + 1 = gI μ0 17 + 1
    rw [y4]
  · show xA (pA (pI μy 16 (gI μy 16 - 1)) 18 (gI μy 17) (gI μ0 9)) 18 (gI μ0 17) = (gI μ0 9)
    rw [y4, xA_pA, if_pos ⟨rfl, rfl⟩]
  · show xA (pA (pI μy 16 (gI μy 16 - 1)) 18 (gI μy 17) (gI μ0 9)) 18 i = xA μ0 18 i
    rw [y4, xA_pA, if_neg (fun w => i_ne p q w.2)]
    exact y7.2 i p q
  · rw [n12, n11]; exact r6
  · exact r9.tr (FrC.N σ 9 r 0 c0) (by grind) (by grind) (by grind) (by grind) (by grind)
  · exact ⟨by show gI σ0 8 ≤ gI σ 8 + 1; grind, gr2, gr3, by rw [n9]; exact gr4, by rw [n10]; exact gr5, gr6, hGm⟩
  · rw [n9]
    show TR (cN σ 9 r 0 c0) (pI (mO (pI μy 16 (gI μy 16 - 1)) (gI μ0 9)) 20 1) (gI σ0 15) (gI σ0 9) (gI σ 9) (gI σ0 10) (gI σ 10) (gI μ0 9) (gI μ 9) (gI σ0 8) (gI μ0 9) (gI σ 8)
    refine TR.fold ⟨?_, Or.inr (Or.inr (Or.inr (Or.inl ⟨y12, y13, hrow.1, rfl, ?_, ?_, ?_, j + 1, by omega, by omega, ?_, ?_⟩)))⟩
    · unfold Bd
      grind
    · show xA (cN σ 9 r 0 c0) 14 (gI σ 8) = xA μy 7 (gI μ0 9)
      rw [hrow.2.1, y17]
    · rw [hrow.2.1]; exact hr0
    · rw [hrow.2.1, hE'.1 4 (by decide)]; exact hr1
    · rw [hrow.2.1, show xA (cN σ 9 r 0 c0) 2 r = xA σ0 2 r from congrFun (hE'.2.2.1 2 (by decide)) _]; exact hf
    · have := hRB3.row
      rw [hc0] at this
      show TRow _ _ _ _ _ _ _ _ _ _ _ _ (xA μy 3 (gI μ0 9)) _ _ _
      rw [y15, hrow.2.2.2.1]
      exact this
