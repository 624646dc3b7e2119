theorem c_dcl4 {σ μ : S5} (hs : Sim σ μ) {s n : Int32} {j : Nat} (h : NM σ μ s n j) (hj4 : j ≤ 4) (hs0 : 0 ≤ s) (hs1 : s < 700) (hn0 : 0 ≤ n) (hn1 : n < 3200) (hk : gI σ 17 = 3) : (f_X12_isGiven n (gJ μ 0) μ = some (1, μ) ∧ ∃ τ, f_X5_declare s σ = some (0, τ) ∧ St 2 (gI σ 18) (gI σ 13) τ ∧ gI τ 4 = gI σ 4) ∨ (f_X12_isGiven n (gJ μ 0) μ = some (0, μ) ∧ f_X5_declare s σ = bd (f_X10_advance (cNm σ s j)) (fun _ τ => some (s * 5 + nI j, τ))) := by
  have hd := c_decl hs h hs0 hs1 hn0 hn1 hk
  rcases hd with ⟨e1, _⟩ | ⟨e1, ⟨e2, _⟩ | ⟨e2, e3⟩⟩
  · left
    refine ⟨e1, ?_⟩
    obtain ⟨b, hb, f1, f2⟩ := has_go h hs0 hs1 hn0 hn1 (gJ σ 0)
    have hj : gJ σ 0 = gJ μ 0 := hs.1.2.2.2.2.2.2.2.2.2.1 (Or.inl hk)
    rw [hj, e1] at f2
    have hb1 : b = 1 := (congrArg Prod.fst (Option.some.inj f2)).symm
    subst hb1
    obtain ⟨τ, g1, g2, g3⟩ := c_ref4 hs (k := 2) (by decide)
    refine ⟨τ, ?_, g2, g3⟩
    unfold f_X5_declare
    rw [if_pos hk, f1, bd_of, if_neg (by decide), g1, bd_of]
  · exact absurd e2 (by omega)
  · exact Or.inr ⟨e1, e3⟩
theorem c_dec14 {σ μ : S5} (hs : Sim σ μ) (s : Int32) (hk : ¬ gI σ 17 = 3) : ∃ τ, f_X5_declare s σ = some (0, τ) ∧ St 1 (gI σ 18) (gI σ 13) τ ∧ gI τ 4 = gI σ 4 := by
  obtain ⟨τ, g1, g2, g3⟩ := c_ref4 hs (k := 1) (by decide)
  refine ⟨τ, ?_, g2, g3⟩
  unfold f_X5_declare
  rw [if_neg hk, g1, bd_of]
theorem m_215F {μ : S5} {con v x : Int32} (m : Nat) (h7 : ¬ gI μ 7 = 0) (hv0 : 0 ≤ v) (hv1 : v < 3200) (hc0 : 0 ≤ con) (hc1 : con < 30) : f_X12_branch_L215 (m + 1) con v x μ = f_X12_branch_b316 v μ := by
  show f_X12_branch_B215 _ _ _ _ _ = _
  unfold f_X12_branch_B215
  rw [gd3200 hv0 hv1, gd30 hc0 hc1, if_neg h7, ite_self, ite_self]
theorem m_316F {μ : S5} {v : Int32} (h7 : ¬ gI μ 7 = 0) (h0 : 0 ≤ gI μ 16) (h1 : gI μ 16 < 3200) : f_X12_branch_b316 v μ = some ((), pI (pI (mPl μ 6 v 0) 19 1) 18 1) := by
  unfold f_X12_branch_b316 f_X12_branch_b331
  rw [m_accF 1 h7, m_accF 0 h7, bd_of, m_pile 6 v 0 h0 h1, bd_of, ite_self]
  rfl
theorem m_316 {μ : S5} {v : Int32} (h7 : gI μ 7 = 0) : f_X12_branch_b316 v μ = bd (if gI μ 4 = 20 then f_X12_next μ else some ((), pI (pI μ 7 1) 8 (gI μ 5))) (fun _ τ2 => bd (f_X12_pile 6 v 0 τ2) (fun _ τ3 => some ((), pI (pI τ3 19 1) 18 1))) := by
  unfold f_X12_branch_b316 f_X12_branch_b331
  rw [m_acc1 h7, m_acc0 h7]
  by_cases c : gI μ 4 = 20
  · rw [if_pos c, if_pos c]
  · rw [if_neg c, if_neg c]
theorem nI_le_of {a b : Nat} (ha : a ≤ 100) (hb : b ≤ 100) : nI a ≤ nI b ↔ a ≤ b := nI_le31 (by omega) (by omega)
/-- the names of a pattern -/
theorem pt_loop {s v con ck num : Int32} {F : Nat} {E : S5 → Option (Int32 × S5)} (hE : ∀ (f p n : Int32) (σ : S5), St f p n σ → E σ = some (0, σ)) (hs0 : 0 ≤ s) (hs1 : s < 700) (hv0 : 0 ≤ v) (hv1 : v < 3200) (hc0 : 0 ≤ con) (hF : F ≤ 4) : ∀ (d j m : Nat) (σ μ : S5), j + d = F → d + 6 < m → Sim σ μ → NM σ μ s v j → xA μ 9 v + nI j = gI μ 10 → xA μ 8 v = 0 → con < gI σ 4 → xA σ 2 con = nI F → (∃ σ' μ' : S5, f_X5_readAlternative_L136 E m ck con num s (nI j) σ = f_X5_readAlternative_b163 E ck con num s σ' ∧ f_X12_branch_L215 m con v (nI j) μ = f_X12_branch_b316 v μ' ∧ Sim σ' μ' ∧ NM σ' μ' s v F ∧ xA μ' 9 v + nI F = gI μ' 10 ∧ PmF σ σ' μ μ' s v) ∨ (∃ (f q : Int32) (μ' : S5), Qt (f_X5_readAlternative_L136 E m ck con num s (nI j) σ) (fun r τ => Dm abE f q (gI σ 13) τ ∧ 0 ≤ r ∧ r < 6200) ∧ f_X12_branch_L215 m con v (nI j) μ = f_X12_branch_b316 v μ' ∧ ¬ f = 0 ∧ gI μ' 7 = f ∧ gI μ' 8 = q ∧ gI μ' 11 = gI μ 11 ∧ gI μ' 12 = gI μ 12 ∧ EqR μ μ' ∧ gI μ' 16 = gI μ 16) := by
  intro d
  induction d with
  | zero =>
    intro j m σ μ hj hm hs hN hg h8 hc4 hf
    obtain ⟨m, rfl⟩ : ∃ x, m = x + 1 := ⟨m - 1, by omega⟩
    have hjF : j = F := by omega
    subst hjF
    have hc30 : con < 30 := by have := hs.2.1.2.2.1; grind
    have hq := hs.2.1.2.2.2 con hc0 hc4
    left
    refine ⟨σ, μ, ?_, ?_, hs, hN, hg, PmF.rf ..⟩
    · show f_X5_readAlternative_B136 _ _ _ _ _ _ _ _ = _
      unfold f_X5_readAlternative_B136
      rw [gd30 hc0 hc30, if_pos (by rw [hf]; exact Int32.le_refl _)]
    · show f_X12_branch_B215 _ _ _ _ _ = _
      unfold f_X12_branch_B215
      rw [gd3200 hv0 hv1, if_pos h8, gd30 hc0 hc30, if_pos (by rw [← hq.2.1, hf]; exact Int32.le_refl _)]
  | succ d ih =>
    intro j m σ μ hj hm hs hN hg h8 hc4 hf
    obtain ⟨m, rfl⟩ : ∃ x, m = x + 2 := ⟨m - 2, by omega⟩
    have hc30 : con < 30 := by have := hs.2.1.2.2.1; grind
    have hq := hs.2.1.2.2.2 con hc0 hc4
    have hb := hs.2.2
    have hp3 := hs.p3
    unfold Bg at hb
    have hnle : ¬ nI F ≤ nI j := by rw [nI_le_of (by omega) (by omega)]; omega
    have w3 := hs.1.2.2.1
    have w4 := hs.1.2.2.2.1
    have hC : f_X5_readAlternative_L136 E (m + 2) ck con num s (nI j) σ = bd (f_X5_declare s σ) (fun r153 τ153 => f_X5_readAlternative_L136 E (m + 1) ck con num s (nI j + 1) τ153) := by
      show f_X5_readAlternative_B136 E (f_X5_readAlternative_L136 E (m + 1)) _ _ _ _ _ _ = _
      unfold f_X5_readAlternative_B136
      rw [gd30 hc0 hc30, if_neg (by rw [hf]; exact hnle)]
    have hst : ∀ (f q n : Int32) (τ : S5), St f q n τ → gI τ 4 = gI σ 4 → Qt (f_X5_readAlternative_L136 E (m + 1) ck con num s (nI j + 1) τ) (fun r τ => Dm abE f q n τ ∧ 0 ≤ r ∧ r < 6200) := by
      intro f q n τ g2 g3
      have h4 : con < gI τ 4 := by rw [g3]; exact hc4
      have hx := g2.2.2.2.2.2.2.2.2.2.2.2.2 con hc0 h4
      have h5 : (xA τ 2 con).toNatClampNeg ≤ 4 := i_le hx
      rw [nI_add1]
      exact st_alt136 hE abE g2 (by grind) hs1 hc0 h4 5 (nI (j + 1)) (m + 1) (i_le0 (nI_nneg (by omega))) (by omega) (by omega)
    by_cases h3 : gI σ 17 = 3
    · have hm3 : gI μ 4 = 3 := by rw [w3, h3]; decide
      rcases c_dcl4 hs hN (by omega) hs0 hs1 hv0 hv1 h3 with ⟨e1, τ, e2, e3, e4⟩ | ⟨e1, e3⟩
      · right
        have hF7 : ¬ gI (pI (pI μ 7 2) 8 (gI μ 5)) 7 = 0 := (by decide : ¬ (2 : Int32) = 0)
        refine ⟨2, gI σ 18, pI (pI μ 7 2) 8 (gI μ 5), ?_, ?_, by decide, rfl, hs.1.2.2.2.2.1.symm, rfl, rfl, ((EqR.rf μ).I (by decide)).I (by decide), rfl⟩
        · rw [hC, e2, bd_of]
          exact hst _ _ _ τ e3 e4
        · show f_X12_branch_B215 (f_X12_branch_L215 (m + 1)) _ _ _ _ = _
          unfold f_X12_branch_B215 f_X12_branch_b278 f_X12_branch_b292 f_X12_branch_b310
          rw [gd3200 hv0 hv1, if_pos h8, gd30 hc0 hc30, if_neg (by rw [← hq.2.1, hf]; exact hnle), if_pos hb.2.1, if_pos hm3, e1, bd_of, if_neg (by decide), m_fail0 _ _ hb.2.1, bd_of, if_pos (show gI (pI (pI μ 7 2) 8 (gI μ 5)) 4 = 3 from hm3), m_accF (μ := pI (pI μ 7 2) 8 (gI μ 5)) 1 hF7, bd_of, if_neg hF7]
          exact m_215F m hF7 hv0 hv1 hc0 hc30
      · obtain ⟨σ1, μ1, μ2, k1, k2, k3, k4, k5, k6, k7, k8, k9, k10, k11, k12, k13, k14, k15⟩ := nm_step hs hN (by omega) hs0 hs1 hv0 hv1 h3 hg e3
        have hPF : PmF σ σ1 μ μ2 s v := by
          have i18 := iv_lt k14
          have m10 := iv_a1 k13 (by grind) (by grind)
          exact ⟨k8, k9, k10, k11, k12, by rw [k13]; grind, by grind, by omega⟩
        have hR : f_X12_branch_L215 (m + 2) con v (nI j) μ = f_X12_branch_L215 (m + 1) con v (nI (j + 1)) μ2 := by
          show f_X12_branch_B215 (f_X12_branch_L215 (m + 1)) _ _ _ _ = _
          unfold f_X12_branch_B215 f_X12_branch_b278 f_X12_branch_b292 f_X12_branch_b310
          rw [gd3200 hv0 hv1, if_pos h8, gd30 hc0 hc30, if_neg (by rw [← hq.2.1, hf]; exact hnle), if_pos hb.2.1, if_pos hm3, e1, bd_of, if_pos rfl, if_pos hm3, m_acc1 hb.2.1, k2, bd_of, if_pos k4, k3, bd_of, nI_add1]
        have hC2 : f_X5_readAlternative_L136 E (m + 2) ck con num s (nI j) σ = f_X5_readAlternative_L136 E (m + 1) ck con num s (nI (j + 1)) σ1 := by rw [hC, k1, bd_of, nI_add1]
        rw [hC2, hR]
        have e4' : gI σ1 4 = gI σ 4 := k9.1 4 (by decide)
        have e2' : xA σ1 2 con = xA σ 2 con := congrFun (k9.2.2.1 2 (by decide)) _
        rcases ih (j + 1) (m + 1) σ1 μ2 (by omega) (by omega) k5 k6 k7 (by rw [k8.2.2.2.2.1 8 _ (by decide)]; exact h8) (by rw [e4']; exact hc4) (by rw [e2']; exact hf) with ⟨σ', μ', s1, s2, s3, s4, s5, s6⟩ | ⟨f, q, μ', s1, s2, s3, s4, s5, s6, s7, s8, s9⟩
        · exact Or.inl ⟨σ', μ', s1, s2, s3, s4, s5, hPF.tr s6⟩
        · right
          refine ⟨f, q, μ', ?_, s2, s3, s4, s5, ?_, ?_, k10.tr s8, ?_⟩
          · rw [k11 13 (by decide)] at s1
            exact s1
          · rw [s6, k12 11 (by decide) (by decide)]
          · rw [s7, k12 12 (by decide) (by decide)]
          · rw [s9, k12 16 (by decide) (by decide)]
    · have hm3 : ¬ gI μ 4 = 3 := by rw [w3]; intro q; exact h3 ((kMd_at 3 (by decide +kernel) w4).mp (by rw [q]; decide))
      right
      have hF7 : ¬ gI (pI (pI μ 7 1) 8 (gI μ 5)) 7 = 0 := (by decide : ¬ (1 : Int32) = 0)
      obtain ⟨τ, e1, e2, e3⟩ := c_dec14 hs s h3
      refine ⟨1, gI σ 18, pI (pI μ 7 1) 8 (gI μ 5), ?_, ?_, by decide, rfl, hs.1.2.2.2.2.1.symm, rfl, rfl, ((EqR.rf μ).I (by decide)).I (by decide), rfl⟩
      · rw [hC, e1, bd_of]
        exact hst _ _ _ τ e2 e3
      · show f_X12_branch_B215 (f_X12_branch_L215 (m + 1)) _ _ _ _ = _
        unfold f_X12_branch_B215 f_X12_branch_b278 f_X12_branch_b292 f_X12_branch_b310
        rw [gd3200 hv0 hv1, if_pos h8, gd30 hc0 hc30, if_neg (by rw [← hq.2.1, hf]; exact hnle), if_pos hb.2.1, if_neg hm3, if_neg hm3, m_acc0 hb.2.1, bd_of, if_neg hF7]
        exact m_215F m hF7 hv0 hv1 hc0 hc30
/-- a pattern's scope is there -/
theorem ph_one {σ0 μ0 σ1 μ1 : S5} {v : Int32} (hs0 : Sim σ0 μ0) (l1 : Sim σ1 μ1) (fE : EqE σ0 σ1) (fR : EqR μ0 μ1) (hG : Gm 2 1 σ0 σ1 μ0 μ1) (h9 : gI μ1 9 = v + 1) (hv : 0 ≤ v) (w2 : xA μ1 2 v = 4) (w5 : xA μ1 5 v = -1) (w10 : xA μ1 10 v = 0) (w9 : xA μ1 9 v = gI μ1 10) : Sim (cSc σ1 (gI σ1 15) (gI σ1 18) (xA σ1 22 (gI σ1 15))) μ1 ∧ FHd 0 (-1) σ1 μ1 (cSc σ1 (gI σ1 15) (gI σ1 18) (xA σ1 22 (gI σ1 15))) μ1 v (gI σ1 18) (xA μ1 6 v) (gI σ1 15) 4 (xA σ1 22 (gI σ1 15)) ∧ NM (cSc σ1 (gI σ1 15) (gI σ1 18) (xA σ1 22 (gI σ1 15))) μ1 (gI σ1 9) v 0 ∧ xA μ1 9 v + nI 0 = gI μ1 10 := by
  have hb := l1.2.2
  have hp3 := l1.p3
  unfold Bg at hb
  obtain ⟨b1, b2, b3, b4, b5, b6, b7, b8, b9, b10, b11, b12, b13, b14, b15, b16, b17, b18, b19, b20, b21, b22, b23⟩ := hb
  have hrow := cSc_row σ1 (gI σ1 15) (gI σ1 18) (xA σ1 22 (gI σ1 15))
  have hfr := cSc_fr σ1 (gI σ1 15) (gI σ1 18) (xA σ1 22 (gI σ1 15))
  have SI : ∀ k, ¬ k = 9 → gI (cSc σ1 (gI σ1 15) (gI σ1 18) (xA σ1 22 (gI σ1 15))) k = gI σ1 k := fun k h1 => cSc_gI _ _ _ _ h1
  have S9 : gI (cSc σ1 (gI σ1 15) (gI σ1 18) (xA σ1 22 (gI σ1 15))) 9 = gI σ1 9 + 1 := rfl
  have SE : EqE σ1 (cSc σ1 (gI σ1 15) (gI σ1 18) (xA σ1 22 (gI σ1 15))) := (EqE.rf σ1).Sc
  have hW : Wd (cSc σ1 (gI σ1 15) (gI σ1 18) (xA σ1 22 (gI σ1 15))) μ1 := l1.1.Sc
  generalize cSc σ1 (gI σ1 15) (gI σ1 18) (xA σ1 22 (gI σ1 15)) = S at *
  have i8 := iv_eq (SI 8 (by decide))
  have i9 := iv_a1 S9 b11 (by grind)
  have i10 := iv_eq (SI 10 (by decide))
  have i13 := iv_eq (SI 13 (by decide))
  have i18 := iv_eq (SI 18 (by decide))
  have hGm : Gm 2 0 σ0 S μ0 μ1 := by
    unfold Gm at *
    omega
  refine ⟨Sim.mk2 hs0 hW (fE.tr SE) fR hGm (by decide) (by decide) (by rw [SI 11 (by decide)]; exact b1) b2 (by rw [SI 13 (by decide)]; exact b3) (by rw [SI 13 (by decide)]; exact ⟨b4, b5⟩) (by rw [SI 14 (by decide)]; exact b6) (by rw [SI 14 (by decide)]; exact ⟨b7, b8⟩) (by rw [SI 8 (by decide)]; exact b9) (by rw [S9]; grind) (by rw [SI 10 (by decide)]; exact b15) b17 b19 (by rw [SI 15 (by decide), S9]; grind) (by rw [SI 18 (by decide)]; exact hp3.2), ⟨SE, EqR.rf μ1, hfr, FrM.pI9 (fun i p q => ⟨rfl, rfl, rfl, rfl, rfl, rfl, rfl, rfl, rfl, rfl⟩) (fun i p q => rfl), ⟨fun i p q => ⟨rfl, rfl, rfl, rfl⟩, fun i p q => rfl⟩, rfl, ⟨SI 8 (by decide), S9, SI 10 (by decide), SI 14 (by decide), SI 15 (by decide)⟩, ⟨h9, Int32.le_refl _, rfl, rfl⟩, ⟨hrow.2.1, hrow.2.2.1, hrow.2.2.2⟩, ⟨w2, w5, rfl, rfl, rfl, rfl⟩, by omega, ?_⟩, ⟨by omega, hrow.1, w10, by rw [w9]; exact b19, by rw [w9]; grind, fun i hi => absurd hi (by omega)⟩, by rw [w9, show nI 0 = 0 from rfl, Int32.add_zero]⟩
  unfold Gm
  omega
