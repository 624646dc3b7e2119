theorem c_dec1 {σ μ : S5} (hs : Sim σ μ) (s : Int32) (hk : ¬ gI σ 17 = 3) : ∃ τ, f_X5_declare s σ = some (0, τ) ∧ St 1 (gI σ 18) (gI σ 13) τ := by
  obtain ⟨τ, g1, g2⟩ := c_ref hs (k := 1) (by decide)
  refine ⟨τ, ?_, g2⟩
  unfold f_X5_declare
  rw [if_neg hk, g1, bd_of]
/-- a lambda's names -/
theorem la_names {σ0 μ0 σ μ : S5} (hs0 : Sim σ0 μ0) (h : LPr 2 σ0 μ0 σ μ) (hN : NM σ μ (gI σ0 9) (gI μ0 9) 0) (hg : xA μ 9 (gI μ0 9) + nI 0 = gI μ 10) : (∃ (σ' μ' : S5) (j : Nat), bd (f_X5_declare (gI σ0 9) σ) (fun _ τ => f_X5_readParameters (gI σ0 9) τ) = some ((), σ') ∧ f_X12_parameters_L10 FU (gI μ0 9) 1 μ = some ((), μ') ∧ LPr 2 σ0 μ0 σ' μ' ∧ NM σ' μ' (gI σ0 9) (gI μ0 9) j ∧ 1 ≤ j ∧ xA μ' 9 (gI μ0 9) + nI j = gI μ' 10) ∨ (∃ (f : Int32) (σ' μ' : S5), bd (f_X5_declare (gI σ0 9) σ) (fun _ τ => f_X5_readParameters (gI σ0 9) τ) = some ((), σ') ∧ f_X12_parameters_L10 FU (gI μ0 9) 1 μ = some ((), μ') ∧ PmD f σ σ' μ μ') := by
  have hl := h
  obtain ⟨l1, l2, l3, l4, l5, l6, l7, ⟨x8, x9, x10, x14, x15, x18⟩, ⟨q9, q10, q16, q17⟩, ⟨y1, y2, y3⟩, ⟨z1, z2, z3⟩, l8⟩ := h
  have hb0 := hs0.2.2
  have hbg := l1.2.2
  unfold Bg at hb0 hbg
  have hp3 := l1.p3
  have hs00 : 0 ≤ gI σ0 9 ∧ gI σ0 9 < 700 := by grind
  have hn00 : 0 ≤ gI μ0 9 ∧ gI μ0 9 < 3200 := by grind
  have w3 := l1.1.2.2.1
  have w4 := l1.1.2.2.2.1
  obtain ⟨m, hm⟩ : ∃ m, FU = m + 9 := ⟨FU - 9, by have := FU_big (n := 5000) (by decide); omega⟩
  by_cases h3 : gI σ 17 = 3
  · have hm3 : gI μ 4 = 3 := by rw [w3, h3]; decide
    rcases c_decl l1 hN hs00.1 hs00.2 hn00.1 hn00.2 h3 with ⟨e1, τ, e2, e3⟩ | ⟨e1, ⟨e2, τ, e3, e4⟩ | ⟨e2, e3⟩⟩
    · right
      refine ⟨2, τ, pI (pI μ 7 2) 8 (gI μ 5), ?_, by rw [hm]; exact m_pmG (m + 7) hbg.2.1 hm3 hn00.1 hn00.2 e1, gI σ 18, e3, rfl, l1.1.2.2.2.2.1.symm, rfl, rfl, ((EqR.rf μ).I (by decide)).I (by decide), rfl⟩
      rw [e2, bd_of, st_parm _ e3]
    · exact absurd e2 (by omega)
    · obtain ⟨σ1, μ1, μ2, k1, k2, k3, k4, k5, k6, k7, k8, k9, k10, k11, k12, k13, k14, k15⟩ := nm_step l1 hN e2 hs00.1 hs00.2 hn00.1 hn00.2 h3 hg e3
      have hPF : PmF σ σ1 μ μ2 (gI σ0 9) (gI μ0 9) := by
        have i18 := iv_lt k14
        have m10 := iv_a1 k13 (by grind) (by grind)
        exact ⟨k8, k9, k10, k11, k12, by rw [k13]; grind, by grind, by omega⟩
      have hl1 := hl.pm hs0 k5 hPF
      have hkn : ¬ xA μ 2 (gI μ0 9) = 1 := by rw [z1]; decide
      have hN10 : xA μ 10 (gI μ0 9) = 0 := hN.2.2.1
      have hlp := pm_loop (s := gI σ0 9) (n := gI μ0 9) (v := 1) hs00.1 hs00.2 hn00.1 hn00.2 4 1 0 (m + 9) (m + 8) σ1 μ2 (by omega) (by omega) (by omega) (by omega) k5 k6 k7 (Or.inr (by omega)) (by decide)
      have hc : bd (f_X5_declare (gI σ0 9) σ) (fun _ τ => f_X5_readParameters (gI σ0 9) τ) = f_X5_readParameters_L2 (m + 9) (gI σ0 9) (nI 0) σ1 := by
        rw [k1, bd_of]
        unfold f_X5_readParameters
        rw [hm]
        rfl
      have hr : f_X12_parameters_L10 FU (gI μ0 9) 1 μ = f_X12_parameters_L10 (m + 8) (gI μ0 9) 1 μ2 := by
        rw [hm]
        exact m_pmN (m + 8) hbg.2.1 hm3 hn00.1 hn00.2 e1 (by rw [hN10]; decide) (Or.inl hkn) k2 k4 k3
      rw [hc, hr]
      rcases hlp with ⟨σ3, μ3, j3, s1, s2, s3, s4, s5, s6, s7, s8⟩ | ⟨f, σ3, μ3, s1, s2, q, s3, s4, s5, s6, s7, s8, s9⟩
      · left
        exact ⟨σ3, μ3, j3, s1, s2, hl1.pm hs0 s3 s8, s4, s5, s6⟩
      · right
        refine ⟨f, σ3, μ3, s1, s2, q, ?_, s4, s5, ?_, ?_, k10.tr s8, by rw [s9, k12 16 (by decide) (by decide)]⟩
        · rw [← k11 13 (by decide)]; exact s3
        · rw [s6, k12 11 (by decide) (by decide)]
        · rw [s7, k12 12 (by decide) (by decide)]
  · right
    have hm3 : ¬ gI μ 4 = 3 := by rw [w3]; intro q; exact h3 ((kMd_at 3 (by decide +kernel) w4).mp (by rw [q]; decide))
    obtain ⟨τ, e1, e2⟩ := c_dec1 l1 (gI σ0 9) h3
    refine ⟨1, τ, pI (pI μ 7 1) 8 (gI μ 5), by rw [e1, bd_of, st_parm _ e2], by rw [hm]; exact m_pmW (m + 7) hbg.2.1 hm3 hn00.1 hn00.2 (by rw [hN.2.2.1]; decide), gI σ 18, e2, rfl, l1.1.2.2.2.2.1.symm, rfl, rfl, ((EqR.rf μ).I (by decide)).I (by decide), rfl⟩
/-- what a lambda's tail is -/
def laT (E : S5 → Option (Int32 × S5)) (s : Int32) (σ : S5) : Option (Int32 × S5) := bd (f_X5_readWithin E s σ) (fun r79 τ79 => gd s 700 <| bd (f_X9_addLeaf 14 s (pA τ79 23 s r79)) (fun r90 τ90 => some (r90, pI τ90 14 (gI τ90 14 - 1))))
theorem c_lam {σ0 : S5} {E : S5 → Option (Int32 × S5)} {σ3 : S5} (hk : gI σ0 17 = 92) (ho : gI σ0 14 < 30) (hp : gI σ0 13 < 600) (h9 : 0 ≤ gI σ0 9) (h9' : gI σ0 9 < 700) (e1 : f_X10_advance (cSc (cP (pI σ0 14 (gI σ0 14 + 1))) (gI σ0 15) (gI σ0 18) (gI σ0 9)) = some ((), σ3)) : f_X5_readLambda E σ0 = bd (bd (f_X5_declare (gI σ0 9) σ3) (fun _ τ => f_X5_readParameters (gI σ0 9) τ)) (fun _ τ => bd (f_X5_expect 46 τ) (fun _ ρ => laT E (gI σ0 9) ρ)) := by
  have hadd := c_add61 (σ := cP (pI σ0 14 (gI σ0 14 + 1))) (gI (cP (pI σ0 14 (gI σ0 14 + 1))) 15) (gI (cP (pI σ0 14 (gI σ0 14 + 1))) 18) h9 h9'
  have e1' : f_X10_advance (cSc (cP (pI σ0 14 (gI σ0 14 + 1))) (gI (cP (pI σ0 14 (gI σ0 14 + 1))) 15) (gI (cP (pI σ0 14 (gI σ0 14 + 1))) 18) (gI (cP (pI σ0 14 (gI σ0 14 + 1))) 9)) = some ((), σ3) := e1
  unfold f_X5_readLambda f_X5_opens
  rw [if_pos ho, bd_of, if_neg (by decide), c_cnt0 (σ := pI σ0 14 (gI σ0 14 + 1)) hp (by show ¬ gI σ0 17 = 0; rw [hk]; decide), bd_of]
  unfold f_X5_readLifted f_X5_readLifted_b17
  rw [if_pos (show gI (cP (pI σ0 14 (gI σ0 14 + 1))) 17 = 92 from hk), hadd, bd_of, if_neg (by decide), e1', bd_of]
  unfold f_X5_readLifted_b49 f_X5_readLifted_b66 laT
  rw [bd_as, bd_as]
  have hgI : gI (cP (pI σ0 14 (gI σ0 14 + 1))) 9 = gI σ0 9 := rfl
  rw [hgI]
  congr 1
  funext a τ
  rw [bd_as]
  congr 1
  funext b ρ
  rw [if_neg (by decide), bd_as]
  congr 1
  funext d ω
  rw [bd_as]
  congr 1
  funext f κ
  unfold gd
  split
  · rfl
  · rw [bd_as]
    congr 1
