theorem m_94F {rec : Int32 → Int32 → S5 → Option (Unit × S5)} {μ : S5} {n v : Int32} (h7 : ¬ gI μ 7 = 0) (hn0 : 0 ≤ n) (hn1 : n < 3200) : f_X12_parameters_b94 rec n v μ = rec n v μ := by
  have h138 : f_X12_parameters_b138 rec n v (gJ μ 0) μ = rec n v μ := by
    unfold f_X12_parameters_b138 f_X12_parameters_b152 f_X12_parameters_b168
    rw [m_accF 1 h7, m_accF 0 h7, bd_of, if_neg h7, ite_self]
  unfold f_X12_parameters_b94
  rw [gd3200 hn0 hn1, gd3200 hn0 hn1, h138, if_neg h7]
  simp only [ite_self]
theorem m_94N {rec : Int32 → Int32 → S5 → Option (Unit × S5)} {μ : S5} {n v : Int32} (hn0 : 0 ≤ n) (hn1 : n < 3200) (h : ¬ xA μ 2 n = 1 ∨ ¬ xA μ 10 n = 0 ∨ ¬ gI μ 4 = 3) : f_X12_parameters_b94 rec n v μ = f_X12_parameters_b138 rec n v (gJ μ 0) μ := by
  unfold f_X12_parameters_b94
  rw [gd3200 hn0 hn1, gd3200 hn0 hn1]
  by_cases c1 : xA μ 2 n = 1
  · rw [if_pos c1]
    by_cases c2 : xA μ 10 n = 0
    · rw [if_pos c2]
      rw [if_neg (by rcases h with h | h | h; exact absurd c1 h; exact absurd c2 h; exact h)]
    · rw [if_neg c2]
  · rw [if_neg c1]
theorem m_pmF {μ : S5} {n v : Int32} (m : Nat) (h7 : ¬ gI μ 7 = 0) : f_X12_parameters_L10 (m + 1) n v μ = some ((), μ) := by
  show f_X12_parameters_B10 _ _ _ _ = _
  unfold f_X12_parameters_B10
  rw [if_neg h7]
theorem m_pmX {μ : S5} {n v : Int32} (m : Nat) (h7 : gI μ 7 = 0) (h3 : ¬ gI μ 4 = 3) (hn0 : 0 ≤ n) (hn1 : n < 3200) (hv : v ≤ xA μ 10 n) : f_X12_parameters_L10 (m + 1) n v μ = some ((), μ) := by
  show f_X12_parameters_B10 _ _ _ _ = _
  unfold f_X12_parameters_B10
  rw [if_pos h7, if_neg h3, gd3200 hn0 hn1, if_pos hv]
theorem m_pmW {μ : S5} {n v : Int32} (m : Nat) (h7 : gI μ 7 = 0) (h3 : ¬ gI μ 4 = 3) (hn0 : 0 ≤ n) (hn1 : n < 3200) (hv : ¬ v ≤ xA μ 10 n) : f_X12_parameters_L10 (m + 2) n v μ = some ((), pI (pI μ 7 1) 8 (gI μ 5)) := by
  show f_X12_parameters_B10 (f_X12_parameters_L10 (m + 1)) _ _ _ = _
  unfold f_X12_parameters_B10 f_X12_parameters_b35 f_X12_parameters_b67
  rw [if_pos h7, if_neg h3, gd3200 hn0 hn1, if_neg hv, if_neg h3, if_neg h3, m_94N hn0 hn1 (Or.inr (Or.inr h3))]
  unfold f_X12_parameters_b138 f_X12_parameters_b152 f_X12_parameters_b168
  rw [if_neg h3, m_acc0 h7, bd_of, if_neg (show ¬ gI (pI (pI μ 7 1) 8 (gI μ 5)) 7 = 0 from (by decide : ¬ (1 : Int32) = 0))]
  exact m_pmF m (by exact (by decide : ¬ (1 : Int32) = 0))
theorem m_pmG {μ : S5} {n v : Int32} (m : Nat) (h7 : gI μ 7 = 0) (h3 : gI μ 4 = 3) (hn0 : 0 ≤ n) (hn1 : n < 3200) (hg : f_X12_isGiven n (gJ μ 0) μ = some (1, μ)) : f_X12_parameters_L10 (m + 2) n v μ = some ((), pI (pI μ 7 2) 8 (gI μ 5)) := by
  show f_X12_parameters_B10 (f_X12_parameters_L10 (m + 1)) _ _ _ = _
  unfold f_X12_parameters_B10 f_X12_parameters_b35
  rw [if_pos h7, if_pos h3, if_pos h3, hg, bd_of, if_neg (by decide), m_fail0 _ _ h7, bd_of, m_94F (show ¬ gI (pI (pI μ 7 2) 8 (gI μ 5)) 7 = 0 from (by decide : ¬ (2 : Int32) = 0)) hn0 hn1]
  exact m_pmF m (by exact (by decide : ¬ (2 : Int32) = 0))
theorem m_pm5 {μ : S5} {n v : Int32} (m : Nat) (h7 : gI μ 7 = 0) (h3 : gI μ 4 = 3) (hn0 : 0 ≤ n) (hn1 : n < 3200) (hg : f_X12_isGiven n (gJ μ 0) μ = some (0, μ)) (h5 : xA μ 10 n = 5) : f_X12_parameters_L10 (m + 2) n v μ = some ((), pI (pI μ 7 4) 8 (gI μ 5)) := by
  show f_X12_parameters_B10 (f_X12_parameters_L10 (m + 1)) _ _ _ = _
  unfold f_X12_parameters_B10 f_X12_parameters_b35 f_X12_parameters_b67
  rw [if_pos h7, if_pos h3, if_pos h3, hg, bd_of, if_pos rfl, if_pos h3, gd3200 hn0 hn1, if_pos h5, m_fail0 _ _ h7, bd_of, m_94F (show ¬ gI (pI (pI μ 7 4) 8 (gI μ 5)) 7 = 0 from (by decide : ¬ (4 : Int32) = 0)) hn0 hn1]
  exact m_pmF m (by exact (by decide : ¬ (4 : Int32) = 0))
theorem m_pmN {μ μ1 μ' : S5} {n v : Int32} (m : Nat) (h7 : gI μ 7 = 0) (h3 : gI μ 4 = 3) (hn0 : 0 ≤ n) (hn1 : n < 3200) (hg : f_X12_isGiven n (gJ μ 0) μ = some (0, μ)) (h5 : ¬ xA μ 10 n = 5) (hb : ¬ xA μ 2 n = 1 ∨ ¬ xA μ 10 n = 0) (e1 : f_X12_next μ = some ((), μ1)) (e2 : gI μ1 7 = 0) (e3 : f_X12_giveName n (gJ μ 0) μ1 = some ((), μ')) : f_X12_parameters_L10 (m + 1) n v μ = f_X12_parameters_L10 m n v μ' := by
  show f_X12_parameters_B10 (f_X12_parameters_L10 m) _ _ _ = _
  unfold f_X12_parameters_B10 f_X12_parameters_b35 f_X12_parameters_b67
  rw [if_pos h7, if_pos h3, if_pos h3, hg, bd_of, if_pos rfl, if_pos h3, gd3200 hn0 hn1, if_neg h5, m_94N hn0 hn1 (by rcases hb with hb | hb; exact Or.inl hb; exact Or.inr (Or.inl hb))]
  unfold f_X12_parameters_b138 f_X12_parameters_b152 f_X12_parameters_b168
  rw [if_pos h3, m_acc1 h7, e1, bd_of, if_pos e2, e3, bd_of]
/-- what reading parameters changes -/
def PmF (σ σ' μ μ' : S5) (s n : Int32) : Prop := NF σ σ' μ μ' s n ∧ EqE σ σ' ∧ EqR μ μ' ∧ (∀ k, (k < 16 ∨ 19 < k) → gI σ' k = gI σ k) ∧ (∀ k, (k < 3 ∨ 6 < k) → ¬ k = 10 → gI μ' k = gI μ k) ∧ gI μ 10 ≤ gI μ' 10 ∧ gI σ 18 ≤ gI σ' 18 ∧ iv μ' 10 + iv σ 18 ≤ iv μ 10 + iv σ' 18
theorem PmF.rf (σ μ : S5) (s n : Int32) : PmF σ σ μ μ s n := ⟨NF.rf σ μ s n, EqE.rf σ, EqR.rf μ, fun _ _ => rfl, fun _ _ _ => rfl, by grind, by grind, by omega⟩
theorem PmF.tr {σ σ1 σ2 μ μ1 μ2 : S5} {s n : Int32} (h : PmF σ σ1 μ μ1 s n) (h2 : PmF σ1 σ2 μ1 μ2 s n) : PmF σ σ2 μ μ2 s n := by
  obtain ⟨a1, a2, a3, a4, a5, a6, a7, a8⟩ := h
  obtain ⟨b1, b2, b3, b4, b5, b6, b7, b8⟩ := h2
  exact ⟨a1.tr b1 a6, a2.tr b2, a3.tr b3, fun k w => (b4 k w).trans (a4 k w), fun k w w2 => (b5 k w w2).trans (a5 k w w2), i_trans a6 b6, i_trans a7 b7, by omega⟩
/-- both end at a fault while they read names -/
def PmD (f : Int32) (σ σ' μ μ' : S5) : Prop := ∃ q : Int32, St f q (gI σ 13) σ' ∧ gI μ' 7 = f ∧ gI μ' 8 = q ∧ gI μ' 11 = gI μ 11 ∧ gI μ' 12 = gI μ 12 ∧ EqR μ μ' ∧ gI μ' 16 = gI μ 16
theorem c_pmX {σ : S5} {s v : Int32} (m : Nat) (h3 : ¬ gI σ 17 = 3) : f_X5_readParameters_L2 (m + 1) s v σ = some ((), σ) := by
  show f_X5_readParameters_B2 _ _ _ _ = _
  unfold f_X5_readParameters_B2
  rw [if_neg h3, ite_self]
theorem c_pmN {σ τ : S5} {s v r : Int32} (m : Nat) (h3 : gI σ 17 = 3) (hv : ¬ 5 < v) (hd : f_X5_declare s σ = some (r, τ)) : f_X5_readParameters_L2 (m + 1) s v σ = f_X5_readParameters_L2 m s (v + 1) τ := by
  show f_X5_readParameters_B2 _ _ _ _ = _
  unfold f_X5_readParameters_B2
  rw [if_neg hv, if_pos h3, hd, bd_of]
theorem pm_loop {s n v : Int32} (hs0 : 0 ≤ s) (hs1 : s < 700) (hn0 : 0 ≤ n) (hn1 : n < 3200) : ∀ (d j i m m' : Nat) (σ μ : S5), j + d = 5 → i ≤ j → d + 1 < m → d + 1 < m' → Sim σ μ → NM σ μ s n j → xA μ 9 n + nI j = gI μ 10 → (¬ xA μ 2 n = 1 ∨ 0 < j) → v ≤ nI j → (∃ (σ' μ' : S5) (j' : Nat), f_X5_readParameters_L2 m s (nI i) σ = some ((), σ') ∧ f_X12_parameters_L10 m' n v μ = some ((), μ') ∧ Sim σ' μ' ∧ NM σ' μ' s n j' ∧ j ≤ j' ∧ xA μ' 9 n + nI j' = gI μ' 10 ∧ ¬ gI σ' 17 = 3 ∧ PmF σ σ' μ μ' s n) ∨ (∃ (f : Int32) (σ' μ' : S5), f_X5_readParameters_L2 m s (nI i) σ = some ((), σ') ∧ f_X12_parameters_L10 m' n v μ = some ((), μ') ∧ PmD f σ σ' μ μ') := by
  intro d
  induction d with
  | zero =>
    intro j i m m' σ μ hjd hij hm hm' hs hN hg hb hv
    obtain ⟨m, rfl⟩ : ∃ x, m = x + 2 := ⟨m - 2, by omega⟩
    obtain ⟨m', rfl⟩ : ∃ x, m' = x + 2 := ⟨m' - 2, by omega⟩
    have hbg := hs.2.2
    unfold Bg at hbg
    have w3 := hs.1.2.2.1
    have w4 := hs.1.2.2.2.1
    by_cases h3 : gI σ 17 = 3
    · have hm3 : gI μ 4 = 3 := by rw [w3, h3]; decide
      have hi5 : ¬ 5 < nI i := fun w => by have := (nI_lt31 (a := 5) (b := i) (by omega) (by omega)).mp w; omega
      right
      rcases c_decl hs hN hs0 hs1 hn0 hn1 h3 with ⟨e1, τ, e2, e3⟩ | ⟨e1, ⟨e2, τ, e3, e4⟩ | ⟨e2, e3⟩⟩
      · refine ⟨2, τ, _, ?_, m_pmG m' hbg.2.1 hm3 hn0 hn1 e1, gI σ 18, e3, rfl, hs.1.2.2.2.2.1.symm, rfl, rfl, ((EqR.rf μ).I (by decide)).I (by decide), rfl⟩
        rw [c_pmN (m + 1) h3 hi5 e2, c_pmX m (by rw [e3.1]; decide)]
      · refine ⟨4, τ, _, ?_, m_pm5 m' hbg.2.1 hm3 hn0 hn1 e1 (by rw [hN.2.2.1, e2]; rfl), gI σ 18, e4, rfl, hs.1.2.2.2.2.1.symm, rfl, rfl, ((EqR.rf μ).I (by decide)).I (by decide), rfl⟩
        rw [c_pmN (m + 1) h3 hi5 e3, c_pmX m (by rw [e4.1]; decide)]
      · exfalso; omega
    · have hm3 : ¬ gI μ 4 = 3 := by rw [w3]; intro q; exact h3 ((kMd_at 3 (by decide +kernel) w4).mp (by rw [q]; decide))
      left
      exact ⟨σ, μ, j, c_pmX (m + 1) h3, m_pmX (m' + 1) hbg.2.1 hm3 hn0 hn1 (by rw [hN.2.2.1]; exact hv), hs, hN, Nat.le_refl j, hg, h3, PmF.rf σ μ s n⟩
  | succ d ih =>
    intro j i m m' σ μ hjd hij hm hm' hs hN hg hb hv
    obtain ⟨m, rfl⟩ : ∃ x, m = x + 2 := ⟨m - 2, by omega⟩
    obtain ⟨m', rfl⟩ : ∃ x, m' = x + 2 := ⟨m' - 2, by omega⟩
    have hbg := hs.2.2
    unfold Bg at hbg
    have hp3 := hs.p3
    have w3 := hs.1.2.2.1
    have w4 := hs.1.2.2.2.1
    by_cases h3 : gI σ 17 = 3
    · have hm3 : gI μ 4 = 3 := by rw [w3, h3]; decide
      have hi5 : ¬ 5 < nI i := fun w => by have := (nI_lt31 (a := 5) (b := i) (by omega) (by omega)).mp w; omega
      rcases c_decl hs hN hs0 hs1 hn0 hn1 h3 with ⟨e1, τ, e2, e3⟩ | ⟨e1, ⟨e2, τ, e3, e4⟩ | ⟨e2, e3⟩⟩
      · right
        refine ⟨2, τ, _, ?_, m_pmG m' hbg.2.1 hm3 hn0 hn1 e1, gI σ 18, e3, rfl, hs.1.2.2.2.2.1.symm, rfl, rfl, ((EqR.rf μ).I (by decide)).I (by decide), rfl⟩
        rw [c_pmN (m + 1) h3 hi5 e2, c_pmX m (by rw [e3.1]; decide)]
      · right
        refine ⟨4, τ, _, ?_, m_pm5 m' hbg.2.1 hm3 hn0 hn1 e1 (by rw [hN.2.2.1, e2]; rfl), gI σ 18, e4, rfl, hs.1.2.2.2.2.1.symm, rfl, rfl, ((EqR.rf μ).I (by decide)).I (by decide), rfl⟩
        rw [c_pmN (m + 1) h3 hi5 e3, c_pmX m (by rw [e4.1]; decide)]
      · obtain ⟨σ1, μ1, μ2, k1, k2, k3, k4, k5, k6, k7, k8, k9, k10, k11, k12, k13, k14, k15⟩ := nm_step hs hN e2 hs0 hs1 hn0 hn1 h3 hg e3
        have hn5 : ¬ xA μ 10 n = 5 := by
          rw [hN.2.2.1]
          intro w
          have := nI_inj (a := j) (b := 5) (by omega) (by omega) w
          omega
        have hb2 : ¬ xA μ 2 n = 1 ∨ ¬ xA μ 10 n = 0 := by
          rcases hb with hb | hb
          · exact Or.inl hb
          · right
            rw [hN.2.2.1]
            intro w
            have := nI_inj (a := j) (b := 0) (by omega) (by omega) w
            omega
        have hvj : v ≤ nI (j + 1) := by
          rw [← nI_add1]
          have hj5 : 0 ≤ nI j ∧ nI j ≤ 5 := ⟨i_le0 (nI_nneg (by omega)), (nI_le31 (b := 5) (by omega) (by omega)).mpr (by omega)⟩
          grind
        have hstep := ih (j + 1) (i + 1) (m + 1) (m' + 1) σ1 μ2 (by omega) (by omega) (by omega) (by omega) k5 k6 k7 (Or.inr (by omega)) hvj
        have hPF : PmF σ σ1 μ μ2 s n := by
          have i18 := iv_lt k14
          have m10 := iv_a1 k13 (by grind) (by grind)
          exact ⟨k8, k9, k10, k11, k12, by rw [k13]; grind, by grind, by omega⟩
        rw [c_pmN (m + 1) h3 hi5 k1, nI_add1, m_pmN (m' + 1) hbg.2.1 hm3 hn0 hn1 e1 hn5 hb2 k2 k4 k3]
        rcases hstep with ⟨σ3, μ3, j3, s1, s2, s3, s4, s5, s6, s7, s8⟩ | ⟨f, σ3, μ3, s1, s2, q, s3, s4, s5, s6, s7, s8, s9⟩
        · left
          exact ⟨σ3, μ3, j3, s1, s2, s3, s4, by omega, s6, s7, hPF.tr s8⟩
        · right
          refine ⟨f, σ3, μ3, s1, s2, q, ?_, s4, s5, ?_, ?_, k10.tr s8, by rw [s9, k12 16 (by decide) (by decide)]⟩
          · rw [← k11 13 (by decide)]; exact s3
          · rw [s6, k12 11 (by decide) (by decide)]
          · rw [s7, k12 12 (by decide) (by decide)]
    · have hm3 : ¬ gI μ 4 = 3 := by rw [w3]; intro q; exact h3 ((kMd_at 3 (by decide +kernel) w4).mp (by rw [q]; decide))
      left
      exact ⟨σ, μ, j, c_pmX (m + 1) h3, m_pmX (m' + 1) hbg.2.1 hm3 hn0 hn1 (by rw [hN.2.2.1]; exact hv), hs, hN, Nat.le_refl j, hg, h3, PmF.rf σ μ s n⟩
