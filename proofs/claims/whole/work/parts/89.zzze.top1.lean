/-- like Bm, with room for one node more -/
def Bw (σ μ : S5) : Prop := iv σ 8 ≤ 2 * iv σ 18 ∧ iv σ 9 ≤ iv σ 5 + iv σ 13 ∧ iv σ 10 ≤ iv σ 13 ∧ 2 * iv μ 9 ≤ 2 * iv σ 13 + iv σ 18 + 2 ∧ iv μ 10 ≤ iv σ 18
theorem Bw.gr {e d : Int} {σ σ' μ μ' : S5} (h : Bw σ μ) (g : Gm e d σ σ' μ μ') (he : 0 ≤ e) (hd : 0 ≤ d) (h5 : gI σ' 5 = gI σ 5) : Bw σ' μ' := by
  have h5' := iv_eq h5
  unfold Bw Gm at *
  omega
/-- like Bg, where nothing is around -/
def Bv (σ μ : S5) : Prop := gI σ 11 = 0 ∧ gI μ 7 = 0 ∧ gI σ 13 = gI μ 11 ∧ 0 ≤ gI σ 13 ∧ gI σ 13 ≤ 600 ∧ gI σ 14 = gI μ 15 ∧ 0 ≤ gI σ 14 ∧ gI σ 14 ≤ 30 ∧ 0 ≤ gI σ 8 ∧ gI σ 8 ≤ 6000 ∧ 0 ≤ gI σ 9 ∧ gI σ 9 ≤ 630 ∧ 0 ≤ gI σ 5 ∧ gI σ 5 ≤ 30 ∧ 0 ≤ gI σ 10 ∧ gI σ 10 ≤ gI σ 13 ∧ 0 ≤ gI μ 9 ∧ gI μ 9 ≤ 2101 ∧ 0 ≤ gI μ 10 ∧ gI μ 10 ≤ gI σ 18 ∧ -1 ≤ gI σ 15 ∧ gI σ 15 < 700 ∧ Bw σ μ
theorem Bv_mk {σ μ : S5} (b1 : gI σ 11 = 0) (b2 : gI μ 7 = 0) (b3 : gI σ 13 = gI μ 11) (b4 : 0 ≤ gI σ 13) (b5 : gI σ 13 ≤ 600) (b6 : gI σ 14 = gI μ 15) (b7 : 0 ≤ gI σ 14) (b8 : gI σ 14 ≤ 30) (b9 : 0 ≤ gI σ 8) (b11 : 0 ≤ gI σ 9) (b13 : 0 ≤ gI σ 5) (b14 : gI σ 5 ≤ 30) (b15 : 0 ≤ gI σ 10) (b17 : 0 ≤ gI μ 9) (b19 : 0 ≤ gI μ 10) (b21 : -1 ≤ gI σ 15) (b22 : gI σ 15 < 700) (hp : gI σ 18 ≤ 3000) (hm : Bw σ μ) : Bv σ μ := by
  have hp' := iv_fr hp
  have h13 := iv_fr b5
  have h5 := iv_fr b14
  have e1 : (3000 : Int32).toInt = 3000 := rfl
  have e2 : (600 : Int32).toInt = 600 := rfl
  have e3 : (30 : Int32).toInt = 30 := rfl
  have e4 : (6000 : Int32).toInt = 6000 := rfl
  have e5 : (630 : Int32).toInt = 630 := rfl
  have e6 : (2101 : Int32).toInt = 2101 := rfl
  have hm' := hm
  obtain ⟨m1, m2, m3, m4, m5⟩ := hm'
  exact ⟨b1, b2, b3, b4, b5, b6, b7, b8, b9, iv_to (by omega), b11, iv_to (by omega), b13, b14, b15, iv_tt m3, b17, iv_to (by omega), b19, iv_tt m5, b21, b22, hm⟩
def Sv (σ μ : S5) : Prop := Wd σ μ ∧ Ct σ μ ∧ Bv σ μ
theorem Sv.p3 {σ μ : S5} (h : Sv σ μ) : 0 ≤ gI σ 18 ∧ gI σ 18 ≤ 3000 := by
  obtain ⟨⟨h1, h2, h3, h4, h5, h6, h7, h8, h9, h10, h11⟩, _⟩ := h
  have := h1.2.2.1
  exact ⟨h6, by grind⟩
theorem Sv.rg {σ μ : S5} (h : Sv σ μ) : rg σ := by
  have hp := h.p3
  obtain ⟨hw, hc, hb⟩ := h
  unfold Bv at hb
  obtain ⟨c1, c2, c3, c4⟩ := hc
  exact ⟨by grind, by grind, by grind, by grind, by grind, by grind, c3, fun i q1 q2 => (c4 i q1 q2).2.2.2⟩
theorem Sv.bm {σ μ : S5} (h : Sv σ μ) : Bw σ μ := by
  have hb := h.2.2
  unfold Bv at hb
  exact hb.2.2.2.2.2.2.2.2.2.2.2.2.2.2.2.2.2.2.2.2.2.2
theorem c_refv {σ μ : S5} (h : Sv σ μ) {k : Int32} (hk : ¬ k = 0) : ∃ τ, f_X5_refuse k σ = some ((), τ) ∧ St k (gI σ 18) (gI σ 13) τ := by
  have hr := h.rg
  unfold f_X5_refuse f_X10_stop
  rw [if_pos h.2.2.1]
  exact ⟨_, rfl, rfl, hk, rfl, rfl, rfl, hr⟩
theorem c_declv {σ μ : S5} (hs : Sv σ μ) {s n : Int32} {j : Nat} (h : NM σ μ s n j) (hs0 : 0 ≤ s) (hs1 : s < 700) (hn0 : 0 ≤ n) (hn1 : n < 3200) (hk : gI σ 17 = 3) : (f_X12_isGiven n (gJ μ 0) μ = some (1, μ) ∧ ∃ τ, f_X5_declare s σ = some (0, τ) ∧ St 2 (gI σ 18) (gI σ 13) τ) ∨ (f_X12_isGiven n (gJ μ 0) μ = some (0, μ) ∧ ((j = 5 ∧ ∃ τ, f_X5_declare s σ = some (0, τ) ∧ St 4 (gI σ 18) (gI σ 13) τ) ∨ (j ≤ 4 ∧ f_X5_declare s σ = bd (f_X10_advance (cNm σ s j)) (fun _ τ => some (s * 5 + nI j, τ))))) := by
  obtain ⟨b, hb, e1, e2⟩ := has_go h hs0 hs1 hn0 hn1 (gJ σ 0)
  have hj : gJ σ 0 = gJ μ 0 := hs.1.2.2.2.2.2.2.2.2.2.1 (Or.inl hk)
  rw [hj] at e2
  obtain ⟨h5, h20, h10, h9, h9', hrow⟩ := h
  unfold f_X5_declare
  rw [if_pos hk, e1, bd_of]
  rcases hb with rfl | rfl
  · right
    refine ⟨e2, ?_⟩
    rw [if_pos rfl, gd700 hs0 hs1, h20]
    by_cases c : j = 5
    · left
      obtain ⟨τ, g1, g2⟩ := c_refv hs (k := 4) (by decide)
      refine ⟨c, τ, ?_, g2⟩
      rw [if_neg (by rw [c]; decide), g1, bd_of]
    · right
      refine ⟨by omega, ?_⟩
      have hrg := s5_rg (i := j) hs0 hs1 (by omega)
      have hlt : nI j < 5 := (nI_lt31 (a := j) (b := 5) (by omega) (by omega)).mpr (by omega)
      rw [if_pos hlt]
      unfold f_X6_addName
      simp only [gd700 hs0 hs1, h20, gd3500 hrg.1 hrg.2, bd_of]
      rfl
  · left
    obtain ⟨τ, g1, g2⟩ := c_refv hs (k := 2) (by decide)
    refine ⟨e2, τ, ?_, g2⟩
    rw [if_neg (by decide), g1, bd_of]
theorem nm_stepv {σ μ : S5} (hs : Sv σ μ) {s n : Int32} {j : Nat} (h : NM σ μ s n j) (hj : j ≤ 4) (hs0 : 0 ≤ s) (hs1 : s < 700) (hn0 : 0 ≤ n) (hn1 : n < 3200) (hk : gI σ 17 = 3) (hg : xA μ 9 n + nI j = gI μ 10) (hd : f_X5_declare s σ = bd (f_X10_advance (cNm σ s j)) (fun _ τ => some (s * 5 + nI j, τ))) : ∃ σ' μ1 μ' : S5, f_X5_declare s σ = some (s * 5 + nI j, σ') ∧ f_X12_next μ = some ((), μ1) ∧ f_X12_giveName n (gJ μ 0) μ1 = some ((), μ') ∧ gI μ1 7 = 0 ∧ Sv σ' μ' ∧ NM σ' μ' s n (j + 1) ∧ xA μ' 9 n + nI (j + 1) = gI μ' 10 ∧ NF σ σ' μ μ' s n ∧ EqE σ σ' ∧ EqR μ μ' ∧ (∀ k, (k < 16 ∨ 19 < k) → gI σ' k = gI σ k) ∧ (∀ k, (k < 3 ∨ 6 < k) → ¬ k = 10 → gI μ' k = gI μ k) ∧ gI μ' 10 = gI μ 10 + 1 ∧ gI σ 18 < gI σ' 18 ∧ xB σ' 3 (s * 5 + nI j) = gJ σ 0 := by
  have hb := hs.2.2
  unfold Bv at hb
  have hp3 := hs.p3
  have hjn : gJ σ 0 = gJ μ 0 := hs.1.2.2.2.2.2.2.2.2.2.1 (Or.inl hk)
  obtain ⟨h5, h20, h10, h9, h9', hrow⟩ := h
  obtain ⟨e, kc, p, v, z, vm, zm, a1, a2, a3, a4, a5, a6⟩ := adv (hs.1.cNm (s := s) (j := j)) (by rw [cNm_gI, hk]; decide)
  rw [cNm_gI] at a4
  rw [a1, bd_of] at hd
  have q10 : gI (wdM μ e (kMd kc) p vm zm) 10 = gI μ 10 := gI_wdM (by decide)
  have x10 : xA (wdM μ e (kMd kc) p vm zm) 10 n = nI j := (xA_wdM ..).trans h10
  have hgv := m_give (μ := wdM μ e (kMd kc) p vm zm) (n := n) (j := j) (gJ μ 0) x10 hn0 hn1 (by rw [q10]; grind) (by rw [q10]; grind)
  have hW : Wd (wdC (cNm σ s j) e kc p v z) (mNm (wdM μ e (kMd kc) p vm zm) n (gJ μ 0) j) := a3.Nm
  have hEE : EqE σ (wdC (cNm σ s j) e kc p v z) := ((EqE.rf σ).Nm).w
  have hER : EqR μ (mNm (wdM μ e (kMd kc) p vm zm) n (gJ μ 0) j) := ((EqR.rf μ).w).Nm
  have hI : ∀ k, (k < 16 ∨ 19 < k) → gI (wdC (cNm σ s j) e kc p v z) k = gI σ k := fun k h => (gI_wdC h).trans (cNm_gI ..)
  have hM : ∀ k, (k < 3 ∨ 6 < k) → ¬ k = 10 → gI (mNm (wdM μ e (kMd kc) p vm zm) n (gJ μ 0) j) k = gI μ k := fun k h h2 => (mNm_gI _ _ _ _ h2).trans (gI_wdM h)
  have hM10 : gI (mNm (wdM μ e (kMd kc) p vm zm) n (gJ μ 0) j) 10 = gI μ 10 + 1 := by rw [mNm_10, q10]
  have hI18 : gI (wdC (cNm σ s j) e kc p v z) 18 = p := p_wdC
  have h7 : gI (wdM μ e (kMd kc) p vm zm) 7 = 0 := (gI_wdM (by decide)).trans hb.2.1
  have rA : ∀ k i, xA (wdC (cNm σ s j) e kc p v z) k i = if k = 20 ∧ i.toNatClampNeg = s.toNatClampNeg then nI j + 1 else xA σ k i := fun k i => by
    rw [xA_wdC]; unfold cNm; rw [xA_pA, xA_pB]
  have rB : ∀ k i, xB (wdC (cNm σ s j) e kc p v z) k i = if k = 3 ∧ i.toNatClampNeg = (s * 5 + nI j).toNatClampNeg then gJ σ 0 else xB σ k i := fun k i => by
    rw [xB_wdC]; unfold cNm; rw [xB_pA, xB_pB]
  have mA : ∀ k i, xA (mNm (wdM μ e (kMd kc) p vm zm) n (gJ μ 0) j) k i = if k = 10 ∧ i.toNatClampNeg = n.toNatClampNeg then nI j + 1 else xA μ k i := fun k i => by
    unfold mNm; rw [xA_pA, xA_pI, xA_pB, xA_wdM]
  have mB : ∀ k i, xB (mNm (wdM μ e (kMd kc) p vm zm) n (gJ μ 0) j) k i = if k = 1 ∧ i.toNatClampNeg = (gI μ 10).toNatClampNeg then gJ μ 0 else xB μ k i := fun k i => by
    unfold mNm; rw [xB_pA, xB_pI, xB_pB, xB_wdM, q10]
  refine ⟨_, _, _, hd, a2, hgv, h7, ?_⟩
  clear hd a1 a2 a3 hgv h7
  generalize wdC (cNm σ s j) e kc p v z = S at *
  generalize mNm (wdM μ e (kMd kc) p vm zm) n (gJ μ 0) j = M at *
  have hrg := s5_rg (i := j) hs0 hs1 (by omega)
  have hj5 : 0 ≤ nI j ∧ nI j ≤ 4 := ⟨i_le0 (nI_nneg (by omega)), (nI_le31 (b := 4) (by omega) (by omega)).mpr hj⟩
  have hGm : Gm 0 0 σ S μ M := by
    have i8 := iv_eq (hI 8 (by decide))
    have i9 := iv_eq (hI 9 (by decide))
    have i10 := iv_eq (hI 10 (by decide))
    have i13 := iv_eq (hI 13 (by decide))
    have i18 : iv σ 18 < iv S 18 := iv_lt (by rw [hI18]; exact a4)
    have m9 := iv_eq (hM 9 (by decide) (by decide))
    have m10 := iv_a1 hM10 (by grind) (by grind)
    unfold Gm
    omega
  have M9 : xA M 9 n = xA μ 9 n := by rw [mA, if_neg (fun w => absurd w.1 (by decide))]
  have hs5 : 0 ≤ s * 5 ∧ s * 5 ≤ 3500 := by
    have := s5_rg (i := 0) hs0 hs1 (by omega)
    rw [show nI 0 = 0 from rfl, Int32.add_zero] at this
    exact ⟨this.1, by grind⟩
  refine ⟨⟨hW, Ct_eq hs.2.1 hEE hER, ?_⟩, ⟨by omega, ?_, ?_, by rw [M9]; exact h9, by rw [M9]; exact h9', fun i hi => ?_⟩, ?_, ⟨fun k i w => ?_, fun i p w => ?_, fun k i w => ?_, fun i p w => ?_, fun k i w => ?_, fun i p w => ?_, fun k i w => ?_, fun i p w => ?_⟩, hEE, hER, hI, hM, hM10, by rw [hI18]; exact a4, ?_⟩
  · have hbm := hs.bm
    obtain ⟨b1, b2, b3, b4, b5, b6, b7, b8, b9, b10, b11, b12, b13, b14, b15, b16, b17, b18, b19, b20, b21, b22, b23⟩ := hb
    exact Bv_mk (by rw [hI 11 (by decide)]; exact b1) (by rw [hM 7 (by decide) (by decide)]; exact b2) (by rw [hI 13 (by decide), hM 11 (by decide) (by decide)]; exact b3) (by rw [hI 13 (by decide)]; exact b4) (by rw [hI 13 (by decide)]; exact b5) (by rw [hI 14 (by decide), hM 15 (by decide) (by decide)]; exact b6) (by rw [hI 14 (by decide)]; exact b7) (by rw [hI 14 (by decide)]; exact b8) (by rw [hI 8 (by decide)]; exact b9) (by rw [hI 9 (by decide)]; exact b11) (by rw [hI 5 (by decide)]; exact b13) (by rw [hI 5 (by decide)]; exact b14) (by rw [hI 10 (by decide)]; exact b15) (by rw [hM 9 (by decide) (by decide)]; exact b17) (by rw [hM10]; grind) (by rw [hI 15 (by decide)]; exact b21) (by rw [hI 15 (by decide)]; exact b22) (by rw [hI18]; exact a6) (hbm.gr hGm (by decide) (by decide) (hI 5 (by decide)))
  · rw [rA, if_pos ⟨rfl, rfl⟩, nI_add1]
  · rw [mA, if_pos ⟨rfl, rfl⟩, nI_add1]
  · rw [M9, rB, mB]
    by_cases c : i = j
    · subst c
      rw [if_pos ⟨rfl, rfl⟩, if_pos ⟨rfl, by rw [hg]⟩]; exact hjn
    · rw [if_neg (fun w => add_ne hs5.1 (by grind) (by omega) (by omega) c w.2), if_neg (fun w => by
        rw [← hg] at w
        exact add_ne h9 (by grind) (by omega) (by omega) c w.2)]
      exact hrow i (by omega)
  · rw [M9, hM10, ← nI_add1, ← hg]; grind
  · rw [rA, if_neg (fun v => w v.1)]
  · rw [rA, if_neg (fun v => w ((i_inj p hs0).mp v.2))]
  · rw [rB, if_neg (fun v => w v.1)]
  · rw [rB, if_neg (fun v => i_ne (a := i) (b := s * 5 + nI j) p (by grind) v.2)]
  · rw [mA, if_neg (fun v => w v.1)]
  · rw [mA, if_neg (fun v => w ((i_inj p hn0).mp v.2))]
  · rw [mB, if_neg (fun v => w v.1)]
  · rw [mB, if_neg (fun v => i_ne p w v.2)]
  · rw [rB, if_pos ⟨rfl, rfl⟩]
theorem pm_loopv {s n v : Int32} (hs0 : 0 ≤ s) (hs1 : s < 700) (hn0 : 0 ≤ n) (hn1 : n < 3200) : ∀ (d j i m m' : Nat) (σ μ : S5), j + d = 5 → i ≤ j → d + 1 < m → d + 1 < m' → Sv σ μ → NM σ μ s n j → xA μ 9 n + nI j = gI μ 10 → (¬ xA μ 2 n = 1 ∨ 0 < j) → v ≤ nI j → (∃ (σ' μ' : S5) (j' : Nat), f_X5_readParameters_L2 m s (nI i) σ = some ((), σ') ∧ f_X12_parameters_L10 m' n v μ = some ((), μ') ∧ Sv σ' μ' ∧ NM σ' μ' s n j' ∧ j ≤ j' ∧ xA μ' 9 n + nI j' = gI μ' 10 ∧ ¬ gI σ' 17 = 3 ∧ PmF σ σ' μ μ' s n) ∨ (∃ (f : Int32) (σ' μ' : S5), f_X5_readParameters_L2 m s (nI i) σ = some ((), σ') ∧ f_X12_parameters_L10 m' n v μ = some ((), μ') ∧ PmD f σ σ' μ μ') := by
  intro d
  induction d with
  | zero =>
    intro j i m m' σ μ hjd hij hm hm' hs hN hg hb hv
    obtain ⟨m, rfl⟩ : ∃ x, m = x + 2 := ⟨m - 2, by omega⟩
    obtain ⟨m', rfl⟩ : ∃ x, m' = x + 2 := ⟨m' - 2, by omega⟩
    have hbg := hs.2.2
    unfold Bv at hbg
    have w3 := hs.1.2.2.1
    have w4 := hs.1.2.2.2.1
    by_cases h3 : gI σ 17 = 3
    · have hm3 : gI μ 4 = 3 := by rw [w3, h3]; decide
      have hi5 : ¬ 5 < nI i := fun w => by have := (nI_lt31 (a := 5) (b := i) (by omega) (by omega)).mp w; omega
      right
      rcases c_declv hs hN hs0 hs1 hn0 hn1 h3 with ⟨e1, τ, e2, e3⟩ | ⟨e1, ⟨e2, τ, e3, e4⟩ | ⟨e2, e3⟩⟩
      · refine ⟨2, τ, _, ?_, m_pmG m' hbg.2.1 hm3 hn0 hn1 e1, gI σ 18, e3, rfl, hs.1.2.2.2.2.1.symm, rfl, rfl, ((EqR.rf μ).I (by decide)).I (by decide), rfl⟩
        rw [c_pmN (m + 1) h3 hi5 e2, c_pmX m (by rw [e3.1]; decide)]
      · refine ⟨4, τ, _, ?_, m_pm5 m' hbg.2.1 hm3 hn0 hn1 e1 (by rw [hN.2.2.1, e2]; rfl), gI σ 18, e4, rfl, hs.1.2.2.2.2.1.symm, rfl, rfl, ((EqR.rf μ).I (by decide)).I (by decide), rfl⟩
        rw [c_pmN (m + 1) h3 hi5 e3, c_pmX m (by rw [e4.1]; decide)]
      · exfalso; omega
    · have hm3 : ¬ gI μ 4 = 3 := by rw [w3]; intro q; exact h3 ((kMd_at 3 (by decide +kernel) w4).mp (by rw [q]; decide))
      left
      exact ⟨σ, μ, j, c_pmX (m + 1) h3, m_pmX (m' + 1) hbg.2.1 hm3 hn0 hn1 (by rw [hN.2.2.1]; exact hv), hs, hN, Nat.le_refl j, hg, h3, PmF.rf σ μ s n⟩
  | succ d ih =>
    intro j i m m' σ μ hjd hij hm hm' hs hN hg hb hv
    obtain ⟨m, rfl⟩ : ∃ x, m = x + 2 := ⟨m - 2, by omega⟩
    obtain ⟨m', rfl⟩ : ∃ x, m' = x + 2 := ⟨m' - 2, by omega⟩
    have hbg := hs.2.2
    unfold Bv at hbg
    have hp3 := hs.p3
    have w3 := hs.1.2.2.1
    have w4 := hs.1.2.2.2.1
    by_cases h3 : gI σ 17 = 3
    · have hm3 : gI μ 4 = 3 := by rw [w3, h3]; decide
      have hi5 : ¬ 5 < nI i := fun w => by have := (nI_lt31 (a := 5) (b := i) (by omega) (by omega)).mp w; omega
      rcases c_declv hs hN hs0 hs1 hn0 hn1 h3 with ⟨e1, τ, e2, e3⟩ | ⟨e1, ⟨e2, τ, e3, e4⟩ | ⟨e2, e3⟩⟩
      · right
        refine ⟨2, τ, _, ?_, m_pmG m' hbg.2.1 hm3 hn0 hn1 e1, gI σ 18, e3, rfl, hs.1.2.2.2.2.1.symm, rfl, rfl, ((EqR.rf μ).I (by decide)).I (by decide), rfl⟩
        rw [c_pmN (m + 1) h3 hi5 e2, c_pmX m (by rw [e3.1]; decide)]
      · right
        refine ⟨4, τ, _, ?_, m_pm5 m' hbg.2.1 hm3 hn0 hn1 e1 (by rw [hN.2.2.1, e2]; rfl), gI σ 18, e4, rfl, hs.1.2.2.2.2.1.symm, rfl, rfl, ((EqR.rf μ).I (by decide)).I (by decide), rfl⟩
        rw [c_pmN (m + 1) h3 hi5 e3, c_pmX m (by rw [e4.1]; decide)]
      · obtain ⟨σ1, μ1, μ2, k1, k2, k3, k4, k5, k6, k7, k8, k9, k10, k11, k12, k13, k14, k15⟩ := nm_stepv hs hN e2 hs0 hs1 hn0 hn1 h3 hg e3
        have hn5 : ¬ xA μ 10 n = 5 := by
          rw [hN.2.2.1]
          intro w
          have := nI_inj (a := j) (b := 5) (by omega) (by omega) w
          omega
        have hb2 : ¬ xA μ 2 n = 1 ∨ ¬ xA μ 10 n = 0 := by
          rcases hb with hb | hb
          · exact Or.inl hb
          · right
            rw [hN.2.2.1]
            intro w
            have := nI_inj (a := j) (b := 0) (by omega) (by omega) w
            omega
        have hvj : v ≤ nI (j + 1) := by
          rw [← nI_add1]
          have hj5 : 0 ≤ nI j ∧ nI j ≤ 5 := ⟨i_le0 (nI_nneg (by omega)), (nI_le31 (b := 5) (by omega) (by omega)).mpr (by omega)⟩
          grind
        have hstep := ih (j + 1) (i + 1) (m + 1) (m' + 1) σ1 μ2 (by omega) (by omega) (by omega) (by omega) k5 k6 k7 (Or.inr (by omega)) hvj
        have hPF : PmF σ σ1 μ μ2 s n := by
          have i18 := iv_lt k14
          have m10 := iv_a1 k13 (by grind) (by grind)
          exact ⟨k8, k9, k10, k11, k12, by rw [k13]; grind, by grind, by omega⟩
        rw [c_pmN (m + 1) h3 hi5 k1, nI_add1, m_pmN (m' + 1) hbg.2.1 hm3 hn0 hn1 e1 hn5 hb2 k2 k4 k3]
        rcases hstep with ⟨σ3, μ3, j3, s1, s2, s3, s4, s5, s6, s7, s8⟩ | ⟨f, σ3, μ3, s1, s2, q, s3, s4, s5, s6, s7, s8, s9⟩
        · left
          exact ⟨σ3, μ3, j3, s1, s2, s3, s4, by omega, s6, s7, hPF.tr s8⟩
        · right
          refine ⟨f, σ3, μ3, s1, s2, q, ?_, s4, s5, ?_, ?_, k10.tr s8, by rw [s9, k12 16 (by decide) (by decide)]⟩
          · rw [← k11 13 (by decide)]; exact s3
          · rw [s6, k12 11 (by decide) (by decide)]
          · rw [s7, k12 12 (by decide) (by decide)]
    · have hm3 : ¬ gI μ 4 = 3 := by rw [w3]; intro q; exact h3 ((kMd_at 3 (by decide +kernel) w4).mp (by rw [q]; decide))
      left
      exact ⟨σ, μ, j, c_pmX (m + 1) h3, m_pmX (m' + 1) hbg.2.1 hm3 hn0 hn1 (by rw [hN.2.2.1]; exact hv), hs, hN, Nat.le_refl j, hg, h3, PmF.rf σ μ s n⟩
theorem sv_adv {σ μ : S5} (hs : Sv σ μ) (hk : ¬ gI σ 17 = 1) : ∃ (e kc p v : Int32) (z : Int64) (vm : Int32) (zm : Int64), f_X10_advance σ = some ((), wdC σ e kc p v z) ∧ f_X12_next μ = some ((), wdM μ e (kMd kc) p vm zm) ∧ Sv (wdC σ e kc p v z) (wdM μ e (kMd kc) p vm zm) ∧ gI σ 18 < p ∧ okK kc = true := by
  obtain ⟨e, kc, p, v, z, vm, zm, a1, a2, a3, a4, a5, a6⟩ := adv hs.1 hk
  have hb := hs.2.2
  unfold Bv at hb
  have hI : ∀ k, (k < 16 ∨ 19 < k) → gI (wdC σ e kc p v z) k = gI σ k := fun k h => gI_wdC h
  have hM : ∀ k, (k < 3 ∨ 6 < k) → gI (wdM μ e (kMd kc) p vm zm) k = gI μ k := fun k h => gI_wdM h
  have hp : gI (wdC σ e kc p v z) 18 = p := p_wdC
  have hEE : EqE σ (wdC σ e kc p v z) := (EqE.rf σ).w
  have hER : EqR μ (wdM μ e (kMd kc) p vm zm) := (EqR.rf μ).w
  refine ⟨e, kc, p, v, z, vm, zm, a1, a2, ?_, a4, a5⟩
  clear a1 a2
  generalize wdC σ e kc p v z = S at *
  generalize wdM μ e (kMd kc) p vm zm = M at *
  refine ⟨a3, Ct_eq hs.2.1 hEE hER, ?_⟩
  have hg : Gm 0 0 σ S μ M := by
    have i8 := iv_eq (hI 8 (by decide))
    have i9 := iv_eq (hI 9 (by decide))
    have i10 := iv_eq (hI 10 (by decide))
    have i13 := iv_eq (hI 13 (by decide))
    have i18 : iv σ 18 < iv S 18 := iv_lt (by rw [hp]; exact a4)
    have m9 := iv_eq (hM 9 (by decide))
    have m10 := iv_eq (hM 10 (by decide))
    unfold Gm
    omega
  have hbm := hs.bm
  obtain ⟨b1, b2, b3, b4, b5, b6, b7, b8, b9, b10, b11, b12, b13, b14, b15, b16, b17, b18, b19, b20, b21, b22, b23⟩ := hb
  exact Bv_mk (by rw [hI 11 (by decide)]; exact b1) (by rw [hM 7 (by decide)]; exact b2) (by rw [hI 13 (by decide), hM 11 (by decide)]; exact b3) (by rw [hI 13 (by decide)]; exact b4) (by rw [hI 13 (by decide)]; exact b5) (by rw [hI 14 (by decide), hM 15 (by decide)]; exact b6) (by rw [hI 14 (by decide)]; exact b7) (by rw [hI 14 (by decide)]; exact b8) (by rw [hI 8 (by decide)]; exact b9) (by rw [hI 9 (by decide)]; exact b11) (by rw [hI 5 (by decide)]; exact b13) (by rw [hI 5 (by decide)]; exact b14) (by rw [hI 10 (by decide)]; exact b15) (by rw [hM 9 (by decide)]; exact b17) (by rw [hM 10 (by decide)]; exact b19) (by rw [hI 15 (by decide)]; exact b21) (by rw [hI 15 (by decide)]; exact b22) (by rw [hp]; exact a6) (hbm.gr hg (by decide) (by decide) (hI 5 (by decide)))
