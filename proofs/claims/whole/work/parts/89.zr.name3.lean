/-- the reference gives a name -/
def mNm (μ : S5) (n : Int32) (z : Int64) (j : Nat) : S5 := pA (pI (pB μ 1 (gI μ 10) z) 10 (gI μ 10 + 1)) 10 n (nI j + 1)
theorem m_give {μ : S5} {n : Int32} {j : Nat} (z : Int64) (h : xA μ 10 n = nI j) (hn0 : 0 ≤ n) (hn1 : n < 3200) (h0 : 0 ≤ gI μ 10) (h1 : gI μ 10 < 3200) : f_X12_giveName n z μ = some ((), mNm μ n z j) := by
  unfold f_X12_giveName mNm
  rw [gd3200 h0 h1, gd3200 hn0 hn1, gd3200 hn0 hn1, h]
theorem Wd.Nm {σ μ : S5} {n : Int32} {z : Int64} {j : Nat} (h : Wd σ μ) : Wd σ (mNm μ n z j) := h
theorem Wd.cNm {σ μ : S5} {s : Int32} {j : Nat} (h : Wd σ μ) : Wd (cNm σ s j) μ := h
theorem EqE.Nm {σ τ : S5} {s : Int32} {j : Nat} (h : EqE σ τ) : EqE σ (cNm τ s j) := (h.B (by decide)).A (by decide)
theorem EqR.Nm {σ τ : S5} {n : Int32} {z : Int64} {j : Nat} (h : EqR σ τ) : EqR σ (mNm τ n z j) := ((h.B (by decide)).I (by decide)).A (by decide)
theorem cNm_gI (σ : S5) (s : Int32) (j k : Nat) : gI (cNm σ s j) k = gI σ k := rfl
theorem mNm_gI (μ : S5) (n : Int32) (z : Int64) (j : Nat) {k : Nat} (h : ¬ k = 10) : gI (mNm μ n z j) k = gI μ k := by
  unfold mNm
  rw [gI_pA, gI_pI, if_neg h, gI_pB]
theorem mNm_10 (μ : S5) (n : Int32) (z : Int64) (j : Nat) : gI (mNm μ n z j) 10 = gI μ 10 + 1 := rfl
/-- what reading names leaves as it was -/
def NF (σ σ' μ μ' : S5) (s n : Int32) : Prop := (∀ k i, ¬ k = 20 → xA σ' k i = xA σ k i) ∧ (∀ i, 0 ≤ i → ¬ i = s → xA σ' 20 i = xA σ 20 i) ∧ (∀ k i, ¬ k = 3 → xB σ' k i = xB σ k i) ∧ (∀ i, 0 ≤ i → i < s * 5 → xB σ' 3 i = xB σ 3 i) ∧ (∀ k i, ¬ k = 10 → xA μ' k i = xA μ k i) ∧ (∀ i, 0 ≤ i → ¬ i = n → xA μ' 10 i = xA μ 10 i) ∧ (∀ k i, ¬ k = 1 → xB μ' k i = xB μ k i) ∧ (∀ i, 0 ≤ i → i < gI μ 10 → xB μ' 1 i = xB μ 1 i)
theorem NF.rf (σ μ : S5) (s n : Int32) : NF σ σ μ μ s n := ⟨fun _ _ _ => rfl, fun _ _ _ => rfl, fun _ _ _ => rfl, fun _ _ _ => rfl, fun _ _ _ => rfl, fun _ _ _ => rfl, fun _ _ _ => rfl, fun _ _ _ => rfl⟩
theorem NF.tr {σ σ1 σ2 μ μ1 μ2 : S5} {s n : Int32} (h : NF σ σ1 μ μ1 s n) (h2 : NF σ1 σ2 μ1 μ2 s n) (hg : gI μ 10 ≤ gI μ1 10) : NF σ σ2 μ μ2 s n := by
  obtain ⟨a1, a2, a3, a4, a5, a6, a7, a8⟩ := h
  obtain ⟨b1, b2, b3, b4, b5, b6, b7, b8⟩ := h2
  exact ⟨fun k i w => (b1 k i w).trans (a1 k i w), fun i p w => (b2 i p w).trans (a2 i p w), fun k i w => (b3 k i w).trans (a3 k i w), fun i p w => (b4 i p w).trans (a4 i p w), fun k i w => (b5 k i w).trans (a5 k i w), fun i p w => (b6 i p w).trans (a6 i p w), fun k i w => (b7 k i w).trans (a7 k i w), fun i p w => (b8 i p (by grind)).trans (a8 i p w)⟩
theorem add_ne {a : Int32} {i j : Nat} (h0 : 0 ≤ a) (h1 : a ≤ 4000) (hi : i ≤ 10) (hj : j ≤ 10) (h : ¬ i = j) : ¬ (a + nI i).toNatClampNeg = (a + nI j).toNatClampNeg := by
  have hi5 : 0 ≤ nI i ∧ nI i ≤ 10 := ⟨i_le0 (nI_nneg (by omega)), (nI_le31 (b := 10) (by omega) (by omega)).mpr hi⟩
  have hj5 : 0 ≤ nI j ∧ nI j ≤ 10 := ⟨i_le0 (nI_nneg (by omega)), (nI_le31 (b := 10) (by omega) (by omega)).mpr hj⟩
  intro w
  have w2 := (i_inj (a := a + nI i) (b := a + nI j) (by grind) (by grind)).mp w
  have w3 : nI i = nI j := by grind
  exact h (nI_inj (by omega) (by omega) w3)
/-- both read one name more -/
theorem nm_step {σ μ : S5} (hs : Sim σ μ) {s n : Int32} {j : Nat} (h : NM σ μ s n j) (hj : j ≤ 4) (hs0 : 0 ≤ s) (hs1 : s < 700) (hn0 : 0 ≤ n) (hn1 : n < 3200) (hk : gI σ 17 = 3) (hg : xA μ 9 n + nI j = gI μ 10) (hd : f_X5_declare s σ = bd (f_X10_advance (cNm σ s j)) (fun _ τ => some (s * 5 + nI j, τ))) : ∃ σ' μ1 μ' : S5, f_X5_declare s σ = some (s * 5 + nI j, σ') ∧ f_X12_next μ = some ((), μ1) ∧ f_X12_giveName n (gJ μ 0) μ1 = some ((), μ') ∧ gI μ1 7 = 0 ∧ Sim σ' μ' ∧ NM σ' μ' s n (j + 1) ∧ xA μ' 9 n + nI (j + 1) = gI μ' 10 ∧ NF σ σ' μ μ' s n ∧ EqE σ σ' ∧ EqR μ μ' ∧ (∀ k, (k < 16 ∨ 19 < k) → gI σ' k = gI σ k) ∧ (∀ k, (k < 3 ∨ 6 < k) → ¬ k = 10 → gI μ' k = gI μ k) ∧ gI μ' 10 = gI μ 10 + 1 ∧ gI σ 18 < gI σ' 18 ∧ xB σ' 3 (s * 5 + nI j) = gJ σ 0 := by
  have hb := hs.2.2
  unfold Bg at hb
  have hp3 := hs.p3
  have hjn : gJ σ 0 = gJ μ 0 := hs.1.2.2.2.2.2.2.2.2.2.1 (Or.inl hk)
  obtain ⟨h5, h20, h10, h9, h9', hrow⟩ := h
  obtain ⟨e, kc, p, v, z, vm, zm, a1, a2, a3, a4, a5, a6⟩ := adv (hs.1.cNm (s := s) (j := j)) (by rw [cNm_gI, hk]; decide)
  rw [cNm_gI] at a4
  rw [a1, bd_of] at hd
  have q10 : gI (wdM μ e (kMd kc) p vm zm) 10 = gI μ 10 := gI_wdM (by decide)
  have x10 : xA (wdM μ e (kMd kc) p vm zm) 10 n = nI j := (xA_wdM ..).trans h10
  have hgv := m_give (μ := wdM μ e (kMd kc) p vm zm) (n := n) (j := j) (gJ μ 0) x10 hn0 hn1 (by rw [q10]; grind) (by rw [q10]; grind)
  have hW : Wd (wdC (cNm σ s j) e kc p v z) (mNm (wdM μ e (kMd kc) p vm zm) n (gJ μ 0) j) := a3.Nm
  have hEE : EqE σ (wdC (cNm σ s j) e kc p v z) := ((EqE.rf σ).Nm).w
  have hER : EqR μ (mNm (wdM μ e (kMd kc) p vm zm) n (gJ μ 0) j) := ((EqR.rf μ).w).Nm
  have hI : ∀ k, (k < 16 ∨ 19 < k) → gI (wdC (cNm σ s j) e kc p v z) k = gI σ k := fun k h => (gI_wdC h).trans (cNm_gI ..)
  have hM : ∀ k, (k < 3 ∨ 6 < k) → ¬ k = 10 → gI (mNm (wdM μ e (kMd kc) p vm zm) n (gJ μ 0) j) k = gI μ k := fun k h h2 => (mNm_gI _ _ _ _ h2).trans (gI_wdM h)
  have hM10 : gI (mNm (wdM μ e (kMd kc) p vm zm) n (gJ μ 0) j) 10 = gI μ 10 + 1 := by rw [mNm_10, q10]
  have hI18 : gI (wdC (cNm σ s j) e kc p v z) 18 = p := p_wdC
  have h7 : gI (wdM μ e (kMd kc) p vm zm) 7 = 0 := (gI_wdM (by decide)).trans hb.2.1
  have rA : ∀ k i, xA (wdC (cNm σ s j) e kc p v z) k i = if k = 20 ∧ i.toNatClampNeg = s.toNatClampNeg then nI j + 1 else xA σ k i := fun k i => by
    rw [xA_wdC]; unfold cNm; rw [xA_pA, xA_pB]
  have rB : ∀ k i, xB (wdC (cNm σ s j) e kc p v z) k i = if k = 3 ∧ i.toNatClampNeg = (s * 5 + nI j).toNatClampNeg then gJ σ 0 else xB σ k i := fun k i => by
    rw [xB_wdC]; unfold cNm; rw [xB_pA, xB_pB]
  have mA : ∀ k i, xA (mNm (wdM μ e (kMd kc) p vm zm) n (gJ μ 0) j) k i = if k = 10 ∧ i.toNatClampNeg = n.toNatClampNeg then nI j + 1 else xA μ k i := fun k i => by
    unfold mNm; rw [xA_pA, xA_pI, xA_pB, xA_wdM]
  have mB : ∀ k i, xB (mNm (wdM μ e (kMd kc) p vm zm) n (gJ μ 0) j) k i = if k = 1 ∧ i.toNatClampNeg = (gI μ 10).toNatClampNeg then gJ μ 0 else xB μ k i := fun k i => by
    unfold mNm; rw [xB_pA, xB_pI, xB_pB, xB_wdM, q10]
  refine ⟨_, _, _, hd, a2, hgv, h7, ?_⟩
  clear hd a1 a2 a3 hgv h7
  generalize wdC (cNm σ s j) e kc p v z = S at *
  generalize mNm (wdM μ e (kMd kc) p vm zm) n (gJ μ 0) j = M at *
  have hrg := s5_rg (i := j) hs0 hs1 (by omega)
  have hj5 : 0 ≤ nI j ∧ nI j ≤ 4 := ⟨i_le0 (nI_nneg (by omega)), (nI_le31 (b := 4) (by omega) (by omega)).mpr hj⟩
  have hGm : Gm 0 0 σ S μ M := by
    have i8 := iv_eq (hI 8 (by decide))
    have i9 := iv_eq (hI 9 (by decide))
    have i10 := iv_eq (hI 10 (by decide))
    have i13 := iv_eq (hI 13 (by decide))
    have i18 : iv σ 18 < iv S 18 := iv_lt (by rw [hI18]; exact a4)
    have m9 := iv_eq (hM 9 (by decide) (by decide))
    have m10 := iv_a1 hM10 (by grind) (by grind)
    unfold Gm
    omega
  have M9 : xA M 9 n = xA μ 9 n := by rw [mA, if_neg (fun w => absurd w.1 (by decide))]
  have hs5 : 0 ≤ s * 5 ∧ s * 5 ≤ 3500 := by
    have := s5_rg (i := 0) hs0 hs1 (by omega)
    rw [show nI 0 = 0 from rfl, Int32.add_zero] at this
    exact ⟨this.1, by grind⟩
  refine ⟨⟨hW, Ct_eq hs.2.1 hEE hER, ?_⟩, ⟨by omega, ?_, ?_, by rw [M9]; exact h9, by rw [M9]; exact h9', fun i hi => ?_⟩, ?_, ⟨fun k i w => ?_, fun i p w => ?_, fun k i w => ?_, fun i p w => ?_, fun k i w => ?_, fun i p w => ?_, fun k i w => ?_, fun i p w => ?_⟩, hEE, hER, hI, hM, hM10, by rw [hI18]; exact a4, ?_⟩
  · have hbm := hs.bm
    obtain ⟨b1, b2, b3, b4, b5, b6, b7, b8, b9, b10, b11, b12, b13, b14, b15, b16, b17, b18, b19, b20, b21, b22, b23⟩ := hb
    exact Bg_mk (by rw [hI 11 (by decide)]; exact b1) (by rw [hM 7 (by decide) (by decide)]; exact b2) (by rw [hI 13 (by decide), hM 11 (by decide) (by decide)]; exact b3) (by rw [hI 13 (by decide)]; exact b4) (by rw [hI 13 (by decide)]; exact b5) (by rw [hI 14 (by decide), hM 15 (by decide) (by decide)]; exact b6) (by rw [hI 14 (by decide)]; exact b7) (by rw [hI 14 (by decide)]; exact b8) (by rw [hI 8 (by decide)]; exact b9) (by rw [hI 9 (by decide)]; exact b11) (by rw [hI 5 (by decide)]; exact b13) (by rw [hI 5 (by decide)]; exact b14) (by rw [hI 10 (by decide)]; exact b15) (by rw [hM 9 (by decide) (by decide)]; exact b17) (by rw [hM10]; grind) (by rw [hI 15 (by decide)]; exact b21) (by rw [hI 15 (by decide), hI 9 (by decide)]; exact b22) (by rw [hI18]; exact a6) (hbm.gr hGm (by decide) (by decide) (hI 5 (by decide)))
  · rw [rA, if_pos ⟨rfl, rfl⟩, nI_add1]
  · rw [mA, if_pos ⟨rfl, rfl⟩, nI_add1]
  · rw [M9, rB, mB]
    by_cases c : i = j
    · subst c
      rw [if_pos ⟨rfl, rfl⟩, if_pos ⟨rfl, by rw [hg]⟩]; exact hjn
    · rw [if_neg (fun w => add_ne hs5.1 (by grind) (by omega) (by omega) c w.2), if_neg (fun w => by
        rw [← hg] at w
        exact add_ne h9 (by grind) (by omega) (by omega) c w.2)]
      exact hrow i (by omega)
  · rw [M9, hM10, ← nI_add1, ← hg]; grind
  · rw [rA, if_neg (fun v => w v.1)]
  · rw [rA, if_neg (fun v => w ((i_inj p hs0).mp v.2))]
  · rw [rB, if_neg (fun v => w v.1)]
  · rw [rB, if_neg (fun v => i_ne (a := i) (b := s * 5 + nI j) p (by grind) v.2)]
  · rw [mA, if_neg (fun v => w v.1)]
  · rw [mA, if_neg (fun v => w ((i_inj p hn0).mp v.2))]
  · rw [mB, if_neg (fun v => w v.1)]
  · rw [mB, if_neg (fun v => i_ne p w v.2)]
  · rw [rB, if_pos ⟨rfl, rfl⟩]
