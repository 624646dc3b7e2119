theorem mC_I {σ τ : S5} {k : Nat} (h : k ≤ 24) : gI (mC σ τ) k = gI τ k := by
  show cond (Nat.ble k 24) (τ.1 k) (σ.1 k) = _
  rw [Nat.ble_eq_true_of_le h]
  rfl
theorem ble_no {k n : Nat} (h : n < k) : Nat.ble k n = false := by
  cases e : Nat.ble k n
  · rfl
  · exact absurd (Nat.le_of_ble_eq_true e) (by omega)
theorem mC_I' {σ τ : S5} {k : Nat} (h : 24 < k) : gI (mC σ τ) k = gI σ k := by
  show cond (Nat.ble k 24) (τ.1 k) (σ.1 k) = _
  rw [ble_no h]
  rfl
theorem mC_A {σ τ : S5} {k : Nat} (h : k ≤ 30) : gA (mC σ τ) k = gA τ k := by
  show cond (Nat.ble k 30) (τ.2.2.1 k) (σ.2.2.1 k) = _
  rw [Nat.ble_eq_true_of_le h]
  rfl
theorem mC_A' {σ τ : S5} {k : Nat} (h : 30 < k) : gA (mC σ τ) k = gA σ k := by
  show cond (Nat.ble k 30) (τ.2.2.1 k) (σ.2.2.1 k) = _
  rw [ble_no h]
  rfl
theorem mC_B {σ τ : S5} {k : Nat} (h : k ≤ 7) : gB (mC σ τ) k = gB τ k := by
  show cond (Nat.ble k 7) (τ.2.2.2.1 k) (σ.2.2.2.1 k) = _
  rw [Nat.ble_eq_true_of_le h]
  rfl
theorem mC_B' {σ τ : S5} {k : Nat} (h : 7 < k) : gB (mC σ τ) k = gB σ k := by
  show cond (Nat.ble k 7) (τ.2.2.2.1 k) (σ.2.2.2.1 k) = _
  rw [ble_no h]
  rfl
theorem mC_N {σ τ : S5} {k : Nat} (h : ¬ k = 9) : gN (mC σ τ) k = gN σ k := by
  show cond (Nat.beq k 9) (τ.2.2.2.2 k) (σ.2.2.2.2 k) = _
  rw [beq_ne h]
  rfl
/-- where nothing else was written, the parts together are the whole -/
theorem mC_eq {σ τ : S5} (hI : ∀ j, 24 < j → gI τ j = gI σ j) (hJ : ∀ j, gJ τ j = gJ σ j) (hA : ∀ j, 30 < j → gA τ j = gA σ j) (hB : ∀ j, 7 < j → gB τ j = gB σ j) (hN : τ.2.2.2.2 = σ.2.2.2.2) : mC σ τ = τ := by
  have e1 : (mC σ τ).1 = τ.1 := funext (fun k => by
    by_cases h : k ≤ 24
    · exact mC_I h
    · exact (mC_I' (by omega)).trans (hI k (by omega)).symm)
  have e2 : (mC σ τ).2.1 = τ.2.1 := funext (fun k => by
    show cond (Nat.beq k 0) (τ.2.1 k) (σ.2.1 k) = τ.2.1 k
    have : σ.2.1 k = τ.2.1 k := (hJ k).symm
    rw [this]
    cases Nat.beq k 0 <;> rfl)
  have e3 : (mC σ τ).2.2.1 = τ.2.2.1 := funext (fun k => by
    by_cases h : k ≤ 30
    · exact mC_A h
    · exact (mC_A' (by omega)).trans (hA k (by omega)).symm)
  have e4 : (mC σ τ).2.2.2.1 = τ.2.2.2.1 := funext (fun k => by
    by_cases h : k ≤ 7
    · exact mC_B h
    · exact (mC_B' (by omega)).trans (hB k (by omega)).symm)
  have e5 : (mC σ τ).2.2.2.2 = τ.2.2.2.2 := funext (fun k => by
    show cond (Nat.beq k 9) (τ.2.2.2.2 k) (σ.2.2.2.2 k) = τ.2.2.2.2 k
    rw [hN]
    cases Nat.beq k 9 <;> rfl)
  exact Prod.ext e1 (Prod.ext e2 (Prod.ext e3 (Prod.ext e4 e5)))
/-- the reader's parts are alike -/
def SmR (σ τ : S5) : Prop := (∀ j, 2 ≤ j → j ≤ 24 → gI τ j = gI σ j) ∧ (∀ j, j ≤ 30 → gA τ j = gA σ j) ∧ ∀ j, j ≤ 7 → gB τ j = gB σ j
/-- LIFTING AND DEMAND, behind the reader -/
theorem lp_go {ν σ1 σ' μ' σ4 : S5} {k : Nat} {cc fs fu fn ft : Nat → Int32} (hT : TP ν σ' μ' k cc fs fu fn ft) (h17 : gI σ' 17 = 1) (e : f_X5_readText (f_readE 64) σ1 = some ((), σ')) (hDN : DN σ') (hZ : Z22 σ') (hS : SmR σ' σ4) : ∃ τ' μ'', f_X2_lift σ4 = some ((), τ') ∧ bd (f_X12_numberAll (pI μ' 1 0)) (fun _ ν => bd (f_X12_find ν) (fun _ μf => f_X12_program_b61 μf)) = f_X12_program_b83 μ'' ∧ KL σ4 τ' ∧ P20 τ' ∧ KM (pI μ' 1 0) μ'' ∧ (DN τ' ∧ Z22 τ') ∧ (gI τ' 20 = gI μ'' 7 ∧ (¬ gI τ' 20 = 0 → gI τ' 21 = gI μ'' 8)) ∧ (gI τ' 20 = 0 → ∀ τs, AsS τ' τs → ∃ F τ2 μ2, f_X1_solve (f_wordE 64) τs = some ((), τ2) ∧ f_X12_program_b83 μ'' = some (nI F, μ2) ∧ gI τ2 6 = nI F ∧ FrY τs τ2 ∧ PRg τ2 μ2 ∧ ((∀ j, ¬ j = 29 → ¬ j = 30 → ¬ j = 31 → gI μ2 j = gI μ'' j) ∧ (∀ j, ¬ j = 36 → ¬ j = 49 → ¬ j = 50 → ¬ j = 51 → ¬ j = 52 → gA μ2 j = gA μ'' j) ∧ gI μ2 29 = 1 ∧ gI μ2 30 = 0 ∧ gI μ2 31 = -1)) := by
  obtain ⟨⟨hWd, hCt, hBv⟩, hBm, -, ⟨k30, t5, t6, t13⟩, -, -, hPG⟩ := hT
  obtain ⟨v11, v7, v13, v13a, v13b, v14, v14a, v14b, v8a, v8b, v9a, v9b, v5a, v5b, v10a, v10b, vm9a, vm9b, vm10a, vm10b, -, -, -⟩ := hBv
  obtain ⟨σL, eL⟩ : ∃ s, s = pI (pI σ4 20 0) 21 (-1) := ⟨_, rfl⟩
  have LI : ∀ j, 2 ≤ j → j ≤ 24 → ¬ j = 20 → ¬ j = 21 → gI σL j = gI σ' j := fun j a b c d => by
    rw [eL, gI_pI, if_neg d, gI_pI, if_neg c]
    exact hS.1 j a b
  have LA : ∀ j x, j ≤ 30 → xA σL j x = xA σ' j x := fun j x a => by
    rw [eL]
    show gA σ4 j _ = gA σ' j _
    rw [hS.2.1 j a]
  have LB : ∀ j x, j ≤ 7 → xB σL j x = xB σ' j x := fun j x a => by
    rw [eL]
    show gB σ4 j _ = gB σ' j _
    rw [hS.2.2 j a]
  have hAg : AgP σ' σL μ' (pI μ' 1 0) k := ⟨⟨LI 4 (by decide) (by decide) (by decide) (by decide), LI 8 (by decide) (by decide) (by decide) (by decide), LI 9 (by decide) (by decide) (by decide) (by decide), LI 10 (by decide) (by decide) (by decide) (by decide)⟩, fun g i hg => LA g i (by omega), fun g i hg => LB g i (by omega), fun i _ => ⟨LA 8 _ (by decide), LA 4 _ (by decide), LA 11 _ (by decide)⟩, ⟨rfl, rfl⟩, fun _ _ _ => rfl, fun _ _ _ => rfl, fun _ _ => ⟨rfl, rfl⟩⟩
  have hP := hPG.st hAg
  have hDL : DN σL := DN_of hDN (fun i => LA 20 i (by decide)) (fun i => LB 3 i (by decide))
  obtain ⟨D, hD⟩ := dp_text e
  have e9 : gI σL 9 = gI σ' 9 := LI 9 (by decide) (by decide) (by decide) (by decide)
  have e8 : gI σL 8 = gI σ' 8 := LI 8 (by decide) (by decide) (by decide) (by decide)
  have e10 : gI σL 10 = gI σ' 10 := LI 10 (by decide) (by decide) (by decide) (by decide)
  have e4 : gI σL 4 = gI σ' 4 := LI 4 (by decide) (by decide) (by decide) (by decide)
  have e5 : gI σL 5 = gI σ' 5 := LI 5 (by decide) (by decide) (by decide) (by decide)
  have e6 : gI σL 6 = gI σ' 6 := LI 6 (by decide) (by decide) (by decide) (by decide)
  have e13 : gI σL 13 = gI σ' 13 := LI 13 (by decide) (by decide) (by decide) (by decide)
  have hnp : prI (wp σL) (gI σL 8) ≤ 600 := by
    have h1 := np_text e (by rw [h17]; decide)
    have h2 : wp σL = wp σ' := funext (fun i => by unfold wp; rw [LA 13 _ (by decide)])
    rw [h2, e8]
    have h3 := i_le v13b
    have h4 : (600 : Int32).toNatClampNeg = 600 := rfl
    omega
  have h18 : gI σ' 18 ≤ 3000 := i_trans hWd.2.2.2.2.2.2.1 (i_trans hWd.2.2.2.2.2.2.2.1 hWd.1.2.2.1)
  obtain ⟨τ', μ'', l1, l2, l3, l4, l5⟩ := lift_go (σ0 := σ4) (D := D) eL hP k30 (by rw [e5]; exact t5) (by rw [e6]; exact t6) t13 (by rw [e9]; exact v9a) (by rw [e9]; exact v9b) (by rw [e10]; exact v10a) (by rw [e10]; exact i_trans v10b v13b) vm9a (i_trans vm9b (by decide)) (i_trans vm10b h18) v7 hDL (fun x x0 x1 => by
    rw [e9] at x1
    rw [LA 21 x (by decide)]
    exact hD x x0 x1) hnp (by rw [e8]; exact v8a) (by rw [e4]; exact hCt.2.2.1)
  have hKL := kl_f_X2_lift σ4 (KL.rf σ4) _ _ l1
  have hD4 : DN σ4 := DN_of hDN (fun i => by show gA σ4 20 _ = gA σ' 20 _; rw [hS.2.1 20 (by decide)]) (fun i => by show gB σ4 3 _ = gB σ' 3 _; rw [hS.2.2 3 (by decide)])
  have hZ4 : Z22 σ4 := by
    unfold Z22
    rw [hS.1 22 (by decide) (by decide)]
    exact hZ
  refine ⟨τ', μ'', l1, l2, hKL, p_lift l1, l5, ⟨dn_lift hD4 l1, z_lift hZ4 l1⟩, l3, fun h20 τs hs => ?_⟩
  have hLU := l4 h20
  obtain ⟨F, τ2, μ2, d1, d2, d3, d4⟩ := dem_go hLU hs (by rw [LI 22 (by decide) (by decide) (by decide) (by decide)]; exact hZ) (by rw [← l3.1]; exact h20)
  have hpr : PRg τ2 μ2 := by
    refine prg_of (μ := pI μ' 1 0) d4 (fun j hj => ?_) ?_ (fun j hj => ?_) l5 ?_ ?_ ?_ ?_ ?_
    · rw [hs.1 j (by omega), hKL.1 j (by omega), eL, gI_pI, if_neg (by omega), gI_pI, if_neg (by omega)]
    · rw [hs.2.1 2, hKL.2.2.1 2 (by omega), eL]
      rfl
    · rw [hs.2.2 j, hKL.2.2.2.1 j hj, eL]
      rfl
    · obtain ⟨c1, c2, c3, c4⟩ := hCt
      refine ⟨by rw [e4]; exact c1, by rw [e4]; exact c2, by rw [e4]; exact c3, fun i i0 i1 => ?_⟩
      rw [e4] at i1
      rw [LB 0 i (by decide), LA 2 i (by decide)]
      exact c4 i i0 i1
    · rw [e13]; exact v13
    · rw [e5, t5, nI_clamp (by omega)]; exact k30
    · rw [e5, t5]; exact t13
    · intro i hi
      rw [e5, t5, nI_clamp (by omega)] at hi
      rw [LB 1 _ (by decide)]
      exact (hPG.2.1 i hi).1.1
  obtain ⟨_, _, _, _, _, _, _, _, _, _, _, _, _, _, _, _, _, _, _, _, _, -, -, -, -, -, -, -, -, -, -, -, -, ⟨hFY, -, -⟩, hDT⟩ := d4
  exact ⟨F, τ2, μ2, d1, d2, d3, hFY, hpr, hDT.2.2.2.1.1, hDT.2.2.2.1.2.2.1, hDT.2.2.2.2.1, hDT.2.2.2.2.2.1, hDT.2.2.2.2.2.2⟩
