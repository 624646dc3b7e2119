/-- what must be known of a program to run it -/
def PRh (τ μ : S5) : Prop := ∃ (F k T : Nat) (pa nv D E : Nat → Nat), PSt τ μ F k T pa nv ∧ DSt τ μ F T pa nv D ∧ ESt τ μ F T nv E ∧ NDb τ μ F pa ∧ MKb τ μ F T nv ∧ gI μ 22 = nI F ∧ MNs τ μ k pa
def PRy (σ μ : S5) : Prop := ∃ σ0 μ0, eqP σ0 σ ∧ eqQ μ0 μ ∧ PRh σ0 μ0
def RYY (σ μ : S5) : Prop := gI σ 60 = 1 → PRy σ μ
/-- the machine's rows -/
def LNs (σ : S5) : Prop := Ln 11 (gN σ 1) ∧ Ln 9 (gN σ 3)
theorem RYY.st {σ μ τ ν : S5} (h : RYY σ μ) (h60 : gI τ 60 = gI σ 60) (hI : ∀ j, (4 ≤ j ∧ j ≤ 8) ∨ j = 13 → gI τ j = gI σ j) (hA : ∀ j, 2 ≤ j ∧ j ≤ 19 → gA τ j = gA σ j) (hB : ∀ j, j = 0 ∨ j = 1 ∨ j = 2 ∨ j = 5 → gB τ j = gB σ j) (mI : ∀ j, j = 11 ∨ j = 13 ∨ j = 14 ∨ j = 22 → gI ν j = gI μ j) (mA : ∀ j, j = 13 ∨ j = 20 ∨ (31 ≤ j ∧ j ≤ 47) ∨ j = 49 ∨ j = 52 → gA ν j = gA μ j) (mB : ∀ j, j = 2 ∨ j = 3 ∨ j = 5 → gB ν j = gB μ j) : RYY τ ν := fun w => by
  obtain ⟨σ0, μ0, ⟨a1, a2, a3⟩, ⟨b1, b2, b3⟩, c⟩ := h (h60.symm.trans w)
  exact ⟨σ0, μ0, ⟨fun j hj => (hI j hj).trans (a1 j hj), fun j hj => (hA j hj).trans (a2 j hj), fun j hj => (hB j hj).trans (a3 j hj)⟩, ⟨fun j hj => (mI j hj).trans (b1 j hj), fun j hj => (mA j hj).trans (b2 j hj), fun j hj => (mB j hj).trans (b3 j hj)⟩, c⟩
theorem RYY.mv {σ τ μ ν : S5} (hC : eqC σ τ) (hM : eqM μ ν) (h : RYY σ μ) : RYY τ ν := h.st (hC.1 60 (by decide) (by decide)) (fun j hj => hC.1 j (by omega) (by omega)) (fun j hj => hC.2.2.1 j (by omega)) (fun j hj => hC.2.2.2.1 j (by omega)) (fun j hj => hM.1 j (by omega) (by omega)) (fun j hj => hM.2.2.1 j (by omega)) (fun j hj => congrFun hM.2.2.2.1 j)
theorem RYY.kw {σ τ μ ν : S5} (h : RYY σ μ) (hC : KwC σ τ) (hM : KwM μ ν) : RYY τ ν := h.st (hC.1 60 (by decide) (by decide) (by decide) (by decide)) (fun j hj => hC.1 j (by omega) (by omega) (by omega) (by omega)) (fun j hj => hC.2.2.1 j (by omega) (by omega)) (fun j hj => hC.2.2.2.1 j (by omega)) (fun j hj => hM.1 j (by omega) (by omega) (by omega)) (fun j hj => hM.2.2.1 j (by omega) (by omega) (by omega) (by omega)) (fun j hj => hM.2.2.2.1 j)
/-- the machine's part is put back -/
theorem mK_eq {σ σ' : S5} (hI : ∀ j, ¬ (40 ≤ j ∧ j ≤ 47) → gI σ' j = gI σ j) (hJ : ∀ j, ¬ j = 5 → gJ σ' j = gJ σ j) (hA : ∀ j, ¬ (40 ≤ j ∧ j ≤ 43) → gA σ' j = gA σ j) (hB : ∀ j, ¬ (12 ≤ j ∧ j ≤ 14) → gB σ' j = gB σ j) (hN : ∀ j, ¬ j = 1 → ¬ j = 3 → gN σ' j = gN σ j) : (∀ j, gI (mK σ σ') j = gI σ' j) ∧ (∀ j, gJ (mK σ σ') j = gJ σ' j) ∧ (∀ j, gA (mK σ σ') j = gA σ' j) ∧ (∀ j, gB (mK σ σ') j = gB σ' j) ∧ ∀ j, gN (mK σ σ') j = gN σ' j := by
  refine ⟨fun j => ?_, fun j => ?_, fun j => ?_, fun j => ?_, fun j => ?_⟩
  · show cond (Nat.ble 4 j && Nat.ble j 8 || Nat.ble 40 j && Nat.ble j 59) (gI σ' j) (gI σ j) = _
    cases hb : (Nat.ble 4 j && Nat.ble j 8 || Nat.ble 40 j && Nat.ble j 59) with
    | true => rfl
    | false =>
      refine (hI j (fun w => ?_)).symm
      rw [Nat.ble_eq_true_of_le w.1, Nat.ble_eq_true_of_le (show j ≤ 59 by omega)] at hb
      simp at hb
  · show cond (Nat.beq j 5) (gJ σ' j) (gJ σ j) = _
    by_cases e : j = 5
    · subst e
      rfl
    · rw [beq_ne e]
      exact (hJ j e).symm
  · show cond (Nat.ble 2 j && Nat.ble j 19 || Nat.ble 40 j && Nat.ble j 49) (gA σ' j) (gA σ j) = _
    cases hb : (Nat.ble 2 j && Nat.ble j 19 || Nat.ble 40 j && Nat.ble j 49) with
    | true => rfl
    | false =>
      refine (hA j (fun w => ?_)).symm
      rw [Nat.ble_eq_true_of_le w.1, Nat.ble_eq_true_of_le (show j ≤ 49 by omega)] at hb
      simp at hb
  · show cond (Nat.ble j 2 || Nat.ble 12 j && Nat.ble j 14) (gB σ' j) (gB σ j) = _
    cases hb : (Nat.ble j 2 || Nat.ble 12 j && Nat.ble j 14) with
    | true => rfl
    | false =>
      refine (hB j (fun w => ?_)).symm
      rw [Nat.ble_eq_true_of_le w.1, Nat.ble_eq_true_of_le w.2] at hb
      simp at hb
  · show cond (Nat.beq j 1 || Nat.beq j 3) (gN σ' j) (gN σ j) = _
    by_cases e : j = 1
    · subst e
      rfl
    · by_cases e3 : j = 3
      · subst e3
        rfl
      · rw [beq_ne e, beq_ne e3]
        exact (hN j e e3).symm
/-- THE CALL run -/
theorem e_run {σ μ : S5} (a a2 : Int32) (ha : a = 0 ∨ a = 1) (h : RA σ μ) (hX : RXX σ μ) (hY : RYY σ μ) (hK : NKs σ) (hL : LNs σ) : ∃ (kx rm : Int32) (τ μ1 : S5), h_L_run a a2 σ = some (kx, τ) ∧ f_X12_run a a2 μ = some (rm, μ1) ∧ gI μ1 0 = kx ∧ (kx = 0 → gB τ 30 (0 : Int32).toNatClampNeg = rm.toInt64) ∧ RA τ μ1 ∧ RXX τ μ1 ∧ RYY τ μ1 ∧ NKs τ ∧ LNs τ ∧ gN σ 1 ≤ gN τ 1 ∧ gN σ 3 ≤ gN τ 3 := by
  obtain ⟨hT, hO, ⟨hf1, hf2, hf3, hf4, hf5⟩, ⟨hs1, hs2, hs3⟩, hR⟩ := id h
  have hno : ∀ (k : Int32) (rm : Int32), ¬ k = 0 → h_L_run a a2 σ = some (k, σ) → f_X12_run a a2 μ = some (rm, pI μ 0 k) → ∃ (kx rm : Int32) (τ μ1 : S5), h_L_run a a2 σ = some (kx, τ) ∧ f_X12_run a a2 μ = some (rm, μ1) ∧ gI μ1 0 = kx ∧ (kx = 0 → gB τ 30 (0 : Int32).toNatClampNeg = rm.toInt64) ∧ RA τ μ1 ∧ RXX τ μ1 ∧ RYY τ μ1 ∧ NKs τ ∧ LNs τ ∧ gN σ 1 ≤ gN τ 1 ∧ gN σ 3 ≤ gN τ 3 := fun k rm hk e1 e2 => ⟨k, rm, σ, pI μ 0 k, e1, e2, rfl, fun w => absurd w hk, h, RXX.mv (eqC.rf σ) (eqM.thr μ k) hX, RYY.mv (eqC.rf σ) (eqM.thr μ k) hY, hK, hL, Nat.le_refl _, Nat.le_refl _⟩
  -- the other, up to its choice
  have hmu : ∃ u : Int32, f_X12_run a a2 μ = f_X12_run_b25 a a2 u μ ∧ (u = 0 ↔ gI μ 36 < 150000 ∧ gI μ 35 < 150000) := by
    unfold f_X12_run f_X12_run_b20
    by_cases c1 : 150000 ≤ gI μ 36
    · refine ⟨1, by rw [if_pos c1], ⟨fun w => absurd w (by decide), fun w => absurd c1 (Int32.not_le.mpr w.1)⟩⟩
    · rw [if_neg c1]
      by_cases c2 : gI μ 35 < 150000
      · exact ⟨0, by rw [if_pos c2], ⟨fun _ => ⟨Int32.not_le.mp c1, c2⟩, fun _ => rfl⟩⟩
      · exact ⟨1, by rw [if_neg c2], ⟨fun w => absurd w (by decide), fun w => absurd w.2 c2⟩⟩
  obtain ⟨u, hu1, hu2⟩ := hmu
  by_cases h60 : gI σ 60 = 0
  · refine hno 1 0 (by decide) ?_ ?_
    · unfold h_L_run f_X11_run
      rw [if_pos h60, bd_of]
      rfl
    · rw [hu1]
      unfold f_X12_run_b25 f_X12_run_b62
      rw [if_pos (hs2.symm.trans h60), if_neg (by decide)]
  have h61 : gI σ 60 = 1 := hs1.resolve_left h60
  have h29 : ¬ gI μ 29 = 0 := fun w => h60 (hs2.trans w)
  have bad : (a2 < 0 ∨ ¬ a2 ≤ 800) → ∃ (kx rm : Int32) (τ μ1 : S5), h_L_run a a2 σ = some (kx, τ) ∧ f_X12_run a a2 μ = some (rm, μ1) ∧ gI μ1 0 = kx ∧ (kx = 0 → gB τ 30 (0 : Int32).toNatClampNeg = rm.toInt64) ∧ RA τ μ1 ∧ RXX τ μ1 ∧ RYY τ μ1 ∧ NKs τ ∧ LNs τ ∧ gN σ 1 ≤ gN τ 1 ∧ gN σ 3 ≤ gN τ 3 := by
    intro hb
    refine hno 2 0 (by decide) ?_ ?_
    · have : f_X11_run a a2 σ = some ((1, 0), σ) := by
        unfold f_X11_run
        rw [if_neg h60]
        by_cases c1 : a2 < 0
        · rw [if_pos c1]
        · rw [if_neg c1, if_neg (hb.resolve_left c1)]
      unfold h_L_run
      rw [this, bd_of]
      rfl
    · rw [hu1]
      unfold f_X12_run_b25 f_X12_run_b49 f_X12_run_b62
      rw [if_neg h29, if_neg (show ¬ (2 : Int32) ≤ 0 by decide)]
      by_cases c1 : a2 < 0
      · rw [if_pos c1]
      · rw [if_neg c1, if_neg (hb.resolve_left c1)]
  by_cases c1 : a2 < 0
  · exact bad (Or.inl c1)
  by_cases c2 : a2 ≤ 800
  case neg => exact bad (Or.inr c2)
  by_cases c3 : gI μ 36 < 150000 ∧ gI μ 35 < 150000
  case neg =>
    refine hno 3 0 (by decide) ?_ ?_
    · have : f_X11_run a a2 σ = some ((2, 0), σ) := by
        unfold f_X11_run
        rw [if_neg h60, if_neg c1, if_pos c2, hf4, hf5]
        by_cases d1 : 150000 ≤ gI μ 36
        · rw [if_pos d1]
        · rw [if_neg d1, if_neg (fun w => c3 ⟨Int32.not_le.mp d1, w⟩)]
      unfold h_L_run
      rw [this, bd_of]
      rfl
    · rw [hu1]
      unfold f_X12_run_b25 f_X12_run_b62
      rw [if_neg h29, if_neg c1, if_pos c2, if_neg (fun w => c3 (hu2.mp w)), if_neg (show ¬ (3 : Int32) ≤ 0 by decide)]
  -- it runs
  obtain ⟨σ0, μ0, hP, hQ, F, k, T, pa, nv, D, E, hS, hD, hE, hB, hMk, hF, hMn⟩ := hY h61
  obtain ⟨c, ec⟩ : ∃ c, c = a2.toNatClampNeg := ⟨_, rfl⟩
  have ea : a2 = nI c := by rw [ec]; exact nI_tn (Int32.not_lt.mp c1)
  have hc : c ≤ 800 := by
    rw [ea] at c2
    exact (nI_le31 (a := c) (b := 800) (by rw [ec]; exact tn31 _) (by omega)).mp c2
  obtain ⟨σ', μ', r1, r2, ⟨r3, r3'⟩, ⟨x1, x2, x3, x4, x5⟩, ⟨y1, y2, y3, y4⟩, r6, r7, r8, r9, r10⟩ := run_go hS hD hE hB hMk hF hMn hP hQ hf5 hf4 hL.1 hL.2 ha hc
  rw [← ea] at r1 r2
  obtain ⟨k1, k2, k3, k4, k5⟩ := mK_eq x1 x2 x3 x4 x5
  obtain ⟨ρ, eρ⟩ : ∃ z, z = pB (pI (pI (mK σ σ') 64 (gI (mK σ σ') 64 + xA (mK σ σ') 40 2)) 65 (gI (mK σ σ') 65 + xA (mK σ σ') 40 3)) 30 0 (xA (mK σ σ') 40 0).toInt64 := ⟨_, rfl⟩
  have e40 : ∀ x, xA (mK σ σ') 40 x = xA σ' 40 x := fun x => congrFun (k3 40) _
  have pI' : ∀ j, ¬ j = 64 → ¬ j = 65 → gI ρ j = gI σ' j := fun j w w' => by
    rw [eρ]
    show gI (pI (pI (mK σ σ') 64 _) 65 _) j = _
    rw [gI_pI, if_neg w', gI_pI, if_neg w, k1]
  have p64 : gI ρ 64 = gI σ' 64 + gA σ' 40 2 := by
    rw [eρ]
    show gI (mK σ σ') 64 + xA (mK σ σ') 40 2 = _
    rw [k1, e40]
    rfl
  have p65 : gI ρ 65 = gI σ' 65 + gA σ' 40 3 := by
    rw [eρ]
    show gI (mK σ σ') 65 + xA (mK σ σ') 40 3 = _
    rw [k1, e40]
    rfl
  have pJ' : ∀ j, gJ ρ j = gJ σ' j := fun j => by
    rw [eρ]
    exact k2 j
  have pA' : ∀ j, gA ρ j = gA σ' j := fun j => by
    rw [eρ]
    exact k3 j
  have pB' : ∀ j, ¬ j = 30 → gB ρ j = gB σ' j := fun j w => by
    rw [eρ, gB_pB_ne w]
    exact k4 j
  have pN' : ∀ j, gN ρ j = gN σ' j := fun j => by
    rw [eρ]
    exact k5 j
  obtain ⟨hRR, n1, n2, n3, n4⟩ := r3
  refine ⟨0, gI μ' 44, ρ, μ', ?_, ?_, r6, fun _ => ?_, ⟨?_, ?_, ⟨?_, ?_, ?_, ?_, ?_⟩, ⟨?_, ?_, fun w => ?_⟩, ?_⟩, ⟨?_, ?_, fun w => ?_⟩, ?_, ?_, ⟨by rw [pN']; exact r7, by rw [pN']; exact r8⟩, by rw [pN']; exact r9, by rw [pN']; exact r10⟩
  · unfold h_L_run f_X11_run
    rw [if_neg h60, if_neg c1, if_pos c2, hf4, hf5, if_neg (Int32.not_le.mpr c3.1), if_pos c3.2, r1, bd_of, bd_of, if_pos rfl, eρ]
  · rw [hu1]
    unfold f_X12_run_b25
    rw [if_neg h29, if_neg c1, if_pos c2, if_pos (hu2.mpr c3)]
    exact r2
  · rw [eρ, out_at, e40]
    show (gA σ' 40 0).toInt64 = _
    rw [hRR.1]
  · obtain ⟨t1, t2, t3, t4⟩ := hT
    have e0 : gI ρ 0 = gI σ 0 := by rw [pI' 0 (by decide) (by decide), x1 0 (by decide)]
    refine ⟨by rw [e0, y1 1 (by decide) (by decide)]; exact t1, by rw [e0]; exact t2, by rw [e0]; exact t3, ?_⟩
    rw [e0, pA', x3 0 (by decide), y3 0 (by decide)]
    exact t4
  · obtain ⟨t1, t2, t3, t4⟩ := hO
    have e0 : gI ρ 66 = gI σ 66 := by rw [pI' 66 (by decide) (by decide), x1 66 (by decide)]
    refine ⟨by rw [e0, y1 2 (by decide) (by decide)]; exact t1, by rw [e0]; exact t2, by rw [e0]; exact t3, ?_⟩
    rw [e0, pA', x3 50 (by decide), y3 1 (by decide)]
    exact t4
  · rw [pI' 61 (by decide) (by decide), x1 61 (by decide), y1 30 (by decide) (by decide)]; exact hf1
  · rw [pI' 62 (by decide) (by decide), x1 62 (by decide), y1 31 (by decide) (by decide)]; exact hf2
  · rw [pI' 63 (by decide) (by decide), x1 63 (by decide), y1 12 (by decide) (by decide)]; exact hf3
  · rw [p64]; exact n2.symm
  · rw [p65]; exact n1.symm
  · rw [pI' 60 (by decide) (by decide), x1 60 (by decide)]; exact hs1
  · rw [pI' 60 (by decide) (by decide), x1 60 (by decide), y1 29 (by decide) (by decide)]; exact hs2
  · obtain ⟨t1, t2, t3, t4, t5, t6⟩ := hs3 h61
    have eI : ∀ j, j < 40 → gI ρ j = gI σ j := fun j hj => by rw [pI' j (by omega) (by omega), x1 j (by omega)]
    have eA : ∀ j, j < 40 → gA ρ j = gA σ j := fun j hj => by rw [pA', x3 j (by omega)]
    refine ⟨by rw [eI 6 (by omega), y1 22 (by decide) (by decide)]; exact t1, by rw [eI 6 (by omega)]; exact t2, by rw [eI 6 (by omega)]; exact t3, by rw [eI 4 (by omega), y1 14 (by decide) (by decide)]; exact t4, by rw [eI 13 (by omega), y1 11 (by decide) (by decide)]; exact t5, ?_⟩
    rw [eI 6 (by omega), eA 3 (by omega), eA 4 (by omega), eA 6 (by omega), y3 47 (by decide), y3 20 (by decide), y3 46 (by decide)]
    exact t6
  · obtain ⟨q0, q1, q2, q3, q4, q5, q6, q7, q8, q9, q10, q11, q12, q13⟩ := hRR
    unfold RR
    rw [pA' 40, pA' 41, pA' 42]
    exact ⟨q0, q1, q2, q3, q4, q5, q6, q7, q8, q9, q10, q11, q12, q13⟩
  · exact DN_of hX.1 (fun i => by show gA ρ 20 _ = gA σ 20 _; rw [pA', x3 20 (by decide)]) (fun i => by show gB ρ 3 _ = gB σ 3 _; rw [pB' 3 (by decide), x4 3 (by decide)])
  · show gI ρ 22 = 0
    rw [pI' 22 (by decide) (by decide), x1 22 (by decide)]
    exact hX.2.1
  · obtain ⟨s0, m0, ⟨a1, a2, a3⟩, ⟨b1, b2, b3⟩, cc⟩ := hX.2.2 h61
    exact ⟨s0, m0, ⟨fun j hj => by rw [pI' j (by omega) (by omega), x1 j (by omega)]; exact a1 j hj, fun j hj => by rw [pA', x3 j (by omega)]; exact a2 j hj, fun j hj => by rw [pB' j (by omega), x4 j (by omega)]; exact a3 j hj⟩, ⟨fun j hj => by rw [y1 j (by omega) (by omega)]; exact b1 j hj, fun j hj => by rw [y3 j (by omega)]; exact b2 j hj, fun j hj => by rw [y4 j (by omega)]; exact b3 j hj⟩, cc⟩
  · exact hY.st (by rw [pI' 60 (by decide) (by decide), x1 60 (by decide)]) (fun j hj => by rw [pI' j (by omega) (by omega), x1 j (by omega)]) (fun j hj => by rw [pA', x3 j (by omega)]) (fun j hj => by rw [pB' j (by omega), x4 j (by omega)]) (fun j hj => by rw [y1 j (by omega) (by omega)]) (fun j hj => by rw [y3 j (by omega)]) (fun j hj => by rw [y4 j (by omega)])
  · refine ⟨?_, fun i => ?_⟩
    · rw [pJ', x2 0 (by decide)]
      exact hK.1
    · rw [pB' 0 (by decide), x4 0 (by decide)]
      exact hK.2 i
