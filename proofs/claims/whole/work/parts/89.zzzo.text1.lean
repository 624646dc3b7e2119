theorem st_L55 {f p n : Int32} {σ : S5} {E : S5 → Option (Int32 × S5)} (h : St f p n σ) (m : Nat) (v : Int32) : f_X5_readText_L55 E (m + 1) v σ = some ((), σ) := by
  have hf : f_X5_readFunction E σ = some ((), σ) := by
    unfold f_X5_readFunction f_X5_readFunction_b62
    rw [if_neg (by rw [h.1]; decide), st_refuse _ h, bd_of, if_pos h.1]
  obtain ⟨M, hM⟩ := FU_s
  show f_X5_readText_B55 _ _ _ _ = _
  unfold f_X5_readText_B55 f_X5_readText_b84
  rw [if_neg (show ¬ gI σ 17 = 6 by rw [h.1]; decide), ite_self, hf, bd_of, hM, st_L90 h]
theorem rp_105F {F : S5} (m : Nat) (h7 : ¬ gI F 7 = 0) : f_X12_readProgram_L105 (m + 1) F = some ((), F) := by
  obtain ⟨M, hM⟩ := FU_s
  show f_X12_readProgram_B105 _ _ = _
  unfold f_X12_readProgram_B105 f_X12_readProgram_b132 f_X12_readProgram_b144
  rw [if_neg h7, if_neg h7, hM]
  show f_X12_readProgram_B145 _ _ _ = _
  unfold f_X12_readProgram_B145
  rw [if_pos rfl]
/-- a text, behind its beginning -/
theorem tx_loop {μ0 : S5} {E : S5 → Option (Int32 × S5)} (hE : ESp E 0) : ∀ (d i m m' : Nat) (σ μ : S5), D0 μ0 σ μ → pn σ + d = 3000 → i ≤ pn σ → d + 2 < m → d + 2 < m' → ∃ σ' μ' : S5, f_X5_readText_L55 E m (nI i) σ = some ((), σ') ∧ f_X12_readProgram_L105 m' μ = some ((), μ') ∧ RX μ0 σ' μ' := by
  intro d
  induction d using Nat.strongRecOn with
  | _ d ih =>
  intro i m m' σ μ h hd hi hm hm'
  obtain ⟨m, rfl⟩ : ∃ x, m = x + 2 := ⟨m - 2, by omega⟩
  obtain ⟨m', rfl⟩ : ∃ x, m' = x + 2 := ⟨m' - 2, by omega⟩
  have hs := h.1
  have hb := hs.2.2
  have hp3 := hs.p3
  unfold Bv at hb
  have w3 := hs.1.2.2.1
  have w4 := hs.1.2.2.2.1
  have h3001 : ¬ 3001 ≤ nI i := fun w => by have := (nI_le31 (a := 3001) (b := i) (by omega) (by omega)).mp w; omega
  have hC : f_X5_readText_L55 E (m + 2) (nI i) σ = if gI σ 17 = 6 then bd (f_X5_readData σ) (fun _ τ75 => f_X5_readText_L55 E (m + 1) (nI i + 1) τ75) else f_X5_readText_b84 E σ := by
    show f_X5_readText_B55 _ _ _ _ = _
    unfold f_X5_readText_B55
    rw [if_neg h3001]
  have hR : f_X12_readProgram_L105 (m' + 2) μ = if gI μ 4 = 10 then bd (bd (f_X12_next μ) (fun _ τ => f_X12_readData τ)) (fun _ τ => f_X12_readProgram_L105 (m' + 1) τ) else f_X12_readProgram_L145 FU 1 μ := by
    show f_X12_readProgram_B105 _ _ = _
    unfold f_X12_readProgram_B105 f_X12_readProgram_b132 f_X12_readProgram_b144
    rw [if_pos hb.2.1, if_pos hb.2.1, bd_as]
  rw [hC, hR]
  by_cases c6 : gI σ 17 = 6
  · have hm10 : gI μ 4 = 10 := by rw [w3, c6]; decide
    rw [if_pos c6, if_pos hm10]
    rcases dt_go h c6 with ⟨σ1, μ1, k1, k2, k3, k4⟩ | ⟨f, pp, n, σ1, μ1, k1, k2, k3⟩
    · rw [k1, bd_of, k2, bd_of, nI_add1]
      have hp1 : pn σ + 1 ≤ pn σ1 := pn_lt hp3.1 k4
      have hp2 : pn σ1 ≤ 3000 := i_le k3.1.p3.2
      exact ih (3000 - pn σ1) (by omega) (i + 1) (m + 1) (m' + 1) σ1 μ1 k3 (by omega) (by omega) (by omega) (by omega)
    · rw [k1, bd_of, k2, bd_of]
      exact ⟨σ1, μ1, st_L55 k3.1 m _, rp_105F m' (by rw [k3.2.1]; exact k3.1.2.1), Or.inr ⟨f, pp, n, k3⟩⟩
  · have hm10 : ¬ gI μ 4 = 10 := by rw [w3]; intro q; exact c6 ((kMd_at 6 (by decide +kernel) w4).mp (by rw [q]; decide))
    rw [if_neg c6, if_neg hm10]
    have hbig := FU_big (n := 30000) (by decide)
    obtain ⟨M, hM⟩ : ∃ M, FU = M + 1 := ⟨FU - 1, by omega⟩
    have hR2 : f_X12_readProgram_L145 FU 1 μ = bd (f_X12_readFunction μ) (fun _ τ => if gI τ 7 = 0 then (if gI τ 4 = 0 then f_X12_readProgram_L145 M 0 τ else f_X12_readProgram_L145 M 1 τ) else f_X12_readProgram_L145 M 0 τ) := by
      rw [hM]
      show f_X12_readProgram_B145 _ _ _ = _
      unfold f_X12_readProgram_B145
      rw [if_neg (by decide)]
      rfl
    unfold f_X5_readText_b84
    rw [hR2]
    rcases fn_go hE h with ⟨σ1, μ1, cc', fs', fu', fn', ft', k1, k2, k3, k4, k5⟩ | ⟨f, pp, n, σ1, μ1, k1, k2, k3⟩
    · have hb1 := k5.1.2.2
      unfold Bv at hb1
      rw [k1, bd_of, k2, bd_of, if_pos hb1.2.1]
      exact fs_loop hE 30 1 FU M σ1 μ1 cc' fs' fu' fn' ft' k5 (by omega) (by omega) (by omega) (by omega)
    · rw [k1, bd_of, k2, bd_of, if_neg (by rw [k3.2.1]; exact k3.1.2.1)]
      obtain ⟨M2, hM2⟩ : ∃ M2, M = M2 + 1 := ⟨M - 1, by omega⟩
      refine ⟨σ1, μ1, ?_, ?_, Or.inr ⟨f, pp, n, k3⟩⟩
      · rw [hM]
        exact st_L90 k3.1 M _
      · rw [hM2]
        show f_X12_readProgram_B145 _ _ _ = _
        unfold f_X12_readProgram_B145
        rw [if_pos rfl]
/-- the class's state at a text's beginning -/
theorem rs_C (σ : S5) : ∃ S : S5, (∀ E, f_X5_readText E σ = bd (f_X10_advance S) (fun _ τ => f_X5_readText_L55 E FU 0 τ)) ∧ gI S 0 = gI σ 0 ∧ gA S 0 = gA σ 0 ∧ gI S 16 = 0 ∧ gI S 17 = 2 ∧ gI S 4 = 2 ∧ gI S 5 = 0 ∧ gI S 6 = 0 ∧ gI S 7 = -1 ∧ gI S 8 = 0 ∧ gI S 9 = 0 ∧ gI S 10 = 0 ∧ gI S 11 = 0 ∧ gI S 13 = 0 ∧ gI S 14 = 0 ∧ gI S 15 = -1 ∧ xB S 0 0 = 302282208101 ∧ xB S 0 1 = 1416787301 ∧ xA S 2 0 = 0 ∧ xA S 2 1 = 0 := by
  have e1 := c_addC (σ := pI (pI σ 8 0) 4 0) 302282208101 0 (by exact (by decide : (0 : Int32) ≤ 0)) (by exact (by decide : (0 : Int32) < 30))
  have e2 := c_addC (σ := cCn (pI (pI σ 8 0) 4 0) 302282208101 0) 1416787301 0 (by exact (by decide : (0 : Int32) ≤ 0 + 1)) (by exact (by decide : (0 : Int32) + 1 < 30))
  refine ⟨pI (pI (pI (pI (pI (pI (pI (pI (pI (pI (pI (pI (cCn (cCn (pI (pI σ 8 0) 4 0) 302282208101 0) 1416787301 0) 5 0) 6 0) 7 (-1)) 9 0) 10 0) 11 0) 12 (-1)) 13 0) 14 0) 15 (-1)) 16 0) 17 2, fun E => ?_, rfl, rfl, rfl, rfl, rfl, rfl, rfl, rfl, rfl, rfl, rfl, rfl, rfl, rfl, rfl, rfl, rfl, rfl, rfl⟩
  unfold f_X5_readText f_X9_clear f_X4_clear f_X6_clear f_X10_begin
  rw [bd_of, e1, bd_of, e2, bd_of, bd_of, bd_of, bd_eta]
theorem pk_F (μ : S5) : f_X12_pack 70 97 108 115 101 μ = some (302282208101, μ) := by
  unfold f_X12_pack f_X12_pack_b21 f_X12_pack_b40 f_X12_pack_b59
  rw [if_neg (by decide), if_neg (by decide), if_neg (by decide), if_neg (by decide)]
  congr 2
theorem pk_T (μ : S5) : f_X12_pack 84 114 117 101 0 μ = some (1416787301, μ) := by
  unfold f_X12_pack f_X12_pack_b21 f_X12_pack_b40 f_X12_pack_b59
  rw [if_neg (by decide), if_neg (by decide), if_neg (by decide), if_pos rfl]
  congr 2
/-- the reference's -/
theorem rs_M (μ : S5) : ∃ M : S5, f_X12_readProgram μ = bd (f_X12_next M) (fun _ τ => f_X12_readProgram_L105 FU τ) ∧ gI M 1 = gI μ 1 ∧ gA M 0 = gA μ 0 ∧ gI M 3 = 0 ∧ gI M 7 = 0 ∧ gI M 9 = 0 ∧ gI M 10 = 0 ∧ gI M 11 = 0 ∧ gI M 12 = gI μ 12 ∧ gI M 13 = 0 ∧ gI M 14 = 2 ∧ gI M 15 = 0 ∧ gI M 16 = 0 ∧ gI M 17 = 0 ∧ xB M 3 0 = 302282208101 ∧ xB M 3 1 = 1416787301 ∧ xA M 13 0 = 0 ∧ xA M 13 1 = 0 ∧ EqT μ M := by
  refine ⟨pA (pA (pB (pB (pI (pI (pI (pI (pI (pI (pI (pI (pI (pI μ 7 0) 9 0) 10 0) 11 0) 13 0) 15 0) 16 0) 17 0) 3 0) 14 2) 3 0 302282208101) 3 1 1416787301) 13 0 0) 13 1 0, ?_, rfl, rfl, rfl, rfl, rfl, rfl, rfl, rfl, rfl, rfl, rfl, rfl, rfl, rfl, rfl, rfl, rfl, ?_⟩
  · unfold f_X12_readProgram
    rw [pk_F, bd_of, pk_T, bd_of]
  · exact (((((((((((((((EqT.rf μ).I (by decide)).I (by decide)).I (by decide)).I (by decide)).I (by decide)).I (by decide)).I (by decide)).I (by decide)).I (by decide)).I (by decide)).B (by decide)).B (by decide)).A (by decide)).A (by decide))
