theorem rd_152 {rec : Int32 → S5 → Option (Unit × S5)} {μ : S5} (h7 : gI μ 7 = 0) : f_X12_readData_b152 rec μ = if gI μ 4 = 224 then bd (f_X12_next μ) (fun _ τ => rec 1 τ) else rec 0 μ := by
  unfold f_X12_readData_b152 f_X12_readData_b172 f_X12_readData_b173 f_X12_readData_b182
  rw [if_pos h7, m_isS, bd_of, show (100 : Int32) + 124 = 224 from rfl]
  by_cases c : gI μ 4 = 224
  · rw [if_pos c, if_pos c, if_neg (by decide), if_neg (by decide)]
  · rw [if_neg c, if_neg c, if_pos rfl, if_pos rfl]
theorem st_L13 {f p n : Int32} {σ : S5} (h : St f p n σ) (m : Nat) (v : Int32) : f_X5_readData_L13 (m + 1) v σ = some ((), σ) := by
  show f_X5_readData_B13 _ _ _ = _
  unfold f_X5_readData_B13 f_X5_readData_b49
  rw [if_neg (show ¬ gI σ 17 = 124 by rw [h.1]; decide), ite_self, st_expect 59 (by decide) h, bd_of]
theorem D0.n {μ0 σ μ : S5} (h : D0 μ0 σ μ) : (gI σ 4).toNatClampNeg ≤ 30 := i_le h.1.2.1.2.2.1
/-- the constructors of a data, behind the first -/
theorem dt_loop {μ0 : S5} : ∀ (d i m m' : Nat) (σ μ : S5), D0 μ0 σ μ → (gI σ 4).toNatClampNeg + d = 31 → i + d ≤ 100 → d + 3 < m → d + 3 < m' → (∃ σ' μ' : S5, f_X5_readData_L13 m (nI i) σ = some ((), σ') ∧ f_X12_readData_b152 (f_X12_readData_L2 m') μ = some ((), μ') ∧ D0 μ0 σ' μ' ∧ gI σ 18 < gI σ' 18) ∨ (∃ (f p n : Int32) (σ' μ' : S5), f_X5_readData_L13 m (nI i) σ = some ((), σ') ∧ f_X12_readData_b152 (f_X12_readData_L2 m') μ = some ((), μ') ∧ TD μ0 f p n σ' μ') := by
  intro d
  induction d using Nat.strongRecOn with
  | _ d ih =>
  intro i m m' σ μ h hd hid hm hm'
  obtain ⟨m, rfl⟩ : ∃ x, m = x + 3 := ⟨m - 3, by omega⟩
  obtain ⟨m', rfl⟩ : ∃ x, m' = x + 3 := ⟨m' - 3, by omega⟩
  have hl := h
  obtain ⟨hs, hbm, -, -, h12, hT, -⟩ := hl
  have hb := hs.2.2
  have hp3 := hs.p3
  unfold Bv at hb
  have w3 := hs.1.2.2.1
  have w4 := hs.1.2.2.2.1
  have h3001 : ¬ 3001 ≤ nI i := fun w => by have := (nI_le31 (a := 3001) (b := i) (by omega) (by omega)).mp w; omega
  rw [rd_152 hb.2.1]
  have hC : f_X5_readData_L13 (m + 3) (nI i) σ = if gI σ 17 = 124 then (bd (f_X10_advance σ) (fun _ τ36 => bd (f_X5_readConstructor τ36) (fun _ τ40 => f_X5_readData_L13 (m + 2) (nI i + 1) τ40))) else f_X5_readData_b49 σ := by
    show f_X5_readData_B13 _ _ _ = _
    unfold f_X5_readData_B13
    rw [if_neg h3001]
  rw [hC]
  by_cases c124 : gI σ 17 = 124
  · have hm224 : gI μ 4 = 224 := by rw [w3, c124]; decide
    obtain ⟨e, kc, p, v, z, vm, zm, a1, a2, a3, a4, a5⟩ := sv_adv hs (by rw [c124]; decide)
    have hD1 := h.w a3 a4
    have e18 : gI (wdC σ e kc p v z) 18 = p := p_wdC
    have e4 : gI (wdC σ e kc p v z) 4 = gI σ 4 := gI_wdC (by decide)
    rw [if_pos c124, if_pos hm224, a1, bd_of, a2, bd_of]
    clear a1 a2
    generalize wdC σ e kc p v z = σ1 at *
    generalize wdM μ e (kMd kc) p vm zm = μ1 at *
    rcases dc_go hD1 with ⟨σ2, μ2, k1, k2, k3, k4, k5, k6⟩ | ⟨f, pp, n, σ2, μ2, k1, k2, k3⟩
    · rw [k1, bd_of, show m' + 3 = m' + 2 + 1 from rfl, k2 (m' + 2), nI_add1]
      have hn2 : (gI σ2 4).toNatClampNeg = (gI σ 4).toNatClampNeg + 1 := by
        rw [k4, e4]
        have h0 : 0 ≤ gI σ 4 := by have := hs.2.1.2.1; grind
        have h1 : gI σ 4 ≤ 10000 := by have := hs.2.1.2.2.1; grind
        have := ti_a1 h0 h1
        have h0' := Int32.le_iff_toInt_le.mp h0
        rw [show (0 : Int32).toInt = 0 from rfl] at h0'
        show (gI σ 4 + 1).toInt.toNat = (gI σ 4).toInt.toNat + 1
        omega
      have hle := k3.n
      rcases ih (d - 1) (by omega) (i + 1) (m + 2) (m' + 2) σ2 μ2 k3 (by omega) (by omega) (by omega) (by omega) with ⟨σ', μ', s1, s2, s3, s4⟩ | ⟨f, pp, n, σ', μ', s1, s2, s3⟩
      · exact Or.inl ⟨σ', μ', s1, s2, s3, by grind⟩
      · exact Or.inr ⟨f, pp, n, σ', μ', s1, s2, s3⟩
    · right
      rw [k1, bd_of]
      refine ⟨f, pp, n, σ2, μ2, ?_, ?_, k3⟩
      · exact st_L13 k3.1 (m + 1) _
      · exact k2 (m' + 1)
  · have hm224 : ¬ gI μ 4 = 224 := by rw [w3]; intro q; exact c124 ((kMd_at 124 (by decide +kernel) w4).mp (by rw [q]; decide))
    rw [if_neg c124, if_neg hm224]
    have hR : f_X12_readData_L2 (m' + 3) 0 μ = if gI μ 4 = 159 then f_X12_next μ else some ((), pI (pI μ 7 1) 8 (gI μ 5)) := by
      show f_X12_readData_B2 _ _ _ = _
      unfold f_X12_readData_B2
      rw [if_pos rfl, m_isS, bd_of, show (100 : Int32) + 59 = 159 from rfl, bd_eta]
      by_cases c : gI μ 4 = 159
      · rw [if_pos c, if_pos c, m_acc1 hb.2.1]
      · rw [if_neg c, if_neg c, m_acc0 hb.2.1]
    rw [hR]
    unfold f_X5_readData_b49
    rw [bd_eta]
    by_cases c59 : gI σ 17 = 59
    · left
      have hm59 : gI μ 4 = 159 := by rw [w3, c59]; decide
      obtain ⟨e, kc, p, v, z, vm, zm, a1, a2, a3, a4, a5⟩ := sv_adv hs (by rw [c59]; decide)
      have hD1 := h.w a3 a4
      have hex : f_X5_expect 59 σ = some ((), wdC σ e kc p v z) := by
        unfold f_X5_expect
        rw [if_pos c59, a1, bd_of]
      rw [hex, if_pos hm59, a2]
      exact ⟨_, _, rfl, rfl, hD1, by rw [p_wdC]; exact a4⟩
    · right
      have hm59 : ¬ gI μ 4 = 159 := by rw [w3]; intro q; exact c59 ((kMd_at 59 (by decide +kernel) w4).mp (by rw [q]; decide))
      obtain ⟨τ, g1, g2⟩ := c_refv hs (k := 1) (by decide)
      have hex : f_X5_expect 59 σ = some ((), τ) := by
        unfold f_X5_expect
        rw [if_neg c59, bd_eta, g1]
      rw [hex, if_neg hm59]
      exact ⟨1, gI σ 18, gI σ 13, τ, pI (pI μ 7 1) 8 (gI μ 5), rfl, rfl, g2, rfl, hs.1.2.2.2.2.1.symm, hb.2.2.1.symm, h12, (hT.I (by decide)).I (by decide)⟩
/-- a data -/
theorem dt_go {μ0 σ μ : S5} (h : D0 μ0 σ μ) (h6 : gI σ 17 = 6) : (∃ σ' μ' : S5, f_X5_readData σ = some ((), σ') ∧ bd (f_X12_next μ) (fun _ τ => f_X12_readData τ) = some ((), μ') ∧ D0 μ0 σ' μ' ∧ gI σ 18 < gI σ' 18) ∨ (∃ (f p n : Int32) (σ' μ' : S5), f_X5_readData σ = some ((), σ') ∧ bd (f_X12_next μ) (fun _ τ => f_X12_readData τ) = some ((), μ') ∧ TD μ0 f p n σ' μ') := by
  have hs := h.1
  have hp3 := hs.p3
  obtain ⟨e, kc, p, v, z, vm, zm, a1, a2, a3, a4, a5⟩ := sv_adv hs (by rw [h6]; decide)
  have hD1 := h.w a3 a4
  have e18 : gI (wdC σ e kc p v z) 18 = p := p_wdC
  have hbig := FU_big (n := 30000) (by decide)
  unfold f_X5_readData
  rw [a1, bd_of, a2, bd_of]
  clear a1 a2
  generalize wdC σ e kc p v z = σ1 at *
  generalize wdM μ e (kMd kc) p vm zm = μ1 at *
  unfold f_X12_readData
  rcases dc_go hD1 with ⟨σ2, μ2, k1, k2, k3, k4, k5, k6⟩ | ⟨f, pp, n, σ2, μ2, k1, k2, k3⟩
  · obtain ⟨M, hM⟩ : ∃ M, FU = M + 1 := ⟨FU - 1, by omega⟩
    have hk2 : f_X12_readData_L2 FU 1 μ1 = f_X12_readData_b152 (f_X12_readData_L2 M) μ2 := by rw [hM]; exact k2 M
    rw [k1, bd_of, hk2]
    have hle := k3.n
    rcases dt_loop (31 - (gI σ2 4).toNatClampNeg) 0 FU M σ2 μ2 k3 (by omega) (by omega) (by omega) (by omega) with ⟨σ', μ', s1, s2, s3, s4⟩ | ⟨f, pp, n, σ', μ', s1, s2, s3⟩
    · exact Or.inl ⟨σ', μ', s1, s2, s3, by grind⟩
    · exact Or.inr ⟨f, pp, n, σ', μ', s1, s2, s3⟩
  · right
    obtain ⟨M, hM⟩ : ∃ M, FU = M + 2 := ⟨FU - 2, by omega⟩
    rw [k1, bd_of, hM]
    exact ⟨f, pp, n, σ2, μ2, st_L13 k3.1 (M + 1) _, k2 M, k3⟩
/-- what may come of a text -/
def RX (μ0 σ' μ' : S5) : Prop := (∃ (k : Nat) (cc fs fu fn ft : Nat → Int32), 1 ≤ k ∧ TP μ0 σ' μ' k cc fs fu fn ft ∧ gI σ' 17 = 1) ∨ (∃ f p n : Int32, TD μ0 f p n σ' μ')
theorem st_L90 {f p n : Int32} {σ : S5} {E : S5 → Option (Int32 × S5)} (h : St f p n σ) (m : Nat) (v : Int32) : f_X5_readText_L90 E (m + 1) v σ = some ((), σ) := by
  show f_X5_readText_B90 _ _ _ _ = _
  unfold f_X5_readText_B90
  rw [if_neg (show ¬ gI σ 17 = 1 by rw [h.1]; decide), if_pos h.1, ite_self]
/-- functions one behind the other -/
theorem fs_loop {μ0 : S5} {E : S5 → Option (Int32 × S5)} (hE : ESp E 0) : ∀ (d k m m' : Nat) (σ μ : S5) (cc fs fu fn ft : Nat → Int32), TP μ0 σ μ k cc fs fu fn ft → 1 ≤ k → k + d = 31 → d + 2 < m → d + 2 < m' → ∃ σ' μ' : S5, f_X5_readText_L90 E m (nI (k - 1)) σ = some ((), σ') ∧ (if gI μ 4 = 0 then f_X12_readProgram_L145 m' 0 μ else f_X12_readProgram_L145 m' 1 μ) = some ((), μ') ∧ RX μ0 σ' μ' := by
  intro d
  induction d with
  | zero =>
    intro k m m' σ μ cc fs fu fn ft h h1 hd
    exact absurd h.2.2.2.1.1 (by omega)
  | succ d ih =>
  intro k m m' σ μ cc fs fu fn ft h h1 hd hm hm'
  obtain ⟨m, rfl⟩ : ∃ x, m = x + 2 := ⟨m - 2, by omega⟩
  obtain ⟨m', rfl⟩ : ∃ x, m' = x + 2 := ⟨m' - 2, by omega⟩
  have hk30 := h.2.2.2.1.1
  have hs := h.1
  have w3 := hs.1.2.2.1
  have w4 := hs.1.2.2.2.1
  have h30 : ¬ 30 ≤ nI (k - 1) := fun w => by have := (nI_le31 (a := 30) (b := k - 1) (by omega) (by omega)).mp w; omega
  have hC : f_X5_readText_L90 E (m + 2) (nI (k - 1)) σ = if gI σ 17 = 1 then some ((), σ) else bd (f_X5_readFunction E σ) (fun _ τ118 => f_X5_readText_L90 E (m + 1) (nI (k - 1) + 1) τ118) := by
    show f_X5_readText_B90 _ _ _ _ = _
    unfold f_X5_readText_B90
    rw [if_neg h30, if_neg (okK_ne w4)]
  rw [hC]
  by_cases c1 : gI σ 17 = 1
  · have hm0 : gI μ 4 = 0 := by rw [w3, c1]; decide
    rw [if_pos c1, if_pos hm0]
    refine ⟨σ, μ, rfl, ?_, Or.inl ⟨k, cc, fs, fu, fn, ft, h1, h, c1⟩⟩
    show f_X12_readProgram_B145 _ _ _ = _
    unfold f_X12_readProgram_B145
    rw [if_pos rfl]
  · have hm0 : ¬ gI μ 4 = 0 := by rw [w3]; intro q; exact c1 ((kMd_at 1 (by decide +kernel) w4).mp (by rw [q]; decide))
    rw [if_neg c1, if_neg hm0]
    have hR : f_X12_readProgram_L145 (m' + 2) 1 μ = bd (f_X12_readFunction μ) (fun _ τ => if gI τ 7 = 0 then (if gI τ 4 = 0 then f_X12_readProgram_L145 (m' + 1) 0 τ else f_X12_readProgram_L145 (m' + 1) 1 τ) else f_X12_readProgram_L145 (m' + 1) 0 τ) := by
      show f_X12_readProgram_B145 _ _ _ = _
      unfold f_X12_readProgram_B145
      rw [if_neg (by decide)]
      rfl
    rw [hR]
    rcases fn_go hE h with ⟨σ1, μ1, cc', fs', fu', fn', ft', k1, k2, k3, k4, k5⟩ | ⟨f, pp, n, σ1, μ1, k1, k2, k3⟩
    · have hb1 := k5.1.2.2
      unfold Bv at hb1
      rw [k1, bd_of, k2, bd_of, if_pos hb1.2.1, nI_add1, show k - 1 + 1 = k + 1 - 1 by omega]
      exact ih (k + 1) (m + 1) (m' + 1) σ1 μ1 cc' fs' fu' fn' ft' k5 (by omega) (by omega) (by omega) (by omega)
    · rw [k1, bd_of, k2, bd_of, if_neg (by rw [k3.2.1]; exact k3.1.2.1)]
      refine ⟨σ1, μ1, st_L90 k3.1 m _, ?_, Or.inr ⟨f, pp, n, k3⟩⟩
      show f_X12_readProgram_B145 _ _ _ = _
      unfold f_X12_readProgram_B145
      rw [if_pos rfl]
