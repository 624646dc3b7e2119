theorem bt_ (w j : Nat) (hw : w < 256) (hj : j < 8) : ((j_iushr (nI w) (nI j)) &&& 1) = if w.testBit j = true then 1 else 0 := by
  have key : ∀ a, a < 16 → ∀ b, b < 16 → ∀ j, j < 8 → ((j_iushr (nI (16 * a + b)) (nI j)) &&& 1) = if (16 * a + b).testBit j = true then 1 else 0 := by decide
  have := key (w / 16) (by omega) (w % 16) (by omega) j hj
  rw [show 16 * (w / 16) + w % 16 = w by omega] at this
  exact this
theorem sh_pF : ∀ p, p < 9 → ((1 : Int32) <<< (nI p &&& 31)) = nI (2 ^ p) := by decide
theorem i_natF {a : Int32} {n : Nat} (h0 : ¬ a < 0) (h : a < nI n) (hn : n < 2 ^ 31) : ∃ f, f < n ∧ a = nI f := by
  refine ⟨a.toNatClampNeg, ?_, nI_tn (i_le0 h0)⟩
  have := i_lt h0 h
  rw [nI_clamp hn] at this
  exact this
/-- the call bit -/
theorem e_bit {σ μ : S5} (a a2 : Int32) (h : RA σ μ) (hX : RXX σ μ) : E1 (h_L_bit a a2 σ) (f_X12_bit a a2 μ) σ μ := by
  obtain ⟨s1, s2, s3⟩ := h.2.2.2.1
  rcases s1 with s1 | s1
  · have s4 : gI μ 29 = 0 := s2 ▸ s1
    exact E1_no 1 0 (by decide) (by simp [h_L_bit, f_X11_bit, bd, s1]) (by simp [f_X12_bit, f_X12_bit_b45, f_X12_codeOf, bd, s4, pI_same]) h
  have s4 : gI μ 29 = 1 := s2 ▸ s1
  obtain ⟨p1, p2, p3, -⟩ := s3 s1
  by_cases c1 : a < 0
  · exact E1_no 2 0 (by decide) (by simp [h_L_bit, f_X11_bit, bd, s1, c1]) (by simp [f_X12_bit, f_X12_bit_b45, f_X12_codeOf, f_X12_codeOf_b23, bd, s4, c1, pI_same]) h
  by_cases c2 : a < gI σ 6
  · have c3 : a < gI μ 22 := p1 ▸ c2
    obtain ⟨σ0, μ0, ⟨x1, x2, x3⟩, ⟨y1, y2, y3⟩, F, k, T, pa, nv, Tt, ⟨b1, -⟩, ⟨b2, b3⟩, -, -, -, -, hpF, ⟨t1, t2, t3⟩, hf⟩ := hX.2.2 s1
    have e6 : gI σ 6 = nI F := by rw [x1 6 (by decide)]; exact b2
    rw [e6] at c2
    obtain ⟨f, hfF, rfl⟩ := i_natF c1 c2 (by omega)
    obtain ⟨q, p, hi, ⟨d1, d2, d3, -⟩, -⟩ := hf f hfF
    have u3 : xA σ 3 (nI f) = nI (pa f) := by
      show gA σ 3 _ = _
      rw [x2 3 (by decide)]
      exact d1
    have v47 : xA μ 47 (nI f) = nI (pa f) := by
      show gA μ 47 _ = _
      rw [y2 47 (by decide)]
      exact d2
    have hs := sh_pF (pa f) (by omega)
    have h256 : 2 ^ pa f ≤ 256 := by
      have := Nat.pow_le_pow_right (n := 2) (by decide) d3
      exact this
    have g1 : ∀ {β : Type} (x : Option β), gd (nI f) 630 x = x := fun x => gdn (by omega) (by omega)
    have g2 : ∀ {β : Type} (x : Option β), gd (nI f) 640 x = x := fun x => gdn (by omega) (by omega)
    by_cases k1 : a2 < 0
    · exact E1_no 3 0 (by decide) (by simp [h_L_bit, f_X11_bit, bd, s1, c1, e6, c2, k1]) (by simp [f_X12_bit, f_X12_bit_b45, f_X12_bit_b40, f_X12_codeOf, bd, s4, c1, c3, k1, pI_same]) h
    by_cases k2 : a2 < nI (2 ^ pa f)
    · obtain ⟨r, hr, rfl⟩ := i_natF k1 k2 (by omega)
      have er : rwN (fun i => r.testBit i) (pa f) = r := rwN_of hr
      have hT : TBc σ0 pa f (fun i => r.testBit i) = TBm μ0 pa f (fun i => r.testBit i) := by rw [t1, t2]
      have hlook : f_X1_look_F (nI f) (nI r) σ = some (b2i (TBc σ0 pa f (fun i => r.testBit i)), σ) := by
        unfold f_X1_look_F
        rw [ro_6 (by omega), ro_63 (by omega), show nI f * 4 + nI (r / 64) = nI (4 * f + r / 64) by rw [nI_x4, nI_plus], gdn (by omega) (by omega), lw2, lb_ushr _ (Nat.mod_lt _ (by decide)), Nat.add_zero]
        unfold TBc
        rw [er, decide_eq_true d3, Bool.true_and]
        have e5 : xB σ 5 (nI (4 * f + r / 64)) = xB σ0 5 (nI (4 * f + r / 64)) := by
          show gB σ 5 _ = gB σ0 5 _
          rw [x3 5 (by decide)]
        rw [e5]
        cases lb (xB σ0 5 (nI (4 * f + r / 64))) (r % 64) <;> rfl
      have htab : ∀ w, f_X12_table (nI f) (nI r) (pI μ 0 w) = some (b2i (TBm μ0 pa f (fun i => r.testBit i)), pI μ 0 w) := fun w => by
        have h49 : ∀ x, xA (pI μ 0 w) 49 x = xA μ0 49 x := fun x => by
          show gA μ 49 _ = gA μ0 49 _
          rw [y2 49 (by decide)]
        have := tab_go (ρ := pI μ 0 w) (pa := pa) b1 (fun x hx => by rw [h49]; exact t3 x hx) hfF d3 (fun i => r.testBit i)
        rw [er] at this
        rw [this]
        unfold TBm
        rw [h49]
      refine E1_ok (b2i (TBm μ0 pa f (fun i => r.testBit i))) ?_ ?_ h
      · simp [h_L_bit, f_X11_bit, bd, s1, c1, e6, c2, k1, g1, u3, hs, k2, hlook, hT]
      · simp [f_X12_bit, f_X12_bit_b45, f_X12_codeOf, bd, s4, c1, c3, k1, g2, v47, hs, k2, htab, pI_same]
        cases TBm μ0 pa f (fun i => r.testBit i) <;> rfl
    · exact E1_no 3 0 (by decide) (by simp [h_L_bit, f_X11_bit, bd, s1, c1, e6, c2, k1, g1, u3, hs, k2]) (by simp [f_X12_bit, f_X12_bit_b45, f_X12_bit_b40, f_X12_codeOf, bd, s4, c1, c3, k1, g2, v47, hs, k2, pI_same]) h
  · have c3 : ¬ a < gI μ 22 := p1 ▸ c2
    exact E1_no 2 0 (by decide) (by simp [h_L_bit, f_X11_bit, bd, s1, c1, c2]) (by simp [f_X12_bit, f_X12_bit_b45, f_X12_codeOf, f_X12_codeOf_b23, bd, s4, c1, c3, pI_same]) h
/-- the call needs -/
theorem e_needs {σ μ : S5} (a a2 : Int32) (h : RA σ μ) (hX : RXX σ μ) : ∃ (kx rm : Int32) (τ μ1 : S5), h_L_needs a a2 σ = some (kx, τ) ∧ f_X12_needs a a2 μ = some (rm, μ1) ∧ gI μ1 0 = kx ∧ (kx = 0 → gB τ 30 (0 : Int32).toNatClampNeg = if rm = 0 then 0 else 1) ∧ RA τ μ1 ∧ eqC σ τ ∧ eqM μ μ1 := by
  have no : ∀ (x y : Option (Int32 × S5)) (k v : Int32), ¬ k = 0 → x = some (k, σ) → y = some (v, pI μ 0 k) → ∃ (kx rm : Int32) (τ μ1 : S5), x = some (kx, τ) ∧ y = some (rm, μ1) ∧ gI μ1 0 = kx ∧ (kx = 0 → gB τ 30 (0 : Int32).toNatClampNeg = if rm = 0 then 0 else 1) ∧ RA τ μ1 ∧ eqC σ τ ∧ eqM μ μ1 := fun x y k v hk hx hy => ⟨k, v, _, _, hx, hy, rfl, fun q => absurd q hk, h, eqC.rf σ, eqM.thr μ _⟩
  obtain ⟨s1, s2, s3⟩ := h.2.2.2.1
  rcases s1 with s1 | s1
  · have s4 : gI μ 29 = 0 := s2 ▸ s1
    exact no _ _ 1 0 (by decide) (by simp [h_L_needs, f_X11_needs, bd, s1]) (by simp [f_X12_needs, f_X12_needs_b43, f_X12_codeOf, bd, s4, pI_same])
  have s4 : gI μ 29 = 1 := s2 ▸ s1
  obtain ⟨p1, p2, p3, -⟩ := s3 s1
  by_cases c1 : a < 0
  · exact no _ _ 2 0 (by decide) (by simp [h_L_needs, f_X11_needs, bd, s1, c1]) (by simp [f_X12_needs, f_X12_needs_b43, f_X12_codeOf, f_X12_codeOf_b23, bd, s4, c1, pI_same])
  by_cases c2 : a < gI σ 6
  · have c3 : a < gI μ 22 := p1 ▸ c2
    obtain ⟨σ0, μ0, ⟨x1, x2, x3⟩, ⟨y1, y2, y3⟩, F, k, T, pa, nv, Tt, ⟨b1, -⟩, ⟨b2, b3⟩, -, -, -, -, hpF, ⟨t1, t2, t3⟩, hf⟩ := hX.2.2 s1
    have e6 : gI σ 6 = nI F := by rw [x1 6 (by decide)]; exact b2
    rw [e6] at c2
    have c2' : ¬ nI F ≤ a := by clear hf h hX s3 no; grind
    obtain ⟨f, hfF, rfl⟩ := i_natF c1 c2 (by omega)
    obtain ⟨q, p, hi, ⟨d1, d2, d3, -⟩, -, -, -, -, -, -, d8, d9, -⟩ := hf f hfF
    have u3 : xA σ 3 (nI f) = nI (pa f) := by
      show gA σ 3 _ = _
      rw [x2 3 (by decide)]
      exact d1
    have v47 : xA μ 47 (nI f) = nI (pa f) := by
      show gA μ 47 _ = _
      rw [y2 47 (by decide)]
      exact d2
    have g1 : ∀ {β : Type} (x : Option β), gd (nI f) 630 x = x := fun x => gdn (by omega) (by omega)
    have g2 : ∀ {β : Type} (x : Option β), gd (nI f) 640 x = x := fun x => gdn (by omega) (by omega)
    by_cases k1 : a2 < 0
    · exact no _ _ 2 0 (by decide) (by simp [h_L_needs, f_X11_needs, bd, s1, c1, e6, c2', k1]) (by simp [f_X12_needs, f_X12_needs_b43, f_X12_needs_b38, f_X12_codeOf, bd, s4, c1, c3, k1, pI_same])
    by_cases k2 : a2 < nI (pa f)
    · obtain ⟨j, hj, rfl⟩ := i_natF k1 k2 (by omega)
      have u12 : xA σ 12 (nI f) = nI (ndN Tt pa f) := by
        show gA σ 12 _ = _
        rw [x2 12 (by decide)]
        exact d8
      have hw : ndN Tt pa f < 256 := by
        have h1 := rwN_lt (fun i => !Tt f (fun j => decide (¬ j = i))) (pa f)
        have h2 : 2 ^ pa f ≤ 256 := Nat.pow_le_pow_right (n := 2) (by decide) d3
        unfold ndN
        omega
      have hb : (ndN Tt pa f).testBit j = !Tt f (fun k => decide (¬ k = j)) := rwN_bit _ _ _ hj
      have hc := bt_ (ndN Tt pa f) j hw (by omega)
      rw [hb] at hc
      obtain ⟨b, eb⟩ : ∃ b, b = !Tt f (fun k => decide (¬ k = j)) := ⟨_, rfl⟩
      rw [← eb] at hc
      have e8 : 8 * nI f + nI j = nI (8 * f + j) := by rw [nI_x8, nI_plus]
      have v52 : ∀ w, xA (pI μ 0 w) 52 (nI (8 * f + j)) = b2i b := fun w => by
        show gA μ 52 _ = _
        rw [y2 52 (by decide), eb]
        exact d9 j hj
      have g3 : ∀ {β : Type} (x : Option β), gd (nI (8 * f + j)) 5120 x = x := fun x => gdn (by omega) (by omega)
      have hnd : f_X4_needsParameter_F (nI f) (nI j) σ = some (b2i b, σ) := by
        unfold f_X4_needsParameter_F
        rw [g1, u12, hc]
        cases b <;> rfl
      have hre : f_X12_needs (nI f) (nI j) μ = some (b2i b, pI μ 0 0) := by
        simp [f_X12_needs, f_X12_needs_b43, f_X12_codeOf, bd, s4, c1, c3, k1, g2, v47, k2, e8, g3, v52, pI_same]
        cases b <;> rfl
      refine ⟨0, _, pB σ 30 0 (b2i b).toInt64, _, ?_, hre, rfl, fun _ => ?_, h, eqC.out σ _ _, eqM.thr μ _⟩
      · have hcl : f_X11_needs (nI f) (nI j) σ = some ((0, b2i b), σ) := by
          simp [f_X11_needs, s1, c1, e6, c2', k1, g1, u3, k2, hnd, bd]
          cases b <;> rfl
        unfold h_L_needs
        rw [hcl, bd_of]
        cases b <;> rfl
      · rw [out_at]
        cases b <;> rfl
    · exact no _ _ 2 0 (by decide) (by simp [h_L_needs, f_X11_needs, bd, s1, c1, e6, c2', k1, g1, u3, k2]) (by simp [f_X12_needs, f_X12_needs_b43, f_X12_needs_b38, f_X12_codeOf, bd, s4, c1, c3, k1, g2, v47, k2, pI_same])
  · have c3 : ¬ a < gI μ 22 := p1 ▸ c2
    have c4 : gI σ 6 ≤ a := by clear h hX s3 no; grind
    exact no _ _ 2 0 (by decide) (by simp [h_L_needs, f_X11_needs, bd, s1, c1, c4]) (by simp [f_X12_needs, f_X12_needs_b43, f_X12_codeOf, f_X12_codeOf_b23, bd, s4, c1, c3, pI_same])
