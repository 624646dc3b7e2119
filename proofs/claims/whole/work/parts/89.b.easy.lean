theorem eqC.cnt (σ : S5) (v : Int32) : eqC σ (pI σ 0 v) := ⟨fun k hk _ => by show cond (Nat.beq k 0) _ _ = _; rw [beq_ne hk]; rfl, rfl, fun _ _ => rfl, fun _ _ => rfl, rfl⟩
theorem eqM.cnt (μ : S5) (v w : Int32) : eqM μ (pI (pI μ 0 v) 1 w) := ⟨fun k hk hk1 => by show cond (Nat.beq k 1) _ (cond (Nat.beq k 0) _ _) = _; rw [beq_ne hk, beq_ne hk1]; rfl, rfl, fun _ _ => rfl, rfl, rfl⟩
theorem i_le0 {a : Int32} (h : ¬ a < 0) : 0 ≤ a := by
  rw [Int32.lt_iff_toInt_lt] at h
  rw [Int32.le_iff_toInt_le]
  omega
theorem i_trans {a b d : Int32} (h : a ≤ b) (h2 : b ≤ d) : a ≤ d := by
  rw [Int32.le_iff_toInt_le] at h h2 ⊢
  omega
theorem e_end {σ μ : S5} (a : Int32) (h : RA σ μ) : ∃ (kx : Int32) (τ μ1 : S5), h_L_end a σ = some (kx, τ) ∧ f_X12_end a μ = some ((), μ1) ∧ gI μ1 0 = kx ∧ RA τ μ1 ∧ eqC σ τ ∧ eqM μ μ1 := by
  obtain ⟨h1, h2, h3, h4⟩ := h.1
  by_cases c1 : a < 0
  · exact ⟨1, σ, pI μ 0 1, by simp [h_L_end, f_X11_end, bd, c1], by simp [f_X12_end, f_X12_end_b13, f_X12_end_b18, c1], rfl, h, eqC.rf σ, eqM.thr μ _⟩
  by_cases c2 : a ≤ gI σ 0
  · have c3 : a ≤ gI μ 1 := h1 ▸ c2
    refine ⟨0, pI σ 0 a, pI (pI μ 0 0) 1 a, by simp [h_L_end, f_X11_end, bd, c1, c2], by simp [f_X12_end, f_X12_end_b18, c1, c3], rfl, ⟨⟨rfl, i_le0 c1, i_trans c2 h3, fun i hi => h4 i (Nat.lt_of_lt_of_le hi (i_le c2))⟩, h.2⟩, eqC.cnt σ _, eqM.cnt μ _ _⟩
  · have c3 : ¬ a ≤ gI μ 1 := h1 ▸ c2
    exact ⟨1, σ, pI μ 0 1, by simp [h_L_end, f_X11_end, bd, c1, c2], by simp [f_X12_end, f_X12_end_b13, f_X12_end_b18, c1, c3], rfl, h, eqC.rf σ, eqM.thr μ _⟩
theorem e_called {σ μ : S5} (a : Int32) (h : RA σ μ) : E1 (h_L_called a σ) (f_X12_called a μ) σ μ := by
  obtain ⟨s1, s2, s3⟩ := h.2.2.2.1
  obtain ⟨-, -, -, -, -, -, -, -, -, -, -, -, -, r1⟩ := h.2.2.2.2
  rcases s1 with s1 | s1
  · have s4 : gI μ 29 = 0 := s2 ▸ s1
    exact E1_no 1 0 (by decide) (by simp [h_L_called, f_X11_called, bd, s1]) (by simp [f_X12_called, f_X12_codeOf, bd, s4]) h
  have s4 : gI μ 29 = 1 := s2 ▸ s1
  obtain ⟨p1, p2, p3, -⟩ := s3 s1
  by_cases c1 : a < 0
  · exact E1_no 2 0 (by decide) (by simp [h_L_called, f_X11_called, bd, s1, c1]) (by simp [f_X12_called, f_X12_codeOf, f_X12_codeOf_b23, bd, s4, c1]) h
  by_cases c2 : a < gI σ 6
  · have c3 : a < gI μ 22 := p1 ▸ c2
    have c5 := i_lt c1 c2
    have c6 : a.toNatClampNeg < 630 := Nat.lt_of_lt_of_le c5 (i_le p3)
    have c7 : xA σ 41 a = xA μ 57 a := r1 _ c6
    exact E1_ok (xA μ 57 a) (by simp [h_L_called, f_X11_called, bd, s1, c1, c2, gd_in c1 c6, c7]) (by simp [f_X12_called, f_X12_codeOf, bd, s4, c1, c3, gd_in c1 (Nat.lt_trans c6 (by decide : 630 < 640))]) h
  · have c3 : ¬ a < gI μ 22 := p1 ▸ c2
    exact E1_no 2 0 (by decide) (by simp [h_L_called, f_X11_called, bd, s1, c1, c2]) (by simp [f_X12_called, f_X12_codeOf, f_X12_codeOf_b23, bd, s4, c1, c3]) h
theorem e_result {σ μ : S5} (a : Int32) (h : RA σ μ) : E1 (h_L_result a σ) (f_X12_result a μ) σ μ := by
  obtain ⟨r0, r1, r2, r3, r4, r5, r6, r7, r8, r9, -⟩ := h.2.2.2.2
  have x0 : xA σ 40 0 = gI μ 44 := r0
  have x1 : xA σ 40 1 = gI μ 45 := r1
  have x2 : xA σ 40 2 = gI μ 38 := r2
  have x3 : xA σ 40 3 = gI μ 34 := r3
  have x4 : xA σ 40 4 = gI μ 39 := r4
  have x5 : xA σ 40 5 = gI μ 40 := r5
  have x6 : xA σ 40 6 = gI μ 41 := r6
  have x7 : xA σ 40 7 = gI μ 42 := r7
  have x8 : xA σ 40 8 = gI μ 43 := r8
  have x9 : xA σ 40 9 = gI μ 46 := r9
  have g : ∀ (z : Int32) (x : Option ((Int32 × Int32) × S5)), ¬ z < 0 → z.toNatClampNeg < 10 → gd z 10 x = x := fun z x h1 h2 => gd_in h1 h2
  by_cases c1 : a < 0
  · refine E1_no 1 (if a = 0 then gI μ 44 else if a = 1 then gI μ 45 else if a = 2 then gI μ 38 else if a = 3 then gI μ 34 else if a = 4 then gI μ 39 else if a = 5 then gI μ 40 else if a = 6 then gI μ 41 else if a = 7 then gI μ 42 else if a = 8 then gI μ 43 else 0) (by decide) (by simp [h_L_result, f_X11_result, bd, c1]) ?_ h
    simp only [f_X12_result, f_X12_result_b11, f_X12_result_b16, if_pos c1]
    split <;> try rfl
    split <;> try rfl
    split <;> try rfl
    split <;> try rfl
    split <;> try rfl
    split <;> try rfl
    split <;> try rfl
    split <;> try rfl
    split <;> try rfl
    all_goals simp
  by_cases c2 : a < 10
  · have c3 : a ≤ 9 := by
      rw [Int32.lt_iff_toInt_lt] at c2
      rw [Int32.le_iff_toInt_le]
      rw [show (10 : Int32).toInt = 10 from rfl] at c2
      rw [show (9 : Int32).toInt = 9 from rfl]
      omega
    have c4 : a.toInt = 0 ∨ a.toInt = 1 ∨ a.toInt = 2 ∨ a.toInt = 3 ∨ a.toInt = 4 ∨ a.toInt = 5 ∨ a.toInt = 6 ∨ a.toInt = 7 ∨ a.toInt = 8 ∨ a.toInt = 9 := by
      rw [Int32.lt_iff_toInt_lt] at c1 c2
      rw [show (0 : Int32).toInt = 0 from rfl] at c1
      rw [show (10 : Int32).toInt = 10 from rfl] at c2
      omega
    rcases c4 with e | e | e | e | e | e | e | e | e | e
    · obtain rfl : a = 0 := Int32.toInt_inj.mp e
      exact E1_ok (gI μ 44) (by simp [h_L_result, f_X11_result, bd, g, x0]) (by simp [f_X12_result, f_X12_result_b16]) h
    · obtain rfl : a = 1 := Int32.toInt_inj.mp e
      exact E1_ok (gI μ 45) (by simp [h_L_result, f_X11_result, bd, g, x1]) (by simp [f_X12_result, f_X12_result_b16]) h
    · obtain rfl : a = 2 := Int32.toInt_inj.mp e
      exact E1_ok (gI μ 38) (by simp [h_L_result, f_X11_result, bd, g, x2]) (by simp [f_X12_result, f_X12_result_b16]) h
    · obtain rfl : a = 3 := Int32.toInt_inj.mp e
      exact E1_ok (gI μ 34) (by simp [h_L_result, f_X11_result, bd, g, x3]) (by simp [f_X12_result, f_X12_result_b16]) h
    · obtain rfl : a = 4 := Int32.toInt_inj.mp e
      exact E1_ok (gI μ 39) (by simp [h_L_result, f_X11_result, bd, g, x4]) (by simp [f_X12_result, f_X12_result_b16]) h
    · obtain rfl : a = 5 := Int32.toInt_inj.mp e
      exact E1_ok (gI μ 40) (by simp [h_L_result, f_X11_result, bd, g, x5]) (by simp [f_X12_result, f_X12_result_b16]) h
    · obtain rfl : a = 6 := Int32.toInt_inj.mp e
      exact E1_ok (gI μ 41) (by simp [h_L_result, f_X11_result, bd, g, x6]) (by simp [f_X12_result, f_X12_result_b16]) h
    · obtain rfl : a = 7 := Int32.toInt_inj.mp e
      exact E1_ok (gI μ 42) (by simp [h_L_result, f_X11_result, bd, g, x7]) (by simp [f_X12_result, f_X12_result_b16]) h
    · obtain rfl : a = 8 := Int32.toInt_inj.mp e
      exact E1_ok (gI μ 43) (by simp [h_L_result, f_X11_result, bd, g, x8]) (by simp [f_X12_result, f_X12_result_b16]) h
    · obtain rfl : a = 9 := Int32.toInt_inj.mp e
      exact E1_ok (gI μ 46) (by simp [h_L_result, f_X11_result, bd, g, x9]) (by simp [f_X12_result, f_X12_result_b16]) h
  · have c3 : ¬ a ≤ 9 := by
      rw [Int32.lt_iff_toInt_lt] at c2
      rw [Int32.le_iff_toInt_le]
      rw [show (10 : Int32).toInt = 10 from rfl] at c2
      rw [show (9 : Int32).toInt = 9 from rfl]
      omega
    have c5 : ∀ z : Int32, z.toInt ≤ 9 → ¬ a = z := fun z hz q => by
      rw [Int32.le_iff_toInt_le] at c3
      rw [show (9 : Int32).toInt = 9 from rfl] at c3
      rw [q] at c3
      exact c3 hz
    exact E1_no 1 0 (by decide) (by simp [h_L_result, f_X11_result, bd, c1, c2]) (by simp [f_X12_result, f_X12_result_b11, f_X12_result_b16, c1, c3, c5 0 (by decide), c5 1 (by decide), c5 2 (by decide), c5 3 (by decide), c5 4 (by decide), c5 5 (by decide), c5 6 (by decide), c5 7 (by decide), c5 8 (by decide)]) h
