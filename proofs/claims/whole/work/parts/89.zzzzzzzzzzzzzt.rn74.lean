/-- THE RELATION BETWEEN BOTH -/
def Rel1 (σ μ : S5) : Prop := RA σ μ ∧ RXX σ μ ∧ NKs σ ∧ RYY σ μ ∧ LNs σ
theorem Ln.le {m x : Nat} (h : Ln m x) : 512 ≤ x ∧ x ≤ 512 * 2 ^ m ∧ x / 512 * 512 = x := by
  obtain ⟨a, h1, rfl⟩ := h
  have h2 : 2 ^ a ≤ 2 ^ m := Nat.pow_le_pow_right (by decide) h1
  have h3 : 1 ≤ 2 ^ a := Nat.one_le_two_pow
  omega
theorem LNs.rm {σ : S5} (h : LNs σ) : ka σ ≤ 2560 ∧ sl σ ≤ 2621440 := by
  obtain ⟨h1, h2⟩ := h
  have a1 := h1.le
  have a2 := h2.le
  have e1 : 512 * 2 ^ 11 = 1048576 := by decide
  have e2 : 512 * 2 ^ 9 = 262144 := by decide
  unfold ka sl
  omega
theorem ka_mo {σ τ : S5} (h1 : gN σ 1 ≤ gN τ 1) (h3 : gN σ 3 ≤ gN τ 3) : ka σ ≤ ka τ ∧ sl σ ≤ sl τ := by
  unfold ka sl
  have d1 : gN σ 1 / 512 ≤ gN τ 1 / 512 := Nat.div_le_div_right h1
  have d3 : gN σ 3 / 512 ≤ gN τ 3 / 512 := Nat.div_le_div_right h3
  omega
theorem ka_eq {σ τ : S5} (h1 : gN τ 1 = gN σ 1) (h3 : gN τ 3 = gN σ 3) : ka σ ≤ ka τ ∧ sl σ ≤ sl τ := ka_mo (Nat.le_of_eq h1.symm) (Nat.le_of_eq h3.symm)
theorem LNs.eq {σ τ : S5} (h : LNs σ) (h1 : gN τ 1 = gN σ 1) (h3 : gN τ 3 = gN σ 3) : LNs τ := ⟨by rw [h1]; exact h.1, by rw [h3]; exact h.2⟩
/-- what leaves the program alone keeps the relation -/
theorem Rel1.mv {σ μ τ ν : S5} (h : Rel1 σ μ) (hA : RA τ ν) (hC : eqC σ τ) (hM : eqM μ ν) : Rel1 τ ν ∧ ka σ ≤ ka τ ∧ sl σ ≤ sl τ := by
  obtain ⟨-, hX, hN, hY, hL⟩ := h
  have h1 : gN τ 1 = gN σ 1 := congrFun hC.2.2.2.2 1
  have h3 : gN τ 3 = gN σ 3 := congrFun hC.2.2.2.2 3
  exact ⟨⟨hA, RXX.mv hC hM hX, hN.mv hC, RYY.mv hC hM hY, hL.eq h1 h3⟩, ka_eq h1 h3⟩
theorem E1.rel {x y : Option (Int32 × S5)} {σ μ : S5} (h : Rel1 σ μ) (e : E1 x y σ μ) : ∃ (kx rm : Int32) (τ μ1 : S5), x = some (kx, τ) ∧ y = some (rm, μ1) ∧ gI μ1 0 = kx ∧ (kx = 0 → gB τ 30 (0 : Int32).toNatClampNeg = (rm).toInt64) ∧ Rel1 τ μ1 ∧ ka σ ≤ ka τ ∧ sl σ ≤ sl τ := by
  obtain ⟨kx, rm, τ, μ1, e1, e2, e3, e4, e5, e6, e7⟩ := e
  exact ⟨kx, rm, τ, μ1, e1, e2, e3, e4, h.mv e5 e6 e7⟩
/-- EVERY CALL KEEPS THE RELATION, WITH ONE ANSWER -/
theorem law_step : LawStep Rel1 := by
  refine ⟨fun σ μ a h => (e_put a h.1).rel h, fun σ μ a h => ?_, fun σ μ h => ?_, fun σ μ h => ?_, fun σ μ a h => (e_fault a h.1).rel h, fun σ μ h => ?_, fun σ μ a h => (e_letter a h.1).rel h, fun σ μ a a2 h => (e_function a a2 h.1 h.2.1).rel h, fun σ μ a a2 h => ?_, fun σ μ a a2 h => (e_bit a a2 h.1 h.2.1).rel h, fun σ μ a a2 h => ?_, fun σ μ a h => (e_result a h.1).rel h, fun σ μ a h => (e_number a h.1).rel h, fun σ μ a h => (e_called a h.1).rel h, fun σ μ a h => (e_about a h.1).rel h⟩
  · obtain ⟨kx, τ, μ1, e1, e2, e3, e5, e6, e7⟩ := e_end a h.1
    exact ⟨kx, τ, μ1, e1, e2, e3, h.mv e5 e6 e7⟩
  · obtain ⟨cv, rm, τ, μ1, e1, e2, e3, e4, e5, e6, e7, -⟩ := e_take h.1
    exact ⟨cv, rm, τ, μ1, e1, e2, e3, e4, h.mv e5 e6 e7⟩
  · obtain ⟨hA, hX, hN, hY, hL⟩ := h
    obtain ⟨kx, rm, τ, μ1, e1, e2, e3, e4, e5, e6, e7, e8⟩ := prog_go2 hA hX hY
    have hn := nk_prog hN _ _ e1
    have hk : gN τ 1 = gN σ 1 ∧ gN τ 3 = gN σ 3 := by
      rcases e8 with w | w
      · exact ⟨w.2.2.2.2.2 1 (by decide), w.2.2.2.2.2 3 (by decide)⟩
      · rw [w]
        exact ⟨rfl, rfl⟩
    exact ⟨kx, rm, τ, μ1, e1, e2, e3, e4, ⟨e5, e6, hn, e7, hL.eq hk.1 hk.2⟩, ka_eq hk.1 hk.2⟩
  · obtain ⟨hA, hX, hN, hY, hL⟩ := h
    obtain ⟨kx, rm, τ, μ1, e1, e2, e3, e4, e5, e6, e7, e8, e9⟩ := e_write hA hX hN
    have k1 : gN τ 1 = gN σ 1 := e8.2.2.2.2 1 (by decide)
    have k3 : gN τ 3 = gN σ 3 := e8.2.2.2.2 3 (by decide)
    exact ⟨kx, rm, τ, μ1, e1, e2, e3, e4, ⟨e5, e6, e7, hY.kw e8 e9, hL.eq k1 k3⟩, ka_eq k1 k3⟩
  · obtain ⟨kx, rm, τ, μ1, e1, e2, e3, e4, e5, e6, e7⟩ := e_needs a a2 h.1 h.2.1
    exact ⟨kx, rm, τ, μ1, e1, e2, e3, e4, h.mv e5 e6 e7⟩
  · obtain ⟨hA, hX, hN, hY, hL⟩ := h
    have ha : (if a = 0 then (0 : Int32) else 1) = 0 ∨ (if a = 0 then (0 : Int32) else 1) = 1 := by
      by_cases c : a = 0
      · rw [if_pos c]; exact Or.inl rfl
      · rw [if_neg c]; exact Or.inr rfl
    obtain ⟨kx, rm, τ, μ1, e1, e2, e3, e4, e5, e6, e7, e8, e9, e10, e11⟩ := e_run _ a2 ha hA hX hY hN hL
    exact ⟨kx, rm, τ, μ1, e1, e2, e3, e4, ⟨e5, e6, e8, e7, e9⟩, ka_mo e10 e11⟩
theorem law_room : LawRoom Rel1 := fun _ _ h => h.2.2.2.2.rm
/-- the relation holds at the start -/
theorem rel_0 : Rel1 sg0 mu0 := by
  refine ⟨⟨⟨rfl, by decide, by decide, fun i hi => absurd hi (Nat.not_lt_zero _)⟩, ⟨rfl, by decide, by decide, fun i hi => absurd hi (Nat.not_lt_zero _)⟩, ⟨rfl, rfl, rfl, rfl, rfl⟩, ⟨Or.inl rfl, rfl, fun w => absurd w (by decide)⟩, ⟨rfl, rfl, rfl, rfl, rfl, rfl, rfl, rfl, rfl, rfl, by decide, by decide, fun i hi => absurd hi (Nat.not_lt_zero _), fun f _ => rfl⟩⟩, ⟨fun s _ _ => ⟨0, by omega, rfl, fun a b h1 h2 => absurd h2 (Nat.not_lt_zero _)⟩, rfl, fun w => absurd w (by decide)⟩, ⟨okN_0, fun _ => okN_0⟩, fun w => absurd w (by decide), ⟨0, by omega, rfl⟩, ⟨0, by omega, rfl⟩⟩
