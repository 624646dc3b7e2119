theorem Tj_cg {τ : S5} {pa : Nat → Nat} {rt : Nat → Int32} {n k f : Nat} {ρ ρ' : Nat → Bool} (h : ∀ x, x < pa f → ρ x = ρ' x) : Tj τ pa rt n k f ρ = true → Tj τ pa rt n k f ρ' = true := by
  cases k with
  | zero => exact fun w => absurd w Bool.false_ne_true
  | succ k =>
    intro w
    obtain ⟨a, b⟩ := bP_t.mp w
    exact bP_t.mpr ⟨a, fun X x1 x2 => b X (fun x hx hr => x1 x hx (by rw [← h x hx]; exact hr)) x2⟩
/-- if a round brings nothing new, no later one does -/
theorem Tj_fix {τ : S5} {pa : Nat → Nat} {rt : Nat → Int32} {n k : Nat} (h : TLe (Tj τ pa rt n (k + 1)) (Tj τ pa rt n k)) : TLe (Tl τ pa rt n) (Tj τ pa rt n k) := by
  refine Tl_min (fun j hj f ρ w => ?_)
  have h1 : Tj τ pa rt n (k + 1) f ρ = true := by
    obtain ⟨a, b⟩ := bP_t.mp w
    exact bP_t.mpr ⟨a, valP_le (hj.l (Tj_mo τ pa rt n j)) (fun _ _ z => z) b⟩
  exact h f ρ h1
/-- how many rows are set after so many rounds -/
noncomputable def cJ (τ : S5) (pa : Nat → Nat) (rt : Nat → Int32) (n k y : Nat) : Nat := if Tj τ pa rt n k (y / 256) (fun i => (y % 256).testBit i) = true then 1 else 0
theorem cJ_up {τ : S5} {pa : Nat → Nat} {rt : Nat → Int32} {n F : Nat} (hpF : ∀ g, F ≤ g → 8 < pa g) : ∀ k, TLe (Tl τ pa rt n) (Tj τ pa rt n k) ∨ k ≤ pre (cJ τ pa rt n k) (256 * F)
  | 0 => Or.inr (Nat.zero_le _)
  | k + 1 => by
    rcases cJ_up (τ := τ) (rt := rt) (n := n) hpF k with w | w
    · exact Or.inl (fun f ρ z => Tj_le τ pa rt n k f ρ (w f ρ z))
    · by_cases hs : TLe (Tj τ pa rt n (k + 1)) (Tj τ pa rt n k)
      · exact Or.inl (fun f ρ z => Tj_le τ pa rt n k f ρ (Tj_fix hs f ρ z))
      · refine Or.inr ?_
        obtain ⟨f, ρ, h1, h2⟩ : ∃ f ρ, Tj τ pa rt n (k + 1) f ρ = true ∧ ¬ Tj τ pa rt n k f ρ = true := by
          refine Classical.byContradiction (fun z => hs (fun f ρ a => ?_))
          exact Classical.byContradiction (fun b => z ⟨f, ρ, a, b⟩)
        have hp8 : pa f ≤ 8 := (bP_t.mp h1).1
        have hf : f < F := by
          by_cases hf : f < F
          · exact hf
          · have := hpF f (by omega); omega
        have h256 := rw_256 (ρ := ρ) hp8
        have hb : ∀ x, x < pa f → ρ x = (rwN ρ (pa f)).testBit x := fun x hx => (rwN_bit ρ (pa f) x hx).symm
        have e1 : (256 * f + rwN ρ (pa f)) / 256 = f := by omega
        have e2 : (256 * f + rwN ρ (pa f)) % 256 = rwN ρ (pa f) := by omega
        have := pre_lts (w := cJ τ pa rt n k) (w' := cJ τ pa rt n (k + 1)) (256 * F) (fun i _ => by
          unfold cJ
          by_cases z : Tj τ pa rt n k (i / 256) (fun j => (i % 256).testBit j) = true
          · rw [if_pos z, if_pos (Tj_le τ pa rt n k _ _ z)]
            exact Nat.le_refl _
          · rw [if_neg z]; omega) ⟨256 * f + rwN ρ (pa f), by omega, by
          unfold cJ
          rw [e1, e2, if_pos (Tj_cg hb h1), if_neg (fun z => h2 (Tj_cg (fun x hx => (hb x hx).symm) z))]
          omega⟩
        omega
theorem cJ_bd {τ : S5} {pa : Nat → Nat} {rt : Nat → Int32} {n F k : Nat} (hF6 : F ≤ 630) (hpF : ∀ g, F ≤ g → 8 < pa g) (h : ¬ TLe (Tl τ pa rt n) (Tj τ pa rt n k)) : k ≤ 161280 := by
  rcases cJ_up (τ := τ) (rt := rt) (n := n) hpF k with w | w
  · exact absurd w h
  · have := pre_one (w := cJ τ pa rt n k) (fun i => by unfold cJ; split <;> omega) (256 * F)
    omega
/-- all functions, from the last to the first -/
theorem so_L44 {τ : S5} {pa : Nat → Nat} {rt : Nat → Int32} {nv : Nat → Nat} {F r : Nat} {σ0 : S5} {rec22 : Int32 → Int32 → S5 → Option (Unit × S5)} (hD : DX τ pa rt nv F) (hE : TF2 τ σ0) (h22 : gI σ0 22 = 0) (v2 : Int32) : ∀ (f N : Nat) (v : Int32) (σ : S5), f ≤ F → f < N → RI τ pa rt F r σ0 σ v (fun g _ => f ≤ g) → ∃ v' σ', f_X1_solve_L44 (f_wordE 64) rec22 N v v2 (nI f - 1) σ = rec22 v' (v2 + 1) σ' ∧ RI τ pa rt F r σ0 σ' v' (fun _ _ => True) := by
  have hF6 := hD.1
  intro f
  induction f with
  | zero =>
    intro N v σ hf hN hI
    obtain ⟨N, rfl⟩ : ∃ m, N = m + 1 := ⟨N - 1, by omega⟩
    obtain ⟨a1, a2, a3, a4, a5, a6, a7, a8⟩ := hI
    refine ⟨v, σ, ?_, a1, a2, a3, a4, fun g ρ hg _ => a5 g ρ hg (Nat.zero_le _), fun hv => ⟨(a6 hv).1, fun g ρ hg _ => (a6 hv).2 g ρ hg (Nat.zero_le _)⟩, a7, a8⟩
    show f_X1_solve_B44 _ _ _ _ _ _ _ = _
    unfold f_X1_solve_B44
    rw [if_pos (by decide)]
  | succ f ih =>
    intro N v σ hf hN hI
    obtain ⟨N, rfl⟩ : ∃ m, N = m + 1 := ⟨N - 1, by omega⟩
    have e1 : nI (f + 1) - 1 = nI f := by
      have := nI_sub (a := f + 1) (b := 1) (by omega)
      exact this
    obtain ⟨v', σ', q1, q2⟩ := ip_go (r := r) (v1 := v) hD hE h22 (f := f) (by omega) hI
    obtain ⟨v'', σ'', q3, q4⟩ := ih N (v ||| v') σ' (by omega) (by omega) q2
    refine ⟨v'', σ'', ?_, q4⟩
    rw [← q3, e1]
    show f_X1_solve_B44 _ _ _ _ _ _ _ = _
    unfold f_X1_solve_B44
    rw [if_neg (nI_nneg (by omega)), q1, bd_of, show nI f + (-1) = nI f - 1 from (Int32.sub_eq_add_neg _ _).symm]
/-- THE TABLES ARE THE LEAST ONES -/
theorem so_L22 {τ : S5} {pa : Nat → Nat} {rt : Nat → Int32} {nv : Nat → Nat} {F : Nat} {σb : S5} (hD : DX τ pa rt nv F) (hE : TF2 τ σb) (h22 : gI σb 22 = 0) (h6 : gI σb 6 = nI F) : ∀ (m r N : Nat) (v : Int32) (σ : S5), r + m = 200000 → m < N → (FrI σb σ ∧ (v = 0 ∨ v = 1) ∧ (∃ k, TLe (TBc σ pa) (Tj τ pa rt 41 k)) ∧ TLe (Tj τ pa rt 41 r) (TBc σ pa) ∧ Mk σ pa F ∧ (v = 0 → ∀ k, TLe (Tj τ pa rt 41 k) (TBc σ pa) → TLe (Tj τ pa rt 41 (k + 1)) (TBc σ pa)) ∧ (v = 1 → r = 0 ∨ ¬ TLe (Tl τ pa rt 41) (Tj τ pa rt 41 (r - 1)))) → ∃ σ', f_X1_solve_L22 (f_wordE 64) N v (nI r) σ = f_X1_solve_b68 (f_wordE 64) σ' ∧ FrI σb σ' ∧ TBc σ' pa = Tl τ pa rt 41 := by
  obtain ⟨hF6, hpa, hpF, hX⟩ := id hD
  have hend : ∀ (N r : Nat) (σ : S5), r ≤ 200000 → (FrI σb σ ∧ (∃ k, TLe (TBc σ pa) (Tj τ pa rt 41 k)) ∧ ∀ k, TLe (Tj τ pa rt 41 k) (TBc σ pa) → TLe (Tj τ pa rt 41 (k + 1)) (TBc σ pa)) → ∃ σ', f_X1_solve_L22 (f_wordE 64) (N + 1) 0 (nI r) σ = f_X1_solve_b68 (f_wordE 64) σ' ∧ FrI σb σ' ∧ TBc σ' pa = Tl τ pa rt 41 := fun N r σ hr hI => by
    obtain ⟨a1, ⟨k, a3⟩, a6⟩ := hI
    refine ⟨σ, ?_, a1, ?_⟩
    · show f_X1_solve_B22 _ _ _ _ _ = _
      unfold f_X1_solve_B22
      rw [if_neg (show ¬ (1000000 : Int32) ≤ nI r from fun z => by have := (nI_le31 (a := 1000000) (by omega) (by omega)).mp z; omega), if_pos rfl]
    · have h1 := Tl_min a6
      funext f ρ
      exact Bool.eq_iff_iff.mpr ⟨fun z => Tj_Tl τ pa rt 41 k f ρ (a3 f ρ z), fun z => h1 f ρ z⟩
  intro m
  induction m with
  | zero =>
    intro r N v σ hr hN hI
    obtain ⟨N, rfl⟩ : ∃ m, N = m + 1 := ⟨N - 1, by omega⟩
    obtain ⟨a1, a2, a3, a4, a5, a6, a7⟩ := hI
    rcases a2 with rfl | rfl
    · exact hend N r σ (by omega) ⟨a1, a3, a6 rfl⟩
    · rcases a7 rfl with w | w
      · omega
      · have := cJ_bd hF6 hpF w
        omega
  | succ m ih =>
    intro r N v σ hr hN hI
    obtain ⟨N, rfl⟩ : ∃ m, N = m + 1 := ⟨N - 1, by omega⟩
    obtain ⟨a1, a2, a3, a4, a5, a6, a7⟩ := hI
    rcases a2 with rfl | rfl
    · exact hend N r σ (by omega) ⟨a1, a3, a6 rfl⟩
    · have hEs := hE.of a1.2.2.1
      have h22s : gI σ 22 = 0 := by rw [a1.1 22 (by decide) (by decide)]; exact h22
      have st : f_X1_solve_L22 (f_wordE 64) (N + 1) 1 (nI r) σ = f_X1_solve_L44 (f_wordE 64) (f_X1_solve_L22 (f_wordE 64) N) FU 0 (nI r) (nI F - 1) σ := by
        show f_X1_solve_B22 _ _ _ _ _ = _
        unfold f_X1_solve_B22
        rw [if_neg (show ¬ (1000000 : Int32) ≤ nI r from fun z => by have := (nI_le31 (a := 1000000) (by omega) (by omega)).mp z; omega), if_neg (by decide), a1.1 6 (by decide) (by decide), h6]
      obtain ⟨v', σ', q1, b1, b2, b3, b4, b5, b6, b7, b8⟩ := so_L44 (r := r) (σ0 := σ) (rec22 := f_X1_solve_L22 (f_wordE 64) N) hD hEs h22s (nI r) F FU 0 σ (Nat.le_refl _) (by show F < 1099511627776; omega) ⟨FrI.rf _, Or.inl rfl, a3, a4, fun g ρ hg hd => absurd hd (by omega), fun _ => ⟨fun _ _ => rfl, fun g ρ hg hd => absurd hd (by omega)⟩, fun _ => rfl, a5⟩
      rw [st, q1, nI_add1]
      refine ih (r + 1) N v' σ' (by omega) (by omega) ⟨a1.tr b1, b2, b3, fun g ρ hj => ?_, b8, fun hv k hk g ρ hj => ?_, fun hv => Or.inr (fun hT => ?_)⟩
      · have hg : g < F := by
          by_cases hg : g < F
          · exact hg
          · have h1 := hpF g (by omega)
            have h2 := (bP_t.mp hj).1
            omega
        exact b5 g ρ hg True.intro hj
      · have hg : g < F := by
          by_cases hg : g < F
          · exact hg
          · have h1 := hpF g (by omega)
            have h2 := (bP_t.mp hj).1
            omega
        have e : TBc σ' pa = TBc σ pa := TBc_eq hF6 hpF (b6 hv).1
        rw [e] at hk ⊢
        exact (b6 hv).2 g ρ hg True.intro k hk hj
      · have := b7 (fun g ρ z => a4 g ρ (hT g ρ z))
        rw [hv] at this
        exact absurd this (by decide)
