/-- so many turns of the one's loop -/
def CRn (j : Nat) (σ σ' : S5) : Prop := ∀ i N, i + j ≤ 100000000 → f_X3_start_L123 (N + j) (nI i) σ = f_X3_start_L123 N (nI (i + j)) σ'
/-- so many turns of the other's -/
def MRn (j : Nat) (μ μ' : S5) : Prop := ∀ N, f_X12_workOut_L25 (N + j) μ = f_X12_workOut_L25 N μ'
theorem CRn.rf (σ : S5) : CRn 0 σ σ := fun _ _ _ => rfl
theorem MRn.rf (μ : S5) : MRn 0 μ μ := fun _ => rfl
theorem CRn.tr {a b : Nat} {σ τ ρ : S5} (h : CRn a σ τ) (g : CRn b τ ρ) : CRn (a + b) σ ρ := fun i N hi => by
  rw [show N + (a + b) = (N + b) + a by omega, h i (N + b) (by omega), g (i + a) N (by omega), show i + a + b = i + (a + b) by omega]
theorem MRn.tr {a b : Nat} {σ τ ρ : S5} (h : MRn a σ τ) (g : MRn b τ ρ) : MRn (a + b) σ ρ := fun N => by
  rw [show N + (a + b) = (N + b) + a by omega, h (N + b), g N]
theorem cr_r {σ σ' : S5} (h0 : xA σ 40 0 = 0) (h45 : gI σ 45 = 0) (h : f_X3_resume σ = some ((), σ')) (h1 : gN σ 1 ≤ gN σ' 1) (h3 : gN σ 3 ≤ gN σ' 3) : CRn 1 σ σ' := fun i N hi => by
  show f_X3_start_B123 _ _ _ = _
  unfold f_X3_start_B123 f_X3_start_b156
  rw [if_neg (show ¬ 100000000 ≤ nI i from fun w => absurd ((lp_le (a := 100000000) (by omega) (by omega)).mp w) (by omega)), if_pos h0, if_pos h45, h, bd_of, gl_e h1, gl_e h3, nI_add1]
theorem cr_w {σ σ' : S5} (h0 : xA σ 40 0 = 0) (h45 : gI σ 45 = 1) (h : f_X3_work σ = some ((), σ')) (h1 : gN σ 1 ≤ gN σ' 1) (h3 : gN σ 3 ≤ gN σ' 3) : CRn 1 σ σ' := fun i N hi => by
  show f_X3_start_B123 _ _ _ = _
  unfold f_X3_start_B123 f_X3_start_b149 f_X3_start_b156
  rw [if_neg (show ¬ 100000000 ≤ nI i from fun w => absurd ((lp_le (a := 100000000) (by omega) (by omega)).mp w) (by omega)), if_pos h0, if_neg (by rw [h45]; decide), h, bd_of, gl_e h1, gl_e h3, nI_add1]
theorem mr_r {μ μ' : S5} (h44 : gI μ 44 = 0) (h53 : ¬ gI μ 53 = 0) (h48 : ¬ gI μ 48 ≤ 0) (h : f_X12_goOn μ = some ((), μ')) : MRn 1 μ μ' := fun N => by
  show f_X12_workOut_B25 _ _ = _
  unfold f_X12_workOut_B25 f_X12_workOut_b46
  rw [if_pos h44, if_neg h53, if_neg h48, if_neg h53, h, bd_of]
theorem mr_w {μ μ' : S5} (h44 : gI μ 44 = 0) (h53 : gI μ 53 = 0) (h : f_X12_workPart μ = some ((), μ')) : MRn 1 μ μ' := fun N => by
  show f_X12_workOut_B25 _ _ = _
  unfold f_X12_workOut_B25 f_X12_workOut_b46
  rw [if_pos h44, if_pos h53, if_pos h53, h, bd_of]
/-- both have worked something out -/
def FIN (τ μ0 : S5) (F k T : Nat) (pa nv D E : Nat → Nat) (σs μs : S5) (t0 : Nat) (σ μ : S5) (Z : Nat) : Prop := ∃ n tg ct P R, MSb τ μ0 F k T pa nv D E σs μs t0 σ μ n tg ct [] t0 0 0 0 0 0 0 P R ∧ GvM τ F pa σ μ n tg ct ∧ R ≤ Z
/-- BOTH GO ON until something is worked out, or both end -/
theorem loop_go {τ μ0 : S5} {F k T : Nat} {pa nv D E : Nat → Nat} (hS : PSt τ μ0 F k T pa nv) (hD : DSt τ μ0 F T pa nv D) (hE : ESt τ μ0 F T nv E) (hB : NDb τ μ0 F pa) (hMk : MKb τ μ0 F T nv) {σs μs : S5} (hPs : eqP τ σs) (hQs : eqQ μ0 μs) {t0 : Nat} : ∀ (m Z : Nat) (σ μ : S5), Z ≤ m → MSt τ μ0 F k T pa nv D E σs μs t0 σ μ Z → ∃ j σ' μ', j ≤ Z ∧ CRn j σ σ' ∧ MRn j μ μ' ∧ (gN σ 1 ≤ gN σ' 1 ∧ gN σ 3 ≤ gN σ' 3) ∧ (FIN τ μ0 F k T pa nv D E σs μs t0 σ' μ' (Z - j) ∨ OVt σs μs σ' μ') := by
  intro m
  induction m with
  | zero =>
    intro Z σ μ hZ hm
    obtain rfl : Z = 0 := by omega
    obtain ⟨n, tg, ct, K, t, W, V, b, f, e, r, P, R, hb, hw | ⟨hv, hR⟩⟩ := hm
    · obtain ⟨c, p, Sc, -, -, -, -, ⟨-, hz⟩, -⟩ := hw
      omega
    · cases K with
      | nil =>
        obtain ⟨h1, h2, h3, h4, h5, h6, h7, -⟩ := hb.2.2.2.2.2.1
        subst h1 h2 h3 h4 h5 h6 h7
        exact ⟨0, σ, μ, Nat.le_refl _, CRn.rf σ, MRn.rf μ, ⟨Nat.le_refl _, Nat.le_refl _⟩, Or.inl ⟨n, tg, ct, P, R, hb, hv, hR⟩⟩
      | cons x K =>
        exfalso
        obtain ⟨-, -, -, -, -, -, -, ⟨-, -, cl, lf, -, -, -, -, -, n8⟩⟩ := hb
        have e1 : fqK E μ0 (x :: K) = fqF E μ0 x + fqK E μ0 K := rfl
        have e2 : 2 ≤ fqF E μ0 x := by unfold fqF; omega
        omega
  | succ m ih =>
    intro Z σ μ hZ hm
    by_cases hZ0 : Z ≤ m
    · exact ih Z σ μ hZ0 hm
    obtain ⟨Z', rfl⟩ : ∃ Z', Z = Z' + 1 := ⟨Z - 1, by omega⟩
    -- one step
    have one : ∀ σ1 μ1 (Zn jn : Nat), Zn ≤ m → Zn + jn ≤ Z' + 1 → CRn jn σ σ1 → MRn jn μ μ1 → (gN σ 1 ≤ gN σ1 1 ∧ gN σ 3 ≤ gN σ1 3) → (MSt τ μ0 F k T pa nv D E σs μs t0 σ1 μ1 Zn ∨ OVt σs μs σ1 μ1) → ∃ j σ' μ', j ≤ Z' + 1 ∧ CRn j σ σ' ∧ MRn j μ μ' ∧ (gN σ 1 ≤ gN σ' 1 ∧ gN σ 3 ≤ gN σ' 3) ∧ (FIN τ μ0 F k T pa nv D E σs μs t0 σ' μ' (Z' + 1 - j) ∨ OVt σs μs σ' μ') := by
      intro σ1 μ1 Zn jn hZn hjn hcr hmr hl hor
      rcases hor with hst | hov
      · obtain ⟨j, σ', μ', a1, a2, a3, a4, a5⟩ := ih Zn σ1 μ1 hZn hst
        refine ⟨jn + j, σ', μ', by omega, hcr.tr a2, hmr.tr a3, ⟨Nat.le_trans hl.1 a4.1, Nat.le_trans hl.2 a4.2⟩, ?_⟩
        rcases a5 with ⟨n, tg, ct, P, R, h1, h2, h3⟩ | h
        · exact Or.inl ⟨n, tg, ct, P, R, h1, h2, by omega⟩
        · exact Or.inr h
      · exact ⟨jn, σ1, μ1, by omega, hcr, hmr, hl, Or.inr hov⟩
    obtain ⟨n, tg, ct, K, t, W, V, b, f, e, r, P, R, hb, hw | ⟨hv, hR⟩⟩ := hm
    · have h44 := hb.2.2.1.2
      have h00 : xA σ 40 0 = 0 := hb.2.2.1.1.1.1.trans h44
      obtain ⟨σ1, μ1, a1, a2, ⟨a3, a4⟩, a5⟩ := wk_go hS hD hE hB hMk hPs hQs hb hw
      obtain ⟨c, p, Sc, ⟨w45, -, w53, -⟩, -⟩ := hw
      exact one σ1 μ1 Z' 1 (by omega) (by omega) (cr_w h00 w45 a1 a3 a4) (mr_w h44 w53 a2) ⟨a3, a4⟩ a5
    · have h44 := hb.2.2.1.2
      have h00 : xA σ 40 0 = 0 := hb.2.2.1.1.1.1.trans h44
      have h53 : ¬ gI μ 53 = 0 := by rw [hv.2.1]; decide
      cases K with
      | nil =>
        obtain ⟨h1, h2, h3, h4, h5, h6, h7, -⟩ := hb.2.2.2.2.2.1
        subst h1 h2 h3 h4 h5 h6 h7
        exact ⟨0, σ, μ, Nat.zero_le _, CRn.rf σ, MRn.rf μ, ⟨Nat.le_refl _, Nat.le_refl _⟩, Or.inl ⟨n, tg, ct, P, R, hb, hv, hR⟩⟩
      | cons x K =>
        have h48 : ¬ gI μ 48 ≤ 0 := by
          have hbd := hb.bd
          rw [hb.2.2.2.2.1.1]
          refine nle0 (by omega) ?_
          rcases hb.2.2.2.2.2.1 with ⟨-, t', W', V', -, a2, -⟩ | ⟨-, t', W', r', -, a2, -⟩ <;> omega
        have step : GOt τ μ0 F k T pa nv D E σs μs t0 Z' σ (f_X3_resume σ) (f_X12_goOn μ) → ∃ j σ' μ', j ≤ Z' + 1 ∧ CRn j σ σ' ∧ MRn j μ μ' ∧ (gN σ 1 ≤ gN σ' 1 ∧ gN σ 3 ≤ gN σ' 3) ∧ (FIN τ μ0 F k T pa nv D E σs μs t0 σ' μ' (Z' + 1 - j) ∨ OVt σs μs σ' μ') := fun hg => by
          obtain ⟨σ1, μ1, a1, a2, ⟨a3, a4⟩, a5⟩ := hg
          exact one σ1 μ1 Z' 1 (by omega) (by omega) (cr_r h00 hv.1 a1 a3 a4) (mr_r h44 h53 h48 a2) ⟨a3, a4⟩ a5
        obtain ⟨kd, a, p, i0, z0⟩ := x
        rcases hb.2.2.2.2.2.1 with ⟨hk6, t', W', V', -, -, -, ⟨-, -, hnf, -⟩, -⟩ | ⟨hk, -⟩
        · dsimp only at hk6
          have hk1 : 1 ≤ kd := by
            by_cases h5 : kd ≤ 5
            · exact (hnf h5).1
            · omega
          have hcs : kd = 1 ∨ kd = 2 ∨ kd = 3 ∨ kd = 4 ∨ kd = 5 ∨ kd = 6 := by omega
          rcases hcs with w | w | w | w | w | w <;> subst w
          · exact step (rs1 hS hPs hQs hb hv.2.2 hR)
          · exact step (rs2 hS hPs hQs hb hv.2.2 hR)
          · exact step (rs3 hS hPs hQs hb hv.2.2 hR)
          · exact step (rs4 hS hMk hPs hQs hb hv.2.2 hR)
          · exact step (rs5 hS hD hE hB hPs hQs hb hv.2.2 hR)
          · exact step (rs6 hS hD hE hPs hQs hb hv.2.2 hR)
        · rcases hk with hk | hk
          · have h2R : 2 ≤ R := by
              obtain ⟨-, -, -, -, -, -, -, ⟨-, -, cl, lf, -, -, -, -, -, n8⟩⟩ := id hb
              have e1 : fqK E μ0 ((kd, a, p, i0, z0) :: K) = fqF E μ0 (kd, a, p, i0, z0) + fqK E μ0 K := rfl
              have e2 : 2 ≤ fqF E μ0 (kd, a, p, i0, z0) := by unfold fqF; omega
              omega
            obtain ⟨σ1, μ1, a1, a2, ⟨a3, a4⟩, ⟨b1, b2, b3, b4, b5⟩, σ2, μ2, c1, c2, ⟨c3, c4⟩, c5⟩ := rs7 (Z := Z' - 1) hS hb hk hv (by omega)
            exact one σ2 μ2 (Z' - 1) 2 (by omega) (by omega) ((cr_r h00 hv.1 a1 a3 a4).tr (cr_r b1 b2 c1 c3 c4)) ((mr_r h44 h53 h48 a2).tr (mr_r b3 b4 b5 c2)) ⟨Nat.le_trans a3 c3, Nat.le_trans a4 c4⟩ c5
          · exact step (rs8 hS hb hk hv hR)
