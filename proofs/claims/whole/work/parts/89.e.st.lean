/-- a relation that the easy calls don't touch -/
def RXok (RX : S5 → S5 → Prop) : Prop := ∀ (σ τ μ ν : S5), eqC σ τ → eqM μ ν → RX σ μ → RX τ ν
theorem eqC.ka {σ τ : S5} (h : eqC σ τ) : ka σ ≤ ka τ ∧ sl σ ≤ sl τ := by
  have e : ∀ k : Nat, gN τ k = gN σ k := fun k => by show τ.2.2.2.2 k = σ.2.2.2.2 k; rw [h.2.2.2.2]
  have h2 := ka_same (e 1) (e 3)
  omega
theorem st1_of {RX : S5 → S5 → Prop} (hX : RXok RX) {h f : Int32 → S5 → Option (Int32 × S5)} (he : ∀ (σ μ : S5) (a : Int32), RA σ μ → E1 (h a σ) (f a μ) σ μ) : St1 (fun σ μ => RA σ μ ∧ RX σ μ) h f := by
  intro σ μ a hR
  obtain ⟨kx, rm, τ, μ1, h1, h2, h3, h4, h5, h6, h7⟩ := he σ μ a hR.1
  exact ⟨kx, rm, τ, μ1, h1, h2, h3, h4, ⟨h5, hX _ _ _ _ h6 h7 hR.2⟩, h6.ka.1, h6.ka.2⟩
theorem st_fault {RX : S5 → S5 → Prop} (hX : RXok RX) : St1 (fun σ μ => RA σ μ ∧ RX σ μ) h_L_fault f_X12_fault := st1_of hX (fun _ _ a h => e_fault a h)
theorem st_letter {RX : S5 → S5 → Prop} (hX : RXok RX) : St1 (fun σ μ => RA σ μ ∧ RX σ μ) h_L_letter f_X12_letter := st1_of hX (fun _ _ a h => e_letter a h)
theorem st_number {RX : S5 → S5 → Prop} (hX : RXok RX) : St1 (fun σ μ => RA σ μ ∧ RX σ μ) h_L_number f_X12_number := st1_of hX (fun _ _ a h => e_number a h)
theorem st_about {RX : S5 → S5 → Prop} (hX : RXok RX) : St1 (fun σ μ => RA σ μ ∧ RX σ μ) h_L_about f_X12_about := st1_of hX (fun _ _ a h => e_about a h)
theorem st_called {RX : S5 → S5 → Prop} (hX : RXok RX) : St1 (fun σ μ => RA σ μ ∧ RX σ μ) h_L_called f_X12_called := st1_of hX (fun _ _ a h => e_called a h)
theorem st_result {RX : S5 → S5 → Prop} (hX : RXok RX) : St1 (fun σ μ => RA σ μ ∧ RX σ μ) h_L_result f_X12_result := st1_of hX (fun _ _ a h => e_result a h)
theorem st_end {RX : S5 → S5 → Prop} (hX : RXok RX) : StE (fun σ μ => RA σ μ ∧ RX σ μ) := by
  intro σ μ a hR
  obtain ⟨kx, τ, μ1, h1, h2, h3, h5, h6, h7⟩ := e_end a hR.1
  exact ⟨kx, τ, μ1, h1, h2, h3, ⟨h5, hX _ _ _ _ h6 h7 hR.2⟩, h6.ka.1, h6.ka.2⟩
/-- the start -/
theorem ra_start : RA sg0 mu0 := by
  refine ⟨⟨rfl, by decide, by decide, fun i hi => absurd hi (Nat.not_lt_zero i)⟩, ⟨rfl, by decide, by decide, fun i hi => absurd hi (Nat.not_lt_zero i)⟩, ⟨rfl, rfl, rfl, rfl, rfl⟩, ⟨Or.inl rfl, rfl, fun h => absurd h (by decide)⟩, ⟨rfl, rfl, rfl, rfl, rfl, rfl, rfl, rfl, rfl, rfl, by decide, by decide, fun i hi => absurd hi (Nat.not_lt_zero i), fun _ _ => rfl⟩⟩
