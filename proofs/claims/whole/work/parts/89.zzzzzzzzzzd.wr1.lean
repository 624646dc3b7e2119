/-- what is written so far is alike: n signs, or too many -/
def WR (σ μ : S5) : Prop := (gI σ 3 = 0 ∧ ∃ n, n ≤ 12000 ∧ gI σ 2 = nI n ∧ gI μ 56 = nI n ∧ ∀ i, i < n → gA σ 1 i = gA μ 65 i ∧ okS (gA μ 65 i)) ∨ (gI σ 3 = 1 ∧ gI σ 2 = 12000 ∧ gI μ 56 = 12001)
/-- what writing leaves -/
def FrWc (σ τ : S5) : Prop := (∀ j, ¬ j = 2 → ¬ j = 3 → gI τ j = gI σ j) ∧ (∀ j, gJ τ j = gJ σ j) ∧ (∀ j, ¬ j = 1 → gA τ j = gA σ j) ∧ (∀ j, gB τ j = gB σ j) ∧ τ.2.2.2.2 = σ.2.2.2.2
def FrWm (μ ν : S5) : Prop := (∀ j, ¬ j = 56 → gI ν j = gI μ j) ∧ (∀ j, gJ ν j = gJ μ j) ∧ (∀ j, ¬ j = 65 → ¬ j = 28 → ¬ j = 29 → gA ν j = gA μ j) ∧ (∀ j, gB ν j = gB μ j) ∧ ν.2.2.2.2 = μ.2.2.2.2
theorem FrWc.rf (σ : S5) : FrWc σ σ := ⟨fun _ _ _ => rfl, fun _ => rfl, fun _ _ => rfl, fun _ => rfl, rfl⟩
theorem FrWm.rf (μ : S5) : FrWm μ μ := ⟨fun _ _ => rfl, fun _ => rfl, fun _ _ _ _ => rfl, fun _ => rfl, rfl⟩
theorem FrWc.tr {σ τ ρ : S5} (h : FrWc σ τ) (g : FrWc τ ρ) : FrWc σ ρ := ⟨fun j a b => (g.1 j a b).trans (h.1 j a b), fun j => (g.2.1 j).trans (h.2.1 j), fun j a => (g.2.2.1 j a).trans (h.2.2.1 j a), fun j => (g.2.2.2.1 j).trans (h.2.2.2.1 j), g.2.2.2.2.trans h.2.2.2.2⟩
theorem FrWm.tr {σ τ ρ : S5} (h : FrWm σ τ) (g : FrWm τ ρ) : FrWm σ ρ := ⟨fun j a => (g.1 j a).trans (h.1 j a), fun j => (g.2.1 j).trans (h.2.1 j), fun j a b c => (g.2.2.1 j a b c).trans (h.2.2.1 j a b c), fun j => (g.2.2.2.1 j).trans (h.2.2.2.1 j), g.2.2.2.2.trans h.2.2.2.2⟩
/-- a sign is written -/
theorem wr_1 {σ μ : S5} (h : WR σ μ) {b : Int32} (hb : okS b) : ∃ τ ν, f_X8_add_draft b σ = some ((), τ) ∧ f_X12_letters b μ = some ((), ν) ∧ WR τ ν ∧ FrWc σ τ ∧ FrWm μ ν ∧ gA ν 28 = gA μ 28 ∧ gA ν 29 = gA μ 29 := by
  rcases h with ⟨h3, n, hn, h2, h56, hx⟩ | ⟨h3, h2, h56⟩
  · have hr : f_X12_letters b μ = some ((), pI (pA μ 65 (nI n) b) 56 (nI (n + 1))) := by
      unfold f_X12_letters
      rw [h56, if_neg (fun w => by have := (nI_le31 (a := 12001) (b := n) (by omega) (by omega)).mp w; omega), gdn (by omega) (by omega), nI_add1]
    have hv : FrWm μ (pI (pA μ 65 (nI n) b) 56 (nI (n + 1))) := ⟨fun j a => by rw [gI_pI, if_neg a]; rfl, fun _ => rfl, fun j a _ _ => gA_pA_ne a, fun _ => rfl, rfl⟩
    by_cases h12 : n < 12000
    · refine ⟨pI (pA σ 1 (nI n) b) 2 (nI (n + 1)), _, ?_, hr, Or.inl ⟨?_, n + 1, by omega, rfl, rfl, fun i hi => ?_⟩, ⟨fun j a _ => by rw [gI_pI, if_neg a]; rfl, fun _ => rfl, fun j a => gA_pA_ne a, fun _ => rfl, rfl⟩, hv, gA_pA_ne (by decide), gA_pA_ne (by decide)⟩
      · unfold f_X8_add_draft
        rw [h2, if_pos (show nI n < 12000 from (nI_lt31 (b := 12000) (by omega) (by omega)).mpr h12), gdn (by omega) (by omega), byte_ok hb, nI_add1]
      · rw [gI_pI, if_neg (by decide)]
        exact h3
      · show gA (pA σ 1 (nI n) b) 1 i = gA (pA μ 65 (nI n) b) 65 i ∧ okS (gA (pA μ 65 (nI n) b) 65 i)
        rw [gA_pA, gA_pA, nI_clamp (by omega)]
        by_cases e : i = n
        · rw [if_pos ⟨rfl, e⟩, if_pos ⟨rfl, e⟩]
          exact ⟨rfl, hb⟩
        · rw [if_neg (fun w => e w.2), if_neg (fun w => e w.2)]
          exact hx i (by omega)
    · obtain rfl : n = 12000 := by omega
      refine ⟨pI σ 3 1, _, ?_, hr, Or.inr ⟨rfl, ?_, rfl⟩, ⟨fun j _ a => by rw [gI_pI, if_neg a], fun _ => rfl, fun _ _ => rfl, fun _ => rfl, rfl⟩, hv, gA_pA_ne (by decide), gA_pA_ne (by decide)⟩
      · unfold f_X8_add_draft
        rw [h2, if_neg (by decide)]
      · rw [gI_pI, if_neg (by decide)]
        exact h2
  · refine ⟨pI σ 3 1, μ, ?_, ?_, Or.inr ⟨rfl, ?_, h56⟩, ⟨fun j _ a => by rw [gI_pI, if_neg a], fun _ => rfl, fun _ _ => rfl, fun _ => rfl, rfl⟩, FrWm.rf μ, rfl, rfl⟩
    · unfold f_X8_add_draft
      rw [h2, if_neg (by decide)]
    · unfold f_X12_letters
      rw [h56, if_pos (by decide)]
    · rw [gI_pI, if_neg (by decide)]
      exact h2
