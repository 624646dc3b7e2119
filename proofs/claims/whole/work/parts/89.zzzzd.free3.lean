/-- the class's count goes up alone -/
theorem fr_c {σ τ μ : S5} {B F f c : Nat} {y : Int32} (hF : F ≤ 630) (h : FRs σ τ μ B F) (hf : f < F) (hc : xA τ 4 (nI f) = nI c) (hc9 : 9 ≤ c) (hcB : c ≤ B) (hB : B < 900000) (hr : xA μ 20 (nI f) = nI 9) : FRs σ (cFr τ f c y) μ (B + 1) F := by
  intro g hg
  obtain ⟨c', r', a1, a2, a3, a4, a5⟩ := h g hg
  by_cases hgf : g = f
  · subst hgf
    have er : r' = 9 := nI_inj (by omega) (by omega) (a2.symm.trans hr)
    subst er
    refine ⟨c + 1, 9, by rw [cFr_4 _ _ _ _ _ (by omega) (by omega), if_pos rfl], a2, by omega, Or.inr ⟨rfl, by omega⟩, fun i i1 i2 => ?_⟩
    rw [cFr_5 _ _ _ _ _ (by omega) (by omega) (by omega), if_neg (by omega)]
    exact a5 i i1 i2
  · refine ⟨c', r', by rw [cFr_4 _ _ _ _ _ (by omega) (by omega), if_neg hgf]; exact a1, a2, by omega, a4, fun i i1 i2 => ?_⟩
    rw [cFr_5 _ _ _ _ _ (by omega) (by omega) (by omega), if_neg (by omega)]
    exact a5 i i1 i2
/-- both counts go up -/
theorem fr_b {σ τ μ : S5} {B F f r : Nat} {y v : Int32} (hF : F ≤ 630) (h : FRs σ τ μ B F) (hf : f < F) (hc : xA τ 4 (nI f) = nI r) (hr8 : r ≤ 8) (hr : xA μ 20 (nI f) = nI r) (hcB : r ≤ B) (hv : VR σ y v) : FRs σ (cFr τ f r y) (pA (pA μ 21 (nI (9 * f + r)) v) 20 (nI f) (nI (r + 1))) (B + 1) F := by
  have e21 : ∀ x, x < 5760 → xA (pA (pA μ 21 (nI (9 * f + r)) v) 20 (nI f) (nI (r + 1))) 21 (nI x) = if x = 9 * f + r then v else xA μ 21 (nI x) := by
    intro x hx
    rw [xA_pA, if_neg (fun w => absurd w.1 (by decide))]
    by_cases hxx : x = 9 * f + r
    · subst hxx
      rw [if_pos rfl, xA_pA, if_pos ⟨rfl, rfl⟩]
    · rw [if_neg hxx, xA_pA, if_neg (fun w => tn_neL (by omega) (by omega) hxx w.2)]
  intro g hg
  obtain ⟨c', r', a1, a2, a3, a4, a5⟩ := h g hg
  by_cases hgf : g = f
  · subst hgf
    have er : r' = r := nI_inj (by omega) (by omega) (a2.symm.trans hr)
    subst er
    refine ⟨r' + 1, r' + 1, by rw [cFr_4 _ _ _ _ _ (by omega) (by omega), if_pos rfl], by rw [xA_pA, if_pos ⟨rfl, rfl⟩], by omega, ?_, fun i i1 i2 => ?_⟩
    · by_cases h8 : r' = 8
      · exact Or.inr ⟨by omega, by omega⟩
      · exact Or.inl ⟨by omega, rfl⟩
    · rw [cFr_5 _ _ _ _ _ (by omega) (by omega) (by omega), e21 _ (by omega)]
      by_cases hir : i = r'
      · subst hir
        rw [if_pos ⟨i2, rfl⟩, if_pos rfl]
        exact hv
      · rw [if_neg (by omega), if_neg (by omega)]
        exact a5 i (by omega) i2
  · refine ⟨c', r', by rw [cFr_4 _ _ _ _ _ (by omega) (by omega), if_neg hgf]; exact a1, by rw [xA_pA, if_neg (fun w => tn_ne (by omega) (by omega) hgf w.2), xA_pA, if_neg (fun w => absurd w.1 (by decide))]; exact a2, by omega, a4, fun i i1 i2 => ?_⟩
    rw [cFr_5 _ _ _ _ _ (by omega) (by omega) (by omega), if_neg (by omega), e21 _ (by omega), if_neg (by omega)]
    exact a5 i i1 i2
/-- both add a free variable -/
theorem af_step {σ τ μ : S5} (hD : DN σ) {B F f : Nat} {y v : Int32} (hF : F ≤ 630) (h : FRs σ τ μ B F) (hf : f < F) (hB : B < 900000) (hv : VR σ y v) : ∃ τ' μ', f_X2_addFree (nI f) y τ = some ((), τ') ∧ f_X12_addFree (nI f) v μ = some ((), μ') ∧ FRs σ τ' μ' (B + 1) F ∧ FrF τ τ' ∧ FrG μ μ' := by
  obtain ⟨c, r, a1, a2, a3, a4, a5⟩ := h f hf
  have hbig := FU_big (n := 30000) (by decide)
  have hr9 : r ≤ 9 := by omega
  obtain ⟨m1, m2⟩ := af_0 (μ := μ) (f := f) (r := r) (v := v) (by omega) a2 hr9 r 0 FU (by omega) (by omega)
  have hM : f_X12_addFree (nI f) v μ = f_X12_addFree_L5 FU (nI f) v 0 (nI 0) μ := rfl
  rcases c_addF (τ := τ) (f := f) (c := c) (y := y) (by omega) a1 (by omega) with ⟨q, q1, q2, q3⟩ | ⟨q1, q2⟩
  · have w := a5 q (by omega) (by omega)
    rw [q2] at w
    have e := (w.eq hD hv).mp rfl
    refine ⟨τ, μ, q3, ?_, h.le (by omega), FrF.rf τ, FrG.rf μ⟩
    rw [hM]
    exact m1 ⟨q, by omega, by omega, e⟩
  · have hno8 : ∀ i, i < r → i < 8 → ¬ xA μ 21 (nI (9 * f + i)) = v := by
      intro i i1 i2 w
      have w2 := a5 i i1 i2
      rw [w] at w2
      exact q1 i (by omega) ((w2.eq hD hv).mpr rfl)
    by_cases h9 : r = 9
    · subst h9
      refine ⟨cFr τ f c y, μ, q2, ?_, fr_c hF h hf a1 (by omega) a3 hB a2, frF_cFr τ f c y, FrG.rf μ⟩
      rw [hM]
      by_cases h8 : xA μ 21 (nI (9 * f + 8)) = v
      · exact m1 ⟨8, by omega, by omega, h8⟩
      · rw [m2 (fun i i1 i2 => by
          by_cases hi8 : i = 8
          · rw [hi8]; exact h8
          · exact hno8 i i2 (by omega)), if_pos rfl]
    · have hcr : c = r := by omega
      subst hcr
      refine ⟨cFr τ f c y, _, q2, ?_, fr_b hF h hf a1 (by omega) a2 a3 hv, frF_cFr τ f c y, ((FrG.rf μ).A (Or.inr rfl)).A (Or.inl rfl)⟩
      rw [hM, m2 (fun i i1 i2 => hno8 i i2 (by omega)), if_neg h9]
