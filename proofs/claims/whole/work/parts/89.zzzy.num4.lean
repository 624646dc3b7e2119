/-- what the reference's numbering never writes -/
def FrV (σ τ : S5) : Prop := (∀ j, ¬ j = 22 → gI τ j = gI σ j) ∧ (∀ j, gJ τ j = gJ σ j) ∧ (∀ j, ¬ j = 19 → ¬ j = 12 → ¬ j = 11 → ¬ j = 20 → ¬ j = 24 → gA τ j = gA σ j) ∧ (∀ j, gB τ j = gB σ j) ∧ τ.2.2.2.2 = σ.2.2.2.2
theorem FrV.rf (σ : S5) : FrV σ σ := ⟨fun _ _ => rfl, fun _ => rfl, fun _ _ _ _ _ _ => rfl, fun _ => rfl, rfl⟩
theorem FrV.A {σ τ : S5} {k : Nat} {i v : Int32} (h : FrV σ τ) (hk : k = 19 ∨ k = 12 ∨ k = 11 ∨ k = 20 ∨ k = 24) : FrV σ (pA τ k i v) := ⟨h.1, h.2.1, fun j a b c d e => by rw [gA_ne _ _ _ (by omega)]; exact h.2.2.1 j a b c d e, h.2.2.2⟩
theorem FrV.I {σ τ : S5} {v : Int32} (h : FrV σ τ) : FrV σ (pI τ 22 v) := ⟨fun j q => by rw [gI_pI, if_neg (by omega)]; exact h.1 j q, h.2⟩
theorem FrV.x {σ τ : S5} (h : FrV σ τ) (j : Nat) (i : Int32) (h1 : ¬ j = 19) (h2 : ¬ j = 12) (h3 : ¬ j = 11) (h4 : ¬ j = 20) (h5 : ¬ j = 24) : xA τ j i = xA σ j i := by
  show gA τ j i.toNatClampNeg = gA σ j i.toNatClampNeg
  rw [h.2.2.1 j h1 h2 h3 h4 h5]
theorem fM_le (μ : S5) (i : Nat) : fM μ i ≤ 1 := by
  unfold fM
  by_cases h : xA μ 2 (nI i) = 2 ∨ (xA μ 2 (nI i) = 1 ∧ 0 < xA μ 10 (nI i))
  · rw [if_pos h]; exact Nat.le_refl _
  · rw [if_neg h]; omega
/-- the reference's functions numbered so far -/
def VB (μ ν : S5) (k m : Nat) : Prop := FrV μ ν ∧ gI ν 22 = nI (k + pre (fM μ) m) ∧ (∀ j, j < k → xA ν 12 (nI j) = xA μ 12 (nI j) ∧ xA ν 11 (nI j) = xA μ 11 (nI j)) ∧ (∀ x, x < m → xA ν 19 (nI x) = (if fM μ x = 1 then nI (k + pre (fM μ) x) else -1) ∧ (fM μ x = 1 → xA ν 12 (nI (k + pre (fM μ) x)) = nI x ∧ xA ν 11 (nI (k + pre (fM μ) x)) = xA μ 6 (nI x)))
theorem vb_step {μ ν : S5} {k m : Nat} (h : VB μ ν k m) (hm : m < 3200) (hF : k + pre (fM μ) m < 630) (hc : fM μ m = 1) : VB μ (pI (pA (pA (pA (pA ν 19 (nI m) (-1)) 19 (nI m) (gI ν 22)) 12 (gI ν 22) (nI m)) 11 (gI ν 22) (xA μ 6 (nI m))) 22 (gI ν 22 + 1)) k (m + 1) := by
  obtain ⟨h1, h2, h3, h4⟩ := h
  have hp : pre (fM μ) (m + 1) = pre (fM μ) m + 1 := by show pre (fM μ) m + fM μ m = _; rw [hc]
  refine ⟨?_, ?_, ?_, ?_⟩
  · exact ((((h1.A (by omega)).A (by omega)).A (by omega)).A (by omega)).I
  · show gI ν 22 + 1 = _
    rw [hp, h2, nI_add1]
    rfl
  · intro j hj
    have hne : ¬ (nI j).toNatClampNeg = (gI ν 22).toNatClampNeg := by rw [h2]; exact tn_ne (by omega) (by omega) (by omega)
    refine ⟨?_, ?_⟩
    · rw [xA_pI, xA_pA, if_neg (fun w => absurd w.1 (by decide)), xA_pA, if_neg (fun w => hne w.2), xA_pA, if_neg (fun w => absurd w.1 (by decide)), xA_pA, if_neg (fun w => absurd w.1 (by decide))]
      exact (h3 j hj).1
    · rw [xA_pI, xA_pA, if_neg (fun w => hne w.2), xA_pA, if_neg (fun w => absurd w.1 (by decide)), xA_pA, if_neg (fun w => absurd w.1 (by decide)), xA_pA, if_neg (fun w => absurd w.1 (by decide))]
      exact (h3 j hj).2
  · intro x hx
    by_cases hxm : x = m
    · subst hxm
      refine ⟨?_, fun _ => ⟨?_, ?_⟩⟩
      · rw [if_pos hc, xA_pI, xA_pA, if_neg (fun w => absurd w.1 (by decide)), xA_pA, if_neg (fun w => absurd w.1 (by decide)), xA_pA, if_pos ⟨rfl, rfl⟩, h2]
      · rw [xA_pI, xA_pA, if_neg (fun w => absurd w.1 (by decide)), xA_pA, if_pos ⟨rfl, by rw [h2]⟩]
      · rw [xA_pI, xA_pA, if_pos ⟨rfl, by rw [h2]⟩]
    · have q := h4 x (by omega)
      have hxne := tn_ne (a := x) (b := m) (by omega) (by omega) hxm
      refine ⟨?_, fun hx1 => ?_⟩
      · rw [xA_pI, xA_pA, if_neg (fun w => absurd w.1 (by decide)), xA_pA, if_neg (fun w => absurd w.1 (by decide)), xA_pA, if_neg (fun w => hxne w.2), xA_pA, if_neg (fun w => hxne w.2)]
        exact q.1
      · have hlt : pre (fM μ) x < pre (fM μ) m := by
          have := pre_mono (w := fM μ) (m - (x + 1)) (x + 1)
          rw [show x + 1 + (m - (x + 1)) = m by omega] at this
          have e : pre (fM μ) (x + 1) = pre (fM μ) x + 1 := by show pre (fM μ) x + fM μ x = _; rw [hx1]
          omega
        have hne : ¬ (nI (k + pre (fM μ) x)).toNatClampNeg = (gI ν 22).toNatClampNeg := by rw [h2]; exact tn_ne (by omega) (by omega) (by omega)
        refine ⟨?_, ?_⟩
        · rw [xA_pI, xA_pA, if_neg (fun w => absurd w.1 (by decide)), xA_pA, if_neg (fun w => hne w.2), xA_pA, if_neg (fun w => absurd w.1 (by decide)), xA_pA, if_neg (fun w => absurd w.1 (by decide))]
          exact (q.2 hx1).1
        · rw [xA_pI, xA_pA, if_neg (fun w => hne w.2), xA_pA, if_neg (fun w => absurd w.1 (by decide)), xA_pA, if_neg (fun w => absurd w.1 (by decide)), xA_pA, if_neg (fun w => absurd w.1 (by decide))]
          exact (q.2 hx1).2
theorem vb_skip {μ ν : S5} {k m : Nat} (h : VB μ ν k m) (hm : m < 3200) (hc : ¬ fM μ m = 1) : VB μ (pA ν 19 (nI m) (-1)) k (m + 1) := by
  obtain ⟨h1, h2, h3, h4⟩ := h
  have h0 : fM μ m = 0 := by have := fM_le μ m; omega
  have hp : pre (fM μ) (m + 1) = pre (fM μ) m := by show pre (fM μ) m + fM μ m = _; rw [h0]; rfl
  refine ⟨h1.A (by omega), by rw [hp]; exact h2, ?_, ?_⟩
  · intro j hj
    rw [xA_pA, if_neg (fun w => absurd w.1 (by decide)), xA_pA, if_neg (fun w => absurd w.1 (by decide))]
    exact h3 j hj
  · intro x hx
    by_cases hxm : x = m
    · subst hxm
      refine ⟨?_, fun w => absurd w hc⟩
      rw [if_neg hc, xA_pA, if_pos ⟨rfl, rfl⟩]
    · have q := h4 x (by omega)
      have ea : xA (pA ν 19 (nI m) (-1)) 19 (nI x) = xA ν 19 (nI x) := by rw [xA_pA, if_neg (fun w => tn_ne (by omega) (by omega) hxm w.2)]
      have eb : ∀ i, xA (pA ν 19 (nI m) (-1)) 12 i = xA ν 12 i := fun i => by rw [xA_pA, if_neg (fun w => absurd w.1 (by decide))]
      have ec : ∀ i, xA (pA ν 19 (nI m) (-1)) 11 i = xA ν 11 i := fun i => by rw [xA_pA, if_neg (fun w => absurd w.1 (by decide))]
      rw [ea, eb, ec]
      exact q
theorem na_L10 {μ : S5} {k N : Nat} (hN : N ≤ 3200) (h9 : gI μ 9 = nI N) (hF : k + pre (fM μ) N ≤ 630) : ∀ (d n m : Nat) (ν : S5), n + d = N → d < m → VB μ ν k n → ∃ ν', f_X12_numberAll_L10 m (nI n) ν = f_X12_numberAll_L107 FU 0 ν' ∧ VB μ ν' k N := by
  intro d
  induction d with
  | zero =>
    intro n m ν hn hm hV
    obtain ⟨m, rfl⟩ : ∃ m', m = m' + 1 := ⟨m - 1, by omega⟩
    have hnN : n = N := by omega
    subst hnN
    refine ⟨ν, ?_, hV⟩
    show f_X12_numberAll_B10 _ _ _ = _
    unfold f_X12_numberAll_B10
    rw [hV.1.1 9 (by decide), h9, if_pos ((nI_le31 (by omega) (by omega)).mpr (by omega))]
  | succ d ih =>
    intro n m ν hn hm hV
    obtain ⟨m, rfl⟩ : ∃ m', m = m' + 1 := ⟨m - 1, by omega⟩
    have hc : ¬ nI N ≤ nI n := fun w => by have := (nI_le31 (by omega) (by omega)).mp w; omega
    have hn0 : 0 ≤ nI n := i_le0 (nI_nneg (by omega))
    have hn7 : nI n < 3200 := (nI_lt31 (b := 3200) (by omega) (by omega)).mpr (by omega)
    have x2 := hV.1.x 2 (nI n) (by decide) (by decide) (by decide) (by decide) (by decide)
    have x10 := hV.1.x 10 (nI n) (by decide) (by decide) (by decide) (by decide) (by decide)
    have x6 := hV.1.x 6 (nI n) (by decide) (by decide) (by decide) (by decide) (by decide)
    have hB : f_X12_numberAll_L10 (m + 1) (nI n) ν = if xA μ 2 (nI n) = 2 then f_X12_numberAll_b54 (f_X12_numberAll_L10 m) (nI n) (pA ν 19 (nI n) (-1)) else if xA μ 2 (nI n) = 1 then (if xA μ 10 (nI n) ≤ 0 then f_X12_numberAll_L10 m (nI n + 1) (pA ν 19 (nI n) (-1)) else f_X12_numberAll_b54 (f_X12_numberAll_L10 m) (nI n) (pA ν 19 (nI n) (-1))) else f_X12_numberAll_L10 m (nI n + 1) (pA ν 19 (nI n) (-1)) := by
      show f_X12_numberAll_B10 _ _ _ = _
      unfold f_X12_numberAll_B10 f_X12_numberAll_b99
      rw [hV.1.1 9 (by decide), h9, if_neg hc, gd3200 hn0 hn7, gd3200 hn0 hn7, gd3200 hn0 hn7, gd3200 hn0 hn7, x2, x10]
    rw [hB]
    by_cases h1 : fM μ n = 1
    · have hlt : pre (fM μ) n + 1 ≤ pre (fM μ) N := by
        have := pre_mono (w := fM μ) (N - (n + 1)) (n + 1)
        rw [show n + 1 + (N - (n + 1)) = N by omega] at this
        have e : pre (fM μ) (n + 1) = pre (fM μ) n + 1 := by show pre (fM μ) n + fM μ n = _; rw [h1]
        omega
      have g6 : 0 ≤ gI ν 22 ∧ gI ν 22 < 640 := by
        rw [hV.2.1]
        exact ⟨i_le0 (nI_nneg (by omega)), (nI_lt31 (b := 640) (by omega) (by omega)).mpr (by omega)⟩
      obtain ⟨ν', q1, q2⟩ := ih (n + 1) m _ (by omega) (by omega) (vb_step hV (by omega) (by omega) h1)
      refine ⟨ν', ?_, q2⟩
      have hb : f_X12_numberAll_b54 (f_X12_numberAll_L10 m) (nI n) (pA ν 19 (nI n) (-1)) = f_X12_numberAll_L10 m (nI (n + 1)) (pI (pA (pA (pA (pA ν 19 (nI n) (-1)) 19 (nI n) (gI ν 22)) 12 (gI ν 22) (nI n)) 11 (gI ν 22) (xA μ 6 (nI n))) 22 (gI ν 22 + 1)) := by
        unfold f_X12_numberAll_b54 f_X12_numberAll_b99
        rw [gd3200 hn0 hn7, gd3200 hn0 hn7, gI_pA, gd640 g6.1 g6.2, gd640 g6.1 g6.2, nI_add1, xA_pA ν 19 6, if_neg (fun w => absurd w.1 (by decide)), x6]
      rw [hb, q1]
      unfold fM at h1
      by_cases c2 : xA μ 2 (nI n) = 2
      · rw [if_pos c2]
      · rw [if_neg c2]
        by_cases c1 : xA μ 2 (nI n) = 1 ∧ 0 < xA μ 10 (nI n)
        · rw [if_pos c1.1, if_neg (by grind)]
        · rw [if_neg (by grind)] at h1
          exact absurd h1 (by decide)
    · obtain ⟨ν', q1, q2⟩ := ih (n + 1) m _ (by omega) (by omega) (vb_skip hV (by omega) h1)
      refine ⟨ν', ?_, q2⟩
      rw [nI_add1, q1]
      unfold fM at h1
      by_cases c2 : xA μ 2 (nI n) = 2
      · rw [if_pos (Or.inl c2)] at h1
        exact absurd rfl h1
      · rw [if_neg c2]
        by_cases c1 : xA μ 2 (nI n) = 1
        · rw [if_pos c1]
          by_cases c0 : xA μ 10 (nI n) ≤ 0
          · rw [if_pos c0]
          · rw [if_pos (Or.inr ⟨c1, by grind⟩)] at h1
            exact absurd rfl h1
        · rw [if_neg c1]
