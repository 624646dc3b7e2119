theorem tk_c {σ : S5} {n : Nat} (hn : n ≤ 3000) (h66 : gI σ 66 = nI n) (hok : ∀ x, x < n → okS (gA σ 50 x)) : ∀ (m i N : Nat) (σi : S5), i + m = n → m < N → eqC σ σi → gI σi 0 = nI i → (∀ x, x < i → gA σi 0 x = gA σ 50 x) → ∃ τ, f_X8_copy_text_out_F_L6 N (nI i) σi = some ((), τ) ∧ eqC σ τ ∧ gI τ 0 = nI n ∧ ∀ x, x < n → gA τ 0 x = gA σ 50 x := by
  intro m
  induction m with
  | zero =>
    intro i N σi hi hN hC h0 hx
    obtain ⟨N, rfl⟩ : ∃ n, N = n + 1 := ⟨N - 1, by omega⟩
    obtain rfl : i = n := by omega
    refine ⟨σi, ?_, hC, h0, hx⟩
    show f_X8_copy_text_out_F_B6 _ _ _ = _
    unfold f_X8_copy_text_out_F_B6
    have e : gI σi 66 = nI i := (hC.1 66 (by decide) (by decide)).trans h66
    rw [e, if_pos (Int32.le_refl _)]
  | succ m ih =>
    intro i N σi hi hN hC h0 hx
    obtain ⟨N, rfl⟩ : ∃ n, N = n + 1 := ⟨N - 1, by omega⟩
    have e : gI σi 66 = nI n := (hC.1 66 (by decide) (by decide)).trans h66
    have e50 : xA σi 50 (nI i) = gA σ 50 i := by
      show gA σi 50 (nI i).toNatClampNeg = _
      rw [nI_clamp (by omega)]
      exact congrFun (hC.2.2.1 50 (by decide)) i
    have ha : f_X8_add_text_F (gA σ 50 i) σi = some ((), pI (pA σi 0 (nI i) (gA σ 50 i)) 0 (nI (i + 1))) := by
      unfold f_X8_add_text_F
      rw [h0, if_pos (show nI i < 3000 from (nI_lt31 (b := 3000) (by omega) (by omega)).mpr (by omega)), gdn (by omega) (by omega), byte_ok (hok i (by omega)), nI_add1]
    have st : f_X8_copy_text_out_F_L6 (N + 1) (nI i) σi = f_X8_copy_text_out_F_L6 N (nI (i + 1)) (pI (pA σi 0 (nI i) (gA σ 50 i)) 0 (nI (i + 1))) := by
      show f_X8_copy_text_out_F_B6 _ _ _ = _
      unfold f_X8_copy_text_out_F_B6
      rw [e, if_neg (fun w => by have := (nI_le31 (a := n) (b := i) (by omega) (by omega)).mp w; omega), gdn (by omega) (by omega), e50, ha, bd_of, nI_add1]
    rw [st]
    refine ih (i + 1) N _ (by omega) (by omega) (hC.tx _ _ _) rfl (fun x hxi => ?_)
    show gA (pA σi 0 (nI i) (gA σ 50 i)) 0 x = _
    rw [gA_pA, nI_clamp (by omega)]
    by_cases ex : x = i
    · rw [if_pos ⟨rfl, ex⟩, ex]
    · rw [if_neg (fun w => ex w.2)]
      exact hx x (by omega)
theorem tk_m {μ : S5} {n : Nat} (hn : n ≤ 3000) (h2 : gI μ 2 = nI n) : ∀ (m i N : Nat) (μi : S5), i + m = n → m < N → eqM μ μi → gI μi 0 = 0 → (∀ x, x < i → gA μi 0 x = gA μ 1 x) → ∃ ν, f_X12_take_L19 N (nI i) μi = some (nI n, ν) ∧ eqM μ ν ∧ gI ν 0 = 0 ∧ gI ν 1 = nI n ∧ ∀ x, x < n → gA ν 0 x = gA μ 1 x := by
  intro m
  induction m with
  | zero =>
    intro i N μi hi hN hM h0 hx
    obtain ⟨N, rfl⟩ : ∃ n, N = n + 1 := ⟨N - 1, by omega⟩
    obtain rfl : i = n := by omega
    have e : gI μi 2 = nI i := (hM.1 2 (by decide) (by decide)).trans h2
    refine ⟨pI μi 1 (nI i), ?_, ⟨fun k a b => ?_, hM.2.1, hM.2.2.1, hM.2.2.2.1, hM.2.2.2.2⟩, ?_, rfl, hx⟩
    · show f_X12_take_B19 _ _ _ = _
      unfold f_X12_take_B19
      rw [e, if_pos (Int32.le_refl _)]
    · show gI (pI μi 1 (nI i)) k = gI μ k
      rw [gI_pI, if_neg b]
      exact hM.1 k a b
    · rw [gI_pI, if_neg (by decide)]
      exact h0
  | succ m ih =>
    intro i N μi hi hN hM h0 hx
    obtain ⟨N, rfl⟩ : ∃ n, N = n + 1 := ⟨N - 1, by omega⟩
    have e : gI μi 2 = nI n := (hM.1 2 (by decide) (by decide)).trans h2
    have e1 : xA μi 1 (nI i) = gA μ 1 i := by
      show gA μi 1 (nI i).toNatClampNeg = _
      rw [nI_clamp (by omega)]
      exact congrFun (hM.2.2.1 1 (by decide)) i
    have st : f_X12_take_L19 (N + 1) (nI i) μi = f_X12_take_L19 N (nI (i + 1)) (pA μi 0 (nI i) (gA μ 1 i)) := by
      show f_X12_take_B19 _ _ _ = _
      unfold f_X12_take_B19
      rw [e, if_neg (fun w => by have := (nI_le31 (a := n) (b := i) (by omega) (by omega)).mp w; omega), gdn (by omega) (by omega), gdn (by omega) (by omega), e1, nI_add1]
    rw [st]
    refine ih (i + 1) N _ (by omega) (by omega) ⟨hM.1, hM.2.1, fun k hk => (gA_pA_ne hk).trans (hM.2.2.1 k hk), hM.2.2.2.1, hM.2.2.2.2⟩ h0 (fun x hxi => ?_)
    rw [gA_pA, nI_clamp (by omega)]
    by_cases ex : x = i
    · rw [if_pos ⟨rfl, ex⟩, ex]
    · rw [if_neg (fun w => ex w.2)]
      exact hx x (by omega)
/-- the call take -/
theorem e_take {σ μ : S5} (h : RA σ μ) : ∃ (cv : Int32 × Int32) (rm : Int32) (τ μ1 : S5), cv.1 = 0 ∧ f_X11_take σ = some (cv, τ) ∧ f_X12_take μ = some (rm, μ1) ∧ cv.2 = rm ∧ RA τ μ1 ∧ eqC σ τ ∧ eqM μ μ1 ∧ gI μ1 0 = 0 := by
  have hb := FU_big (n := 5000) (by decide)
  obtain ⟨o1, o2, o3, o4⟩ := h.2.1
  obtain ⟨n, en⟩ : ∃ n, n = (gI σ 66).toNatClampNeg := ⟨_, rfl⟩
  have hn : gI σ 66 = nI n := by rw [en]; exact nI_tn o2
  have hn12 : n ≤ 12000 := by rw [en]; exact i_le (n := 12000) o3
  rw [← en] at o4
  have h2 : gI μ 2 = nI n := by rw [← o1]; exact hn
  by_cases h3 : nI n ≤ 3000
  · have h3' : n ≤ 3000 := (nI_le31 (b := 3000) (by omega) (by omega)).mp h3
    have hC0 : eqC σ (pI (pI σ 0 0) 1 0) := ⟨fun k a b => by
      show gI (pI (pI σ 0 0) 1 0) k = gI σ k
      rw [gI_pI, if_neg b, gI_pI, if_neg a], rfl, fun _ _ => rfl, fun _ _ => rfl, rfl⟩
    obtain ⟨τ, a1, a2, a3, a4⟩ := tk_c (σ := σ) h3' hn (fun x hx => by rw [(o4 x hx).1]; exact (o4 x hx).2) n 0 FU (pI (pI σ 0 0) 1 0) (by omega) (by omega) hC0 rfl (fun x hx => absurd hx (Nat.not_lt_zero x))
    obtain ⟨ν, b1, b2, b3, b4, b5⟩ := tk_m (μ := μ) h3' h2 n 0 FU (pI μ 0 0) (by omega) (by omega) (eqM.thr μ 0) rfl (fun x hx => absurd hx (Nat.not_lt_zero x))
    have z0 : nI 0 = 0 := rfl
    rw [z0] at a1 b1
    have hT : RT τ ν := ⟨by rw [a3, b4], by rw [a3]; exact i_le0 (nI_nneg (by omega)), by rw [a3]; exact h3, fun i hi => by
      rw [a3, nI_clamp (by omega)] at hi
      rw [a4 i hi, b5 i hi]
      exact o4 i hi⟩
    refine ⟨(0, nI n), nI n, τ, ν, rfl, ?_, ?_, rfl, h.mv a2 b2 hT, a2, b2, b3⟩
    · unfold f_X11_take f_X8_copy_text_out_F f_X8_clear_text_F
      rw [hn, if_pos h3, bd_of, a1, bd_of, a3]
    · unfold f_X12_take
      rw [h2, if_pos h3, b1]
  · refine ⟨(0, -1), -1, σ, pI μ 0 0, rfl, ?_, ?_, rfl, h, eqC.rf σ, eqM.thr μ 0, rfl⟩
    · unfold f_X11_take
      rw [hn, if_neg h3]
    · unfold f_X12_take
      rw [h2, if_neg h3]
