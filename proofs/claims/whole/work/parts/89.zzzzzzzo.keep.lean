/-- what keeping the measures writes -/
def FrKM (σ τ : S5) : Prop := (∀ j, ¬ j = 20 → ¬ j = 21 → gI τ j = gI σ j) ∧ (∀ j, gJ τ j = gJ σ j) ∧ (∀ j, ¬ j = 9 → ¬ j = 10 → gA τ j = gA σ j) ∧ (∀ j, gB τ j = gB σ j) ∧ τ.2.2.2.2 = σ.2.2.2.2
theorem FrKM.x {σ τ : S5} (h : FrKM σ τ) (j : Nat) (i : Int32) (h1 : ¬ j = 9) (h2 : ¬ j = 10) : xA τ j i = xA σ j i := by
  show gA τ j i.toNatClampNeg = gA σ j i.toNatClampNeg
  rw [h.2.2.1 j h1 h2]
/-- the measures of f functions are kept -/
def KMs (σ τp : S5) (S : Int32) (sc : Nat → Int32) (cf : Nat → Nat) (f : Nat) (τ : S5) : Prop := FrKM τp τ ∧ (∀ g, g < f → xA τ 9 (nI g) = xA τp 19 (rtF σ sc g) ∧ xA τ 10 (nI g) = xA τp 18 (rtF σ sc g)) ∧ ((gI τ 20 = 0 ∧ ∀ g, g < f → ¬ badF σ τp S sc cf g) ∨ (gI τ 20 = 8 ∧ ∃ x, x < f ∧ badF σ τp S sc cf x ∧ (∀ g, g < x → ¬ badF σ τp S sc cf g) ∧ gI τ 21 = xA σ 24 (sc x)))
theorem km_L2 {σ ν τr τv τu τp : S5} {k U F C : Nat} {S : Int32} {sc : Nat → Int32} {cf : Nat → Nat} (hX : PX σ ν τr τv τu τp k U F C S sc cf) (hr : ∀ f, f < F → 0 ≤ rtF σ sc f ∧ rtF σ sc f < 6200) : ∀ (d f n : Nat) (τ : S5), f + d = F → d < n → KMs σ τp S sc cf f τ → ∃ τ', f_X2_keepMeasures_L2 n (nI f) τ = some ((), τ') ∧ KMs σ τp S sc cf F τ' := by
  have hF : F ≤ 630 := hX.1.1.2.2.2.1
  have hxp : ∀ j x, j < 13 ∨ 19 < j → xA τp j x = xA τu j x := fun j x hj => hX.2.2.1.1.x j x hj
  have hxu : ∀ j x, ¬ j = 13 → ¬ j = 14 → xA τu j x = xA τv j x := fun j x a b => hX.2.1.1.x j x a b
  have h6p : gI τp 6 = nI F := by
    rw [hX.2.2.1.1.1 6 (by decide), hX.2.1.1.1 6]
    exact hX.1.2.2.2.2.1.2.2.2.2.1
  intro d
  induction d with
  | zero =>
    intro f n τ hfd hn h
    obtain ⟨n, rfl⟩ : ∃ n', n = n' + 1 := ⟨n - 1, by omega⟩
    have : f = F := by omega
    subst this
    refine ⟨τ, ?_, h⟩
    show f_X2_keepMeasures_B2 _ _ _ = _
    unfold f_X2_keepMeasures_B2
    rw [h.1.1 6 (by decide) (by decide), h6p, if_pos (Int32.le_refl _)]
  | succ d ih =>
    intro f n τ hfd hn h
    obtain ⟨n, rfl⟩ : ∃ n', n = n' + 1 := ⟨n - 1, by omega⟩
    have hf : f < F := by omega
    obtain ⟨fr, hk, hfl⟩ := h
    obtain ⟨l0, l1, l2, l3, l4⟩ := (hX.1.2.2.1 f hf).2
    obtain ⟨s0, s1, -⟩ := (hX.1.2.2.1 f hf).1
    obtain ⟨c0, c6⟩ := hr f hf
    have e7 : xA τ 7 (nI f) = rtF σ sc f := by
      rw [fr.x 7 _ (by decide) (by decide), hxp 7 _ (by omega), hxu 7 _ (by decide) (by decide)]
      exact l1
    have e8 : xA τ 8 (nI f) = sc f := by
      rw [fr.x 8 _ (by decide) (by decide), hxp 8 _ (by omega), hxu 8 _ (by decide) (by decide)]
      exact l0
    have e6 : xA τ 6 (nI f) = nI (nvF σ S sc cf f) := by
      rw [fr.x 6 _ (by decide) (by decide), hxp 6 _ (by omega), hxu 6 _ (by decide) (by decide)]
      exact l4
    have e24 : xA τ 24 (sc f) = xA σ 24 (sc f) := by
      rw [fr.x 24 _ (by decide) (by decide), hxp 24 _ (by omega), hxu 24 _ (by decide) (by decide)]
      exact hX.1.2.2.2.2.1.1 24 _ (by omega)
    have e18 : xA τ 18 (rtF σ sc f) = xA τp 18 (rtF σ sc f) := fr.x 18 _ (by decide) (by decide)
    have e19 : xA τ 19 (rtF σ sc f) = xA τp 19 (rtF σ sc f) := fr.x 19 _ (by decide) (by decide)
    have g630 : ∀ {α : Type} (b : Option (α × S5)), gd (nI f) 630 b = b := fun b => gdn (by omega) (by omega)
    have g6200 : ∀ {α : Type} (b : Option (α × S5)), gd (rtF σ sc f) 6200 b = b := fun b => by
      rw [nI_tn c0]
      have := i_lt (not_neg c0) c6
      exact gdn this (by omega)
    have g700 : ∀ {α : Type} (b : Option (α × S5)), gd (sc f) 700 b = b := fun b => by
      rw [nI_tn s0]
      have h1 := i_lt (not_neg s0) s1
      have h2 := tn_mono hX.1.1.2.1.2
      have h3 : (630 : Int32).toNatClampNeg = 630 := rfl
      exact gdn (by omega) (by omega)
    obtain ⟨τ1, et1⟩ : ∃ τ1, τ1 = pA (pA τ 9 (nI f) (xA τp 19 (rtF σ sc f))) 10 (nI f) (xA τp 18 (rtF σ sc f)) := ⟨_, rfl⟩
    have hx1 : ∀ j x, ¬ j = 9 → ¬ j = 10 → xA τ1 j x = xA τ j x := fun j x a b => by rw [et1, xA_pA, if_neg (fun w => b w.1), xA_pA, if_neg (fun w => a w.1)]
    have fr1 : FrKM τp τ1 := by
      rw [et1]
      exact ⟨fr.1, fr.2.1, fun j a b => by rw [gA_ne _ _ _ b, gA_ne _ _ _ a]; exact fr.2.2.1 j a b, fr.2.2.2.1, fr.2.2.2.2⟩
    have hk1 : ∀ g, g < f + 1 → xA τ1 9 (nI g) = xA τp 19 (rtF σ sc g) ∧ xA τ1 10 (nI g) = xA τp 18 (rtF σ sc g) := fun g hg => by
      by_cases hgf : g = f
      · subst hgf
        exact ⟨by rw [et1, xA_pA, if_neg (fun w => absurd w.1 (by decide)), xA_self], by rw [et1, xA_self]⟩
      · have hne : ¬ (nI g).toNatClampNeg = (nI f).toNatClampNeg := tn_neL (by omega) (by omega) hgf
        obtain ⟨a, b⟩ := hk g (by omega)
        exact ⟨by rw [et1, xA_pA, if_neg (fun w => hne w.2), xA_pA, if_neg (fun w => hne w.2)]; exact a, by rw [et1, xA_pA, if_neg (fun w => hne w.2), xA_pA, if_neg (fun w => hne w.2)]; exact b⟩
    have g20 : gI τ1 20 = gI τ 20 := by rw [et1]; rfl
    have g21 : gI τ1 21 = gI τ 21 := by rw [et1]; rfl
    have hgood : ¬ badF σ τp S sc cf f → KMs σ τp S sc cf (f + 1) τ1 := fun hb => by
      refine ⟨fr1, hk1, ?_⟩
      rw [g20, g21]
      rcases hfl with ⟨a, b⟩ | ⟨a, x, x1, x2⟩
      · refine Or.inl ⟨a, fun g hg => ?_⟩
        by_cases hgf : g = f
        · rw [hgf]; exact hb
        · exact b g (by omega)
      · exact Or.inr ⟨a, x, by omega, x2⟩
    have hbadr : badF σ τp S sc cf f → ∃ τ2, (∀ rec, f_X2_keepMeasures_b93 rec (nI f) τ1 = rec (nI (f + 1)) τ2) ∧ KMs σ τp S sc cf (f + 1) τ2 := fun hb => by
      have e8' : xA τ1 8 (nI f) = sc f := (hx1 8 _ (by decide) (by decide)).trans e8
      have e24' : xA τ1 24 (sc f) = xA σ 24 (sc f) := (hx1 24 _ (by decide) (by decide)).trans e24
      rcases hfl with ⟨a, b⟩ | ⟨a, x, x1, x2⟩
      · refine ⟨pI (pI τ1 20 8) 21 (xA σ 24 (sc f)), fun rec => ?_, ⟨fun j a b => ?_, fr1.2.1, fr1.2.2.1, fr1.2.2.2.1, fr1.2.2.2.2⟩, hk1, Or.inr ⟨rfl, f, by omega, hb, b, rfl⟩⟩
        · unfold f_X2_keepMeasures_b93 f_X2_keepMeasures_b116 f_X2_refuse
          rw [g630, e8', g700, e24', g20, a, if_pos rfl, bd_of, nI_add1]
        · rw [gI_pI, if_neg b, gI_pI, if_neg a]
          exact fr1.1 j a b
      · refine ⟨τ1, fun rec => ?_, fr1, hk1, ?_⟩
        · unfold f_X2_keepMeasures_b93 f_X2_keepMeasures_b116 f_X2_refuse
          rw [g630, e8', g700, e24', g20, a, if_neg (by decide), bd_of, nI_add1]
        · rw [g20, g21]
          exact Or.inr ⟨a, x, by omega, x2⟩
    have hnv := nvF_le hX.1 hf
    have hst : f_X2_keepMeasures_L2 (n + 1) (nI f) τ = if 40 < xA τp 18 (rtF σ sc f) then f_X2_keepMeasures_b93 (f_X2_keepMeasures_L2 n) (nI f) τ1 else if nI (nvF σ S sc cf f) ≤ 40 then f_X2_keepMeasures_L2 n (nI (f + 1)) τ1 else f_X2_keepMeasures_b93 (f_X2_keepMeasures_L2 n) (nI f) τ1 := by
      show f_X2_keepMeasures_B2 _ _ _ = _
      unfold f_X2_keepMeasures_B2 f_X2_keepMeasures_b116
      rw [fr.1 6 (by decide) (by decide), h6p, if_neg (fun w => by have := (nI_le31 (by omega) (by omega)).mp w; omega), g630, e7, g6200, g630, g630, g6200, g630, g630, e18, e19, xA_self, g630, e6, ← et1, nI_add1]
    rw [hst]
    by_cases c1 : 40 < xA τp 18 (rtF σ sc f)
    · rw [if_pos c1]
      obtain ⟨τ2, a, b⟩ := hbadr (Or.inl c1)
      rw [a]
      exact ih (f + 1) n τ2 (by omega) (by omega) b
    · rw [if_neg c1]
      by_cases c2 : nvF σ S sc cf f ≤ 40
      · rw [if_pos (show nI (nvF σ S sc cf f) ≤ 40 from (nI_le31 (b := 40) (by omega) (by omega)).mpr c2)]
        exact ih (f + 1) n τ1 (by omega) (by omega) (hgood (fun w => by rcases w with w | w; exact c1 w; omega))
      · rw [if_neg (show ¬ nI (nvF σ S sc cf f) ≤ 40 from fun w => c2 ((nI_le31 (b := 40) (by omega) (by omega)).mp w))]
        obtain ⟨τ2, a, b⟩ := hbadr (Or.inr (by omega))
        rw [a]
        exact ih (f + 1) n τ2 (by omega) (by omega) b
/-- THE MEASURES ARE KEPT -/
theorem km_go {σ ν τr τv τu τp : S5} {k U F C : Nat} {S : Int32} {sc : Nat → Int32} {cf : Nat → Nat} (hX : PX σ ν τr τv τu τp k U F C S sc cf) (hr : ∀ f, f < F → 0 ≤ rtF σ sc f ∧ rtF σ sc f < 6200) : ∃ τ', f_X2_keepMeasures τp = some ((), τ') ∧ KMs σ τp S sc cf F τ' := by
  have hF : F ≤ 630 := hX.1.1.2.2.2.1
  have h20 : gI τp 20 = 0 := by
    rw [hX.2.2.1.1.1 20 (by decide), hX.2.1.1.1 20]
    exact hX.1.2.2.2.2.1.2.2.2.2.2
  exact km_L2 hX hr F 0 FU τp (by omega) (by show F < 1099511627776; omega) ⟨⟨fun _ _ _ => rfl, fun _ => rfl, fun _ _ _ => rfl, fun _ => rfl, rfl⟩, fun g hg => absurd hg (by omega), Or.inl ⟨h20, fun g hg => absurd hg (by omega)⟩⟩
