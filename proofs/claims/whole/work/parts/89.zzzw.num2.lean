/-- functions numbered so far: k at the top, those of the first m scopes -/
def NB (σ τ : S5) (k : Nat) (fs : Nat → Int32) (m : Nat) : Prop := FrN σ τ ∧ gI τ 6 = nI (k + pre (fC σ) m) ∧ (∀ j, j < k → xA τ 26 (fs j) = nI j ∧ xA τ 8 (nI j) = fs j) ∧ (∀ x, x < m → fC σ x = 1 → xA τ 26 (nI x) = nI (k + pre (fC σ) x) ∧ xA τ 8 (nI (k + pre (fC σ) x)) = nI x) ∧ (∀ f, f < k + pre (fC σ) m → xA τ 4 (nI f) = 0 ∧ xA τ 11 (nI f) = 0)
theorem fC_1 {σ : S5} {x : Nat} (h : fC σ x = 1) : xA σ 22 (nI x) = nI x ∧ ¬ xA σ 21 (nI x) = -1 := by
  unfold fC at h
  by_cases q : xA σ 22 (nI x) = nI x ∧ ¬ xA σ 21 (nI x) = -1
  · exact q
  · rw [if_neg q] at h
    exact absurd h (by decide)
theorem fC_0 {σ : S5} {x : Nat} (h : ¬ fC σ x = 1) : xA σ 22 (nI x) = nI x → xA σ 21 (nI x) = -1 := by
  intro w
  unfold fC at h
  by_cases q : xA σ 21 (nI x) = -1
  · exact q
  · rw [if_pos ⟨w, q⟩] at h
    exact absurd rfl h
theorem tn_ne {a b : Nat} (ha : a ≤ 4000) (hb : b ≤ 4000) (h : ¬ a = b) : ¬ (nI a).toNatClampNeg = (nI b).toNatClampNeg := by
  rw [nI_clamp (by omega), nI_clamp (by omega)]
  exact h
theorem nb_step {σ τ : S5} {k m : Nat} {fs : Nat → Int32} (h : NB σ τ k fs m) (hk : k ≤ 30) (hm : m < 630) (hF : k + pre (fC σ) m < 630) (hc : fC σ m = 1) (hf : ∀ i, i < k → 0 ≤ fs i ∧ xA σ 21 (fs i) = -1) : NB σ (pA (pI (pA (pA (pA τ 8 (gI τ 6) (nI m)) 4 (gI τ 6) 0) 11 (gI τ 6) 0) 6 (gI τ 6 + 1)) 26 (nI m) (gI τ 6 + 1 - 1)) k fs (m + 1) := by
  obtain ⟨h1, h2, h3, h4, h5⟩ := h
  have e6 : gI τ 6 + 1 - 1 = nI (k + pre (fC σ) m) := by rw [h2]; grind
  have hp : pre (fC σ) (m + 1) = pre (fC σ) m + 1 := by show pre (fC σ) m + fC σ m = _; rw [hc]
  refine ⟨?_, ?_, ?_, ?_, ?_⟩
  · exact (((h1.A (Or.inr (Or.inl rfl))).A (Or.inr (Or.inr (Or.inl rfl)))).A (Or.inr (Or.inr (Or.inr (Or.inl rfl))))).I.A (Or.inl rfl)
  · show gI τ 6 + 1 = _
    rw [hp, h2, nI_add1]
    rfl
  · intro j hj
    have hfj := hf j hj
    have hne : ¬ (fs j).toNatClampNeg = (nI m).toNatClampNeg := fun w => by
      have : fs j = nI m := (i_inj hfj.1 (i_le0 (nI_nneg (by omega)))).mp w
      have w2 := (fC_1 hc).2
      rw [← this] at w2
      exact w2 hfj.2
    refine ⟨?_, ?_⟩
    · rw [xA_pA, if_neg (fun w => hne w.2), xA_pI, xA_pA, if_neg (fun w => absurd w.1 (by decide)), xA_pA, if_neg (fun w => absurd w.1 (by decide)), xA_pA, if_neg (fun w => absurd w.1 (by decide))]
      exact (h3 j hj).1
    · rw [xA_pA, if_neg (fun w => absurd w.1 (by decide)), xA_pI, xA_pA, if_neg (fun w => absurd w.1 (by decide)), xA_pA, if_neg (fun w => absurd w.1 (by decide)), xA_pA, if_neg (fun w => by have := w.2; rw [h2] at this; exact tn_ne (by omega) (by omega) (by omega) this)]
      exact (h3 j hj).2
  · intro x hx hx1
    by_cases hxm : x = m
    · subst hxm
      refine ⟨?_, ?_⟩
      · rw [xA_pA, if_pos ⟨rfl, rfl⟩, e6]
      · rw [xA_pA, if_neg (fun w => absurd w.1 (by decide)), xA_pI, xA_pA, if_neg (fun w => absurd w.1 (by decide)), xA_pA, if_neg (fun w => absurd w.1 (by decide)), xA_pA, if_pos ⟨rfl, by rw [h2]⟩]
    · have q := h4 x (by omega) hx1
      have hlt : pre (fC σ) x < pre (fC σ) m := by
        have := pre_mono (w := fC σ) (m - (x + 1)) (x + 1)
        rw [show x + 1 + (m - (x + 1)) = m by omega] at this
        have e : pre (fC σ) (x + 1) = pre (fC σ) x + 1 := by show pre (fC σ) x + fC σ x = _; rw [hx1]
        omega
      refine ⟨?_, ?_⟩
      · rw [xA_pA, if_neg (fun w => tn_ne (by omega) (by omega) hxm w.2), xA_pI, xA_pA, if_neg (fun w => absurd w.1 (by decide)), xA_pA, if_neg (fun w => absurd w.1 (by decide)), xA_pA, if_neg (fun w => absurd w.1 (by decide))]
        exact q.1
      · rw [xA_pA, if_neg (fun w => absurd w.1 (by decide)), xA_pI, xA_pA, if_neg (fun w => absurd w.1 (by decide)), xA_pA, if_neg (fun w => absurd w.1 (by decide)), xA_pA, if_neg (fun w => by have := w.2; rw [h2] at this; exact tn_ne (by omega) (by omega) (by omega) this)]
        exact q.2
  · intro f hf1
    rw [hp] at hf1
    by_cases hfm : f = k + pre (fC σ) m
    · subst hfm
      refine ⟨?_, ?_⟩
      · rw [xA_pA, if_neg (fun w => absurd w.1 (by decide)), xA_pI, xA_pA, if_neg (fun w => absurd w.1 (by decide)), xA_pA, if_pos ⟨rfl, by rw [h2]⟩]
      · rw [xA_pA, if_neg (fun w => absurd w.1 (by decide)), xA_pI, xA_pA, if_pos ⟨rfl, by rw [h2]⟩]
    · have q := h5 f (by omega)
      refine ⟨?_, ?_⟩
      · rw [xA_pA, if_neg (fun w => absurd w.1 (by decide)), xA_pI, xA_pA, if_neg (fun w => absurd w.1 (by decide)), xA_pA, if_neg (fun w => by have := w.2; rw [h2] at this; exact tn_ne (by omega) (by omega) (by omega) this), xA_pA, if_neg (fun w => absurd w.1 (by decide))]
        exact q.1
      · rw [xA_pA, if_neg (fun w => absurd w.1 (by decide)), xA_pI, xA_pA, if_neg (fun w => by have := w.2; rw [h2] at this; exact tn_ne (by omega) (by omega) (by omega) this), xA_pA, if_neg (fun w => absurd w.1 (by decide)), xA_pA, if_neg (fun w => absurd w.1 (by decide))]
        exact q.2
theorem nb_skip {σ τ : S5} {k m : Nat} {fs : Nat → Int32} (h : NB σ τ k fs m) (hc : ¬ fC σ m = 1) : NB σ τ k fs (m + 1) := by
  obtain ⟨h1, h2, h3, h4, h5⟩ := h
  have h0 : fC σ m = 0 := by have := fC_le σ m; omega
  have hp : pre (fC σ) (m + 1) = pre (fC σ) m := by show pre (fC σ) m + fC σ m = _; rw [h0]; rfl
  refine ⟨h1, by rw [hp]; exact h2, h3, fun x hx hx1 => h4 x (by have : ¬ x = m := fun w => hc (w ▸ hx1); omega) hx1, by rw [hp]; exact h5⟩
/-- the numbers of the functions within -/
theorem nf_L39 {σ : S5} {k S : Nat} {fs : Nat → Int32} (hk : k ≤ 30) (hS : S ≤ 630) (h9 : gI σ 9 = nI S) (hF : k + pre (fC σ) S ≤ 630) (hf : ∀ i, i < k → 0 ≤ fs i ∧ xA σ 21 (fs i) = -1) : ∀ (d s m : Nat) (τ : S5), s + d = S → d < m → NB σ τ k fs s → ∃ τ', f_X2_numberFunctions_L39 m (nI s) τ = f_X2_numberFunctions_L99 FU 0 τ' ∧ NB σ τ' k fs S := by
  intro d
  induction d with
  | zero =>
    intro s m τ hs hm hN
    obtain ⟨m, rfl⟩ : ∃ m', m = m' + 1 := ⟨m - 1, by omega⟩
    have hsS : s = S := by omega
    subst hsS
    refine ⟨τ, ?_, hN⟩
    show f_X2_numberFunctions_B39 _ _ _ = _
    unfold f_X2_numberFunctions_B39
    rw [hN.1.1 9 (by decide), h9, if_pos ((nI_le31 (by omega) (by omega)).mpr (by omega))]
  | succ d ih =>
    intro s m τ hs hm hN
    obtain ⟨m, rfl⟩ : ∃ m', m = m' + 1 := ⟨m - 1, by omega⟩
    have hc : ¬ nI S ≤ nI s := fun w => by have := (nI_le31 (by omega) (by omega)).mp w; omega
    have hs0 : 0 ≤ nI s := i_le0 (nI_nneg (by omega))
    have hs7 : nI s < 700 := (nI_lt31 (b := 700) (by omega) (by omega)).mpr (by omega)
    have x22 := hN.1.x 22 (nI s) (by decide) (by decide) (by decide) (by decide) (by decide)
    have x21 := hN.1.x 21 (nI s) (by decide) (by decide) (by decide) (by decide) (by decide)
    have hB : f_X2_numberFunctions_L39 (m + 1) (nI s) τ = bd (f_X6_owns (nI s) τ) (fun r55 τ55 => if r55 = 0 then f_X2_numberFunctions_L39 m (nI s + 1) τ55 else gd (nI s) 700 <| if (xA τ55 21 (nI s)) = (-1) then f_X2_numberFunctions_L39 m (nI s + 1) τ55 else (bd (f_X4_addFunction (nI s) τ55) (fun r87 τ87 => gd (nI s) 700 <| f_X2_numberFunctions_L39 m (nI s + 1) (pA τ87 26 (nI s) r87)))) := by
      show f_X2_numberFunctions_B39 _ _ _ = _
      unfold f_X2_numberFunctions_B39
      rw [hN.1.1 9 (by decide), h9, if_neg hc]
      rfl
    rw [hB]
    unfold f_X6_owns
    rw [gd700 hs0 hs7, x22]
    by_cases h1 : fC σ s = 1
    · have q := fC_1 h1
      have hlt : pre (fC σ) s + 1 ≤ pre (fC σ) S := by
        have := pre_mono (w := fC σ) (S - (s + 1)) (s + 1)
        rw [show s + 1 + (S - (s + 1)) = S by omega] at this
        have e : pre (fC σ) (s + 1) = pre (fC σ) s + 1 := by show pre (fC σ) s + fC σ s = _; rw [h1]
        omega
      have g6 : 0 ≤ gI τ 6 ∧ gI τ 6 < 630 := by
        rw [hN.2.1]
        exact ⟨i_le0 (nI_nneg (by omega)), (nI_lt31 (b := 630) (by omega) (by omega)).mpr (by omega)⟩
      obtain ⟨τ', q1, q2⟩ := ih (s + 1) m _ (by omega) (by omega) (nb_step hN hk (by omega) (by omega) h1 hf)
      refine ⟨τ', ?_, q2⟩
      rw [← q1, if_pos q.1, bd_of, if_neg (by decide), gd700 hs0 hs7, x21, if_neg q.2]
      unfold f_X4_addFunction
      rw [if_pos g6.2, gd630 g6.1 g6.2, gd630 g6.1 g6.2, gd630 g6.1 g6.2, bd_of, gd700 hs0 hs7, nI_add1]
    · obtain ⟨τ', q1, q2⟩ := ih (s + 1) m τ (by omega) (by omega) (nb_skip hN h1)
      refine ⟨τ', ?_, q2⟩
      rw [← q1, nI_add1]
      by_cases hw : xA σ 22 (nI s) = nI s
      · rw [if_pos hw, bd_of, if_neg (by decide), gd700 hs0 hs7, x21, if_pos (fC_0 h1 hw)]
      · rw [if_neg hw, bd_of, if_pos rfl]
