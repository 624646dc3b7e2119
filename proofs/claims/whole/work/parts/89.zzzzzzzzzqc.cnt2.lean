/-- what is wanted of a subtree: its lets are counted alike -/
def PCt (σ τp τ2 μ2 : S5) (F V T C f : Nat) (S : Int32) (sc : Nat → Int32) (h s s' t c : Int32) : Prop := c < nI C → s' ≤ S → (xA σ 22 h = sc f → sc f < s → ∀ q p, LTN τ2 μ2 F V T c q p → pre (wMn μ2) (p + 1) + prI (wCn τp τ2 f) t = pre (wMn μ2) q + prI (wCn τp τ2 f) (c + 1)) ∧ (¬ xA σ 22 h = sc f → (∀ x, s ≤ x → x < s' → ¬ x = sc f) → prI (wCn τp τ2 f) (c + 1) = prI (wCn τp τ2 f) t)
theorem TFun.ct {σ ν τr τv τu τp τ2 μ2 : S5} {k U F C V T : Nat} {S : Int32} {sc : Nat → Int32} {cf : Nat → Nat} (hX : PX σ ν τr τv τu τp k U F C S sc cf) (h2 : TR2 τp τ2) {f : Nat} {R : R10} (hR : ∀ h s s' u u' a b t n c, R h s s' u u' a b t n c → TR σ ν h s s' u u' a b t n c ∧ (u'.toNatClampNeg ≤ U → PCt σ τp τ2 μ2 F V T C f S sc h s s' t c)) {h s s' u u' n b t c : Int32} (q : TFun σ ν R h s s' u u' n b t c) (hc0 : 0 ≤ c) (hc6 : c < 6200) (hcC : c < nI C) (hs0 : 0 ≤ s) (hs7 : s' ≤ 700) (hs : s' ≤ S) (hU : u'.toNatClampNeg ≤ U) : (sc f < s → ∀ q p, LTN τ2 μ2 F V T c q p → pre (wMn μ2) (p + 1) + prI (wCn τp τ2 f) t = pre (wMn μ2) q + prI (wCn τp τ2 f) (c + 1)) ∧ ((∀ x, s ≤ x → x < s' → ¬ x = sc f) → prI (wCn τp τ2 f) (c + 1) = prI (wCn τp τ2 f) t) := by
  obtain ⟨hL, hPU, hPN, h8, hC⟩ := id hX
  obtain ⟨fr, fm⟩ := hPN.2.2.1 c hc0 hcC
  obtain ⟨e1, e2, e3, e4, e5, e6, e7, e8, e9, c2, e10, e11, e12, e13, e14⟩ := q
  obtain ⟨x1, x2⟩ := hR _ _ _ _ _ _ _ _ _ _ e12
  have hc2 := x1.c
  have hle : s ≤ s' := i_trans e13.1 e13.2.1
  have hss : s < s' := su_lt e9 hle hs7 (Int32.le_refl _)
  have hsS : s < S := su_lt e9 hle hs7 hs
  have hs1 : s ≤ s + 1 := e13.1
  have hc2c : c2 < c := by
    rw [e14]
    clear x1 x2 hX hL hPU hPN fr fm hR e12
    grind
  have hc2C : c2 < nI C := i_lt_le hc2c (i_le_of_lt hcC)
  obtain ⟨g, g1, g2, g3⟩ := hX.of hs0 hsS e5
  have qf := fr.2.2.2.2.2 e1 g g1 (by rw [e2, g2])
  have inn : (∀ x, s ≤ x → x < s' → ¬ x = sc f) → prI (wCn τp τ2 f) c = prI (wCn τp τ2 f) t := fun hx => by
    rw [e14]
    refine (x2 hU hc2C hs).2 ?_ (fun x a b => hx x (by clear x1 x2 hX hL hPU hPN fr fm hR e12; grind) b)
    rw [e5]
    exact hx s (Int32.le_refl _) hss
  by_cases hz : cf g = 0
  · obtain ⟨q1, q2, q3⟩ := qf.1 hz
    have hk : ¬ xA τp 13 c = 7 := by rw [q1]; decide
    have hw : prI (wCn τp τ2 f) (c + 1) = prI (wCn τp τ2 f) c := (nk_w (F := F) (V := V) (T := T) (q := 0) (p := 0) (μ2 := μ2) h2 hc0 hc6 hk).1
    refine ⟨fun hsf q p hl => ?_, fun hx => by rw [hw]; exact inn hx⟩
    have hw2 := (nk_w (f := f) h2 hc0 hc6 hk).2 hl
    have hq := (hl.row h2).1 (by rw [q1]; decide)
    rw [hw, hw2, inn (fun x a b => by clear x1 x2 hX hL hPU hPN fr fm hR e12 inn; grind), hq]
  · obtain ⟨n0, g', ⟨q1, q2⟩, q3, q4, q5, q6, q7, q8, q9⟩ := qf.2 hz
    have hc8 : cf g ≤ 8 := (hL.2.2.1 g g1).2.2.2.2.1
    have hn0' : n0 + cf g + 1 ≤ 6100 := by
      have w1 := hL.2.2.2.2.2.2.2.2.2.2.2
      rw [h8, nI_clamp (by omega)] at w1
      have w2 : pre (wlN σ τr cf) (c.toNatClampNeg + 1) ≤ prI (wlN σ τr cf) (nI C) := by
        have := prM (w := wlN σ τr cf) (x := c + 1) (y := nI C) (i_su hcC)
        unfold prI at this
        rw [tn_s hc0 (i_lt_le hc6 (by decide))] at this
        exact this
      omega
    have hk : ¬ xA τp 13 c = 7 := by rw [q5]; decide
    have hw : prI (wCn τp τ2 f) (c + 1) = prI (wCn τp τ2 f) c := (nk_w (F := F) (V := V) (T := T) (q := 0) (p := 0) (μ2 := μ2) h2 hc0 hc6 hk).1
    refine ⟨fun hsf q p hl => ?_, fun hx => by rw [hw]; exact inn hx⟩
    have hw2 := (nk_w (f := f) h2 hc0 hc6 hk).2 hl
    obtain ⟨k', cc, qq, pp, r1, r2, r3, r4, r5⟩ := (hl.row h2).2.1 (Or.inr (Or.inl q5))
    obtain ⟨u1, u2⟩ := ch_uq (τ := τp) (k := cf g + 1) (a := fun p => nI (n0 + p)) (by omega) r1 (by rw [← r2.1]; exact q8.symm) (fun i hi => ⟨i_le0 (nI_nneg (by omega)), by
      rw [(q9 i (by omega)).2.2.2.1]
      by_cases hi2 : i < cf g
      · rw [if_pos hi2, if_pos (by omega)]
        rfl
      · rw [if_neg hi2, if_neg (by omega)]⟩) r2.2
    have hX0 : pre (wMn μ2) (qq k') = pre (wMn μ2) (qq 0) := tel_y (Y := fun i => pre (wMn μ2) (qq i)) (fun i hi => by
      obtain ⟨s1, s2⟩ := r5 i hi
      have ec : cc i = nI (n0 + i) := (u2 i (by omega)).symm
      have hki : xA τp 13 (cc i) ≤ 4 := by
        rw [ec, (q9 i (by omega)).1]
        unfold kdp
        split <;> decide
      have hq := (s1.row h2).1 hki
      have hk' : ¬ xA τp 13 (cc i) = 7 := fun w => by rw [w] at hki; exact absurd hki (by decide)
      have h0 : 0 ≤ cc i := (r2.2 i hi).1
      have h6 : cc i < 6200 := by rw [ec]; exact (nI_lt31 (b := 6200) (by omega) (by omega)).mpr (by omega)
      have hw3 := (nk_w (f := f) h2 h0 h6 hk').2 s1
      show pre (wMn μ2) (qq (i + 1)) = pre (wMn μ2) (qq i)
      rw [s2, hw3, hq])
    rw [hw, hw2, inn (fun x a b => by clear x1 x2 hX hL hPU hPN fr fm hR e12 inn; grind), ← r4, hX0, r3]
