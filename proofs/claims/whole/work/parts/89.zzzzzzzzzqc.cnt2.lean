/-- a weight that lies at a place -/
def inW (W : Nat) (z s s' : Int32) : Nat := if s ≤ z ∧ z < s' then W else 0
theorem ind_add {W : Nat} {z s s1 s' : Int32} (h1 : s ≤ s1) (h2 : s1 ≤ s') : inW W z s s1 + inW W z s1 s' = inW W z s s' := by
  unfold inW
  by_cases a : s ≤ z ∧ z < s1
  · rw [if_pos a, if_neg (by grind), if_pos (by grind)]; rfl
  · rw [if_neg a, Nat.zero_add]
    by_cases b : s1 ≤ z ∧ z < s'
    · rw [if_pos b, if_pos (by grind)]
    · rw [if_neg b, if_neg (by grind)]
theorem ind_0 {W : Nat} {z s s' : Int32} (h : z < s) : inW W z s s' = 0 := by
  unfold inW
  rw [if_neg (by grind)]
theorem ind_rf {W : Nat} {z s : Int32} : inW W z s s = 0 := by
  unfold inW
  rw [if_neg (by grind)]
theorem ind_s {W : Nat} {z s s' : Int32} (h : ¬ s = z) (h1 : s ≤ s + 1) (h2 : s + 1 ≤ s') : inW W z (s + 1) s' = inW W z s s' := by
  have h3 : inW W z s (s + 1) = 0 := by
    unfold inW
    rw [if_neg (by grind)]
  rw [← ind_add h1 h2, h3, Nat.zero_add]
theorem tel_z {Y : Nat → Nat} {fs : Nat → Int32} {W : Nat} {z : Int32} {k : Nat} (hm : ∀ i, i < k → fs i ≤ fs (i + 1)) (h : ∀ i, i < k → Y (i + 1) = Y i + inW W z (fs i) (fs (i + 1))) : Y k = Y 0 + inW W z (fs 0) (fs k) := by
  have : ∀ i, i ≤ k → fs 0 ≤ fs i ∧ Y i = Y 0 + inW W z (fs 0) (fs i) := by
    intro i
    induction i with
    | zero => intro _; exact ⟨Int32.le_refl _, by rw [ind_rf]; rfl⟩
    | succ i ih =>
      intro hi
      obtain ⟨a, b⟩ := ih (by omega)
      refine ⟨i_trans a (hm i (by omega)), ?_⟩
      rw [h i (by omega), b, ← ind_add (s' := fs (i + 1)) a (hm i (by omega)), Nat.add_assoc]
  exact (this k (Nat.le_refl _)).2
/-- what is wanted of a subtree: its lets are counted alike -/
def PCt (σ τp τ2 μ2 : S5) (F V T C f W : Nat) (S : Int32) (sc : Nat → Int32) (h s s' t c : Int32) : Prop := c < nI C → s' ≤ S → (xA σ 22 h = sc f → sc f < s → ∀ q p, LTN τ2 μ2 F V T c q p → pre (wMn μ2) (p + 1) + prI (wCn τp τ2 f) t = pre (wMn μ2) q + prI (wCn τp τ2 f) (c + 1)) ∧ (¬ xA σ 22 h = sc f → prI (wCn τp τ2 f) (c + 1) = prI (wCn τp τ2 f) t + inW W (sc f) s s')
theorem TFun.ct {σ ν τr τv τu τp τ2 μ2 : S5} {k U F C V T W qf pf : Nat} {S : Int32} {sc : Nat → Int32} {cf : Nat → Nat} (hX : PX σ ν τr τv τu τp k U F C S sc cf) (h2 : TR2 τp τ2) {f : Nat} (hlf : LTN τ2 μ2 F V T (xA σ 23 (sc f)) qf pf) (hW : pre (wMn μ2) (pf + 1) = pre (wMn μ2) qf + W) {R : R10} (hR : ∀ h s s' u u' a b t n c, R h s s' u u' a b t n c → TR σ ν h s s' u u' a b t n c ∧ (u'.toNatClampNeg ≤ U → PCt σ τp τ2 μ2 F V T C f W S sc h s s' t c)) {h s s' u u' n b t c : Int32} (q : TFun σ ν R h s s' u u' n b t c) (hc0 : 0 ≤ c) (hc6 : c < 6200) (hcC : c < nI C) (hs0 : 0 ≤ s) (hs7 : s' ≤ 700) (hs : s' ≤ S) (hU : u'.toNatClampNeg ≤ U) : (sc f < s → ∀ q p, LTN τ2 μ2 F V T c q p → pre (wMn μ2) (p + 1) + prI (wCn τp τ2 f) t = pre (wMn μ2) q + prI (wCn τp τ2 f) (c + 1)) ∧ (prI (wCn τp τ2 f) (c + 1) = prI (wCn τp τ2 f) t + inW W (sc f) s s') := by
  obtain ⟨hL, hPU, hPN, h8, hC⟩ := id hX
  obtain ⟨fr, fm⟩ := hPN.2.2.1 c hc0 hcC
  obtain ⟨e1, e2, e3, e4, e5, e6, e7, e8, e9, c2, e10, e11, e12, e13, e14⟩ := q
  obtain ⟨x1, x2⟩ := hR _ _ _ _ _ _ _ _ _ _ e12
  have hc2 := x1.c
  have hle : s ≤ s' := i_trans e13.1 e13.2.1
  have hss : s < s' := su_lt e9 hle hs7 (Int32.le_refl _)
  have hsS : s < S := su_lt e9 hle hs7 hs
  have hs1 : s ≤ s + 1 := e13.1
  have hc2c : c2 < c := by
    rw [e14]
    clear x1 x2 hX hL hPU hPN fr fm hR e12
    grind
  have hc2C : c2 < nI C := i_lt_le hc2c (i_le_of_lt hcC)
  obtain ⟨g, g1, g2, g3⟩ := hX.of hs0 hsS e5
  have qF := fr.2.2.2.2.2 e1 g g1 (by rw [e2, g2])
  have inn : prI (wCn τp τ2 f) c = prI (wCn τp τ2 f) t + inW W (sc f) s s' := by
    rw [e14]
    by_cases hsf : s = sc f
    · have h1 := (x2 hU hc2C hs).1 (by rw [e5]; exact hsf) (by rw [← hsf]; clear x1 x2 hX hL hPU hPN fr fm hR e12; grind) qf pf (by rw [← e10, hsf]; exact hlf)
      have h3 : inW W (sc f) s s' = W := by
        unfold inW
        rw [if_pos ⟨by rw [hsf]; exact Int32.le_refl _, by rw [← hsf]; exact hss⟩]
      rw [h3]
      omega
    · have h1 := (x2 hU hc2C hs).2 (by rw [e5]; exact hsf)
      rw [h1, ind_s hsf hs1 e9]
  by_cases hz : cf g = 0
  · obtain ⟨q1, q2, q3⟩ := qF.1 hz
    have hk : ¬ xA τp 13 c = 7 := by rw [q1]; decide
    have hw : prI (wCn τp τ2 f) (c + 1) = prI (wCn τp τ2 f) c := (nk_w (F := F) (V := V) (T := T) (q := 0) (p := 0) (μ2 := μ2) h2 hc0 hc6 hk).1
    refine ⟨fun hsf q p hl => ?_, by rw [hw]; exact inn⟩
    have hw2 := (nk_w (f := f) h2 hc0 hc6 hk).2 hl
    have hq := (hl.row h2).1 (by rw [q1]; decide)
    rw [hw, hw2, inn, ind_0 hsf, Nat.add_zero, hq]
  · obtain ⟨n0, g', ⟨q1, q2⟩, q3, q4, q5, q6, q7, q8, q9⟩ := qF.2 hz
    have hc8 : cf g ≤ 8 := (hL.2.2.1 g g1).2.2.2.2.1
    have hn0' : n0 + cf g + 1 ≤ 6100 := by
      have w1 := hL.2.2.2.2.2.2.2.2.2.2.2
      rw [h8, nI_clamp (by omega)] at w1
      have w2 : pre (wlN σ τr cf) (c.toNatClampNeg + 1) ≤ prI (wlN σ τr cf) (nI C) := by
        have := prM (w := wlN σ τr cf) (x := c + 1) (y := nI C) (i_su hcC)
        unfold prI at this
        rw [tn_s hc0 (i_lt_le hc6 (by decide))] at this
        exact this
      omega
    have hk : ¬ xA τp 13 c = 7 := by rw [q5]; decide
    have hw : prI (wCn τp τ2 f) (c + 1) = prI (wCn τp τ2 f) c := (nk_w (F := F) (V := V) (T := T) (q := 0) (p := 0) (μ2 := μ2) h2 hc0 hc6 hk).1
    refine ⟨fun hsf q p hl => ?_, by rw [hw]; exact inn⟩
    have hw2 := (nk_w (f := f) h2 hc0 hc6 hk).2 hl
    obtain ⟨k', cc, qq, pp, r1, r2, r3, r4, r5⟩ := (hl.row h2).2.1 (Or.inr (Or.inl q5))
    obtain ⟨u1, u2⟩ := ch_uq (τ := τp) (k := cf g + 1) (a := fun p => nI (n0 + p)) (by omega) r1 (by rw [← r2.1]; exact q8.symm) (fun i hi => ⟨i_le0 (nI_nneg (by omega)), by
      rw [(q9 i (by omega)).2.2.2.1]
      by_cases hi2 : i < cf g
      · rw [if_pos hi2, if_pos (by omega)]
        rfl
      · rw [if_neg hi2, if_neg (by omega)]⟩) r2.2
    have hX0 : pre (wMn μ2) (qq k') = pre (wMn μ2) (qq 0) := tel_y (Y := fun i => pre (wMn μ2) (qq i)) (fun i hi => by
      obtain ⟨s1, s2⟩ := r5 i hi
      have ec : cc i = nI (n0 + i) := (u2 i (by omega)).symm
      have hki : xA τp 13 (cc i) ≤ 4 := by
        rw [ec, (q9 i (by omega)).1]
        unfold kdp
        split <;> decide
      have hq := (s1.row h2).1 hki
      have hk' : ¬ xA τp 13 (cc i) = 7 := fun w => by rw [w] at hki; exact absurd hki (by decide)
      have h0 : 0 ≤ cc i := (r2.2 i hi).1
      have h6 : cc i < 6200 := by rw [ec]; exact (nI_lt31 (b := 6200) (by omega) (by omega)).mpr (by omega)
      have hw3 := (nk_w (f := f) h2 h0 h6 hk').2 s1
      show pre (wMn μ2) (qq (i + 1)) = pre (wMn μ2) (qq i)
      rw [s2, hw3, hq])
    rw [hw, hw2, inn, ind_0 hsf, Nat.add_zero, ← r4, hX0, r3]
