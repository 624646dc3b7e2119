/-- THE LETS OF EVERY SUBTREE ARE COUNTED ALIKE -/
theorem TR.ct {σ ν τr τv τu τp τ2 μ2 : S5} {k0 U F C V T W qf pf : Nat} {S : Int32} {sc : Nat → Int32} {cf : Nat → Nat} (hX : PX σ ν τr τv τu τp k0 U F C S sc cf) (h2 : TR2 τp τ2) {f : Nat} (hf : f < F) (hlf : LTN τ2 μ2 F V T (xA σ 23 (sc f)) qf pf) (hW : pre (wMn μ2) (pf + 1) = pre (wMn μ2) qf + W) {h s s' u u' a b t n c : Int32} (q : TR σ ν h s s' u u' a b t n c) : (u'.toNatClampNeg ≤ U) → PCt σ τp τ2 μ2 F V T C f W S sc h s s' t c := by
  refine TR.ind (P := fun h s s' u u' a b t n c => u'.toNatClampNeg ≤ U → PCt σ τp τ2 μ2 F V T C f W S sc h s s' t c) ?_ q
  clear q
  intro h s s' u u' a b t n c q hU hcC hS
  obtain ⟨hb, q⟩ := q
  unfold Bd at hb
  obtain ⟨b1, b2, b3, b4, b5, b6, b7, b8, b9, b10, b11, b12, b13, b14⟩ := hb
  have hL := hX.1
  have hc0 : 0 ≤ c := i_trans b12 b13
  have hs0 : 0 ≤ s := i_trans b1 (i_le_of_lt b2)
  have h17 : ∀ x, 0 ≤ x → x < nI C → xA τp 17 x = xA σ 17 x := fun x x0 x1 => (hX.2.2.1.2.2.1 x x0 x1).1.1
  have fr := @PX.fr σ ν τr τv τu τp k0 U F C S sc cf hX c hc0 hcC
  have hF6 : F ≤ 630 := hL.1.2.2.2.1
  -- a row of children
  have row : ∀ (k : Nat) (cc fs ft : Nat → Int32), (xA τp 13 c = 5 ∨ xA τp 13 c = 8 ∨ xA τp 13 c = 9) → 1 ≤ k → Chn τp c k cc → ft 0 = t → ft k = c → fs 0 = s → fs k = s' → (∀ i, i < k → (s ≤ fs i ∧ fs i ≤ fs (i + 1) ∧ fs (i + 1) ≤ s') ∧ PCt σ τp τ2 μ2 F V T C f W S sc h (fs i) (fs (i + 1)) (ft i) (cc i) ∧ cc i < nI C ∧ ft (i + 1) = cc i + 1) → (xA σ 22 h = sc f → sc f < s → ∀ q p, LTN τ2 μ2 F V T c q p → pre (wMn μ2) (p + 1) + prI (wCn τp τ2 f) t = pre (wMn μ2) q + prI (wCn τp τ2 f) (c + 1)) ∧ (¬ xA σ 22 h = sc f → prI (wCn τp τ2 f) (c + 1) = prI (wCn τp τ2 f) t + inW W (sc f) s s') := by
    intro k cc fs ft hk k1 hch f0 fk fs0 fsk hi
    have h7 : ¬ xA τp 13 c = 7 := by rcases hk with w | w | w <;> rw [w] <;> decide
    have hw : prI (wCn τp τ2 f) (c + 1) = prI (wCn τp τ2 f) c := (nk_w (F := F) (V := V) (T := T) (q := 0) (p := 0) (μ2 := μ2) h2 hc0 b14 h7).1
    refine ⟨fun hh hfs q p hl => ?_, fun hn => ?_⟩
    · have hw2 := (nk_w (f := f) h2 hc0 b14 h7).2 hl
      obtain ⟨k', cc', qq, pp, r1, r2, r3, r4, r5⟩ := (hl.row h2).2.1 hk
      obtain ⟨u1, u2⟩ := ch_uq (τ := τp) k1 r1 (hch.1.symm.trans r2.1) hch.2 r2.2
      subst u1
      have := tel_x (X := fun i => pre (wMn μ2) (qq i)) (Y := fun i => prI (wCn τp τ2 f) (ft i)) (k := k) (fun i hik => by
        obtain ⟨⟨y1, -, y2⟩, y3, y4, y5⟩ := hi i hik
        obtain ⟨s1, s2⟩ := r5 i hik
        rw [← u2 i hik] at s1
        have := (y3 y4 (i_trans y2 hS)).1 hh (i_lt_le hfs y1) _ _ s1
        show pre (wMn μ2) (qq (i + 1)) + prI (wCn τp τ2 f) (ft i) = pre (wMn μ2) (qq i) + prI (wCn τp τ2 f) (ft (i + 1))
        rw [s2, y5]
        exact this)
      rw [f0, fk, r3, r4] at this
      rw [hw, hw2]
      exact this
    · have := tel_z (Y := fun i => prI (wCn τp τ2 f) (ft i)) (fs := fs) (W := W) (z := sc f) (k := k) (fun i hik => (hi i hik).1.2.1) (fun i hik => by
        obtain ⟨⟨y1, -, y2⟩, y3, y4, y5⟩ := hi i hik
        have := (y3 y4 (i_trans y2 hS)).2 hn
        show prI (wCn τp τ2 f) (ft (i + 1)) = prI (wCn τp τ2 f) (ft i) + _
        rw [y5]
        exact this)
      rw [f0, fk, fs0, fsk] at this
      rw [hw]
      exact this
  rcases q with q | q | q | q | q | q | q
  · obtain ⟨e1, e2, e3, e4, e5, e6, e7⟩ := q
    have hle : xA τp 13 c ≤ 4 := by
      rcases e7 with ⟨f1, f2, f3, f4, f5, f6, f7⟩ | ⟨f1, f2⟩
      · have hu7 : u < 7000 := by clear hX fr row; grind
        have hu1 : u.toNatClampNeg < U := by
          have := tn_s b5 hu7
          rw [f3, this] at hU
          omega
        have eu : u = nI u.toNatClampNeg := nI_tn b5
        have hpu := hX.2.1.2.2 u.toNatClampNeg hu1
        rw [← eu, f5, f7] at hpu
        obtain ⟨fr, fm⟩ := hX.2.2.1.2.2.1 c hc0 hcC
        have t13 := (fr.2.1 (by rw [f2]; decide)).1
        rw [t13]
        by_cases hz : 0 ≤ tg σ k0 u.toNatClampNeg
        · obtain ⟨g, -, -, g3, -⟩ := hpu.1 hz
          rw [g3]; decide
        · rw [(hpu.2 (by clear hX fr fm hpu row; grind)).1]; decide
      · have h3 : ¬ xA σ 13 c = 3 := by rcases f2 with ⟨_, w, _⟩ | ⟨_, w, _⟩ | ⟨_, w⟩ <;> rw [w] <;> decide
        have h14 : ¬ xA σ 13 c = 14 := by rcases f2 with ⟨_, w, _⟩ | ⟨_, w, _⟩ | ⟨_, w⟩ <;> rw [w] <;> decide
        obtain ⟨t13, -, -, t16, -⟩ := fr h14 h3
        rw [t13]
        rcases f2 with ⟨_, w, _⟩ | ⟨_, w, _⟩ | ⟨_, w⟩ <;> rw [w] <;> decide
    have h7 : ¬ xA τp 13 c = 7 := fun w => by rw [w] at hle; exact absurd hle (by decide)
    have hw : prI (wCn τp τ2 f) (c + 1) = prI (wCn τp τ2 f) c := (nk_w (F := F) (V := V) (T := T) (q := 0) (p := 0) (μ2 := μ2) h2 hc0 b14 h7).1
    have et : t = c := e4
    refine ⟨fun hh hfs q p hl => ?_, fun hn => by rw [hw, et, e1, ind_rf]; rfl⟩
    have hw2 := (nk_w (f := f) h2 hc0 b14 h7).2 hl
    have hq := (hl.row h2).1 hle
    rw [hw, hw2, hq, et]
  · obtain ⟨e1, e2, e3, e4, e5, c1, c2, s1, u1, e6, e7, e8, e9, e10, e11, e12, e13⟩ := q
    unfold Wi at e7 e9
    have kC1 : c1 < nI C := by clear e6 e8 hX fr row; grind
    have kC2 : c2 < nI C := by clear e6 e8 hX fr row; grind
    have k01 : 0 ≤ c1 := by clear e6 e8 hX fr row; grind
    have k02 : 0 ≤ c2 := by clear e6 e8 hX fr row; grind
    obtain ⟨t13, -, -, t16, -⟩ := fr (by rw [e3]; decide) (by rw [e3]; decide)
    refine row 2 (fun p => if p = 0 then c1 else c2) (fun p => if p = 0 then s else if p = 1 then s1 else s') (fun p => if p = 0 then t else if p = 1 then c1 + 1 else c) (Or.inl (t13.trans e3)) (by omega) ⟨t16.trans e11, fun i hi => ?_⟩ rfl rfl rfl rfl (fun i hi => ?_)
    · have hi : i = 0 ∨ i = 1 := by omega
      rcases hi with rfl | rfl
      · exact ⟨k01, (h17 c1 k01 kC1).trans e12⟩
      · exact ⟨k02, (h17 c2 k02 kC2).trans e13⟩
    · have hi : i = 0 ∨ i = 1 := by omega
      rcases hi with rfl | rfl
      · exact ⟨⟨Int32.le_refl _, e7.2.1, e7.2.2.1⟩, e6.2 (Nat.le_trans (tn_mono e7.2.2.2.2.2.1) hU), kC1, rfl⟩
      · exact ⟨⟨e9.1, e9.2.1, Int32.le_refl _⟩, e8.2 hU, kC2, e10⟩
  · obtain ⟨e1, e2, e3, k, e4, e5, e6, e7⟩ := q
    obtain ⟨g, cc, fs, fu, fn, ft, p1, p2, p3, p4, p5, p6, ⟨p7, p7'⟩, p8, p9, hi⟩ := e7
    obtain ⟨t13, -, t15, t16, -⟩ := fr (by rw [e3]; decide) (by rw [e3]; decide)
    refine row k cc fs ft (Or.inr (Or.inl (t13.trans e3))) (by omega) ⟨t16.trans p9.symm, fun i hik => ?_⟩ p7 p7' p1 p2 (fun i hik => ?_)
    · obtain ⟨d1, d2, d3, d4, d5, d6, d7, d8, d9⟩ := hi i hik
      unfold Wi at d2
      have k0 : 0 ≤ cc i := by clear hi d1 hX fr row; grind
      have kC : cc i < nI C := by clear hi d1 hX fr row; grind
      exact ⟨k0, (h17 _ k0 kC).trans d7⟩
    · obtain ⟨d1, d2, d3, d4, d5, d6, d7, d8, d9⟩ := hi i hik
      unfold Wi at d2
      exact ⟨⟨d2.1, d2.2.1, d2.2.2.1⟩, d1.2 (Nat.le_trans (tn_mono d2.2.2.2.2.2.1) hU), by clear hi d1 hX fr row; grind, d5⟩
  · obtain ⟨e1, e2, e3, e4, e5, e6, e7, k, e8, e9, e10, e11⟩ := q
    obtain ⟨g, cc, fs, fu, fn, ft, p1, p2, p3, p4, p5, p6, ⟨p7, p7'⟩, p8, p9, hi⟩ := e11
    obtain ⟨t13, -, -, t16, -⟩ := fr (by rw [e3]; decide) (by rw [e3]; decide)
    refine row k cc fs ft (Or.inr (Or.inr (t13.trans e3))) (by omega) ⟨t16.trans p9.symm, fun i hik => ?_⟩ p7 p7' p1 p2 (fun i hik => ?_)
    · obtain ⟨d1, d2, d3, d4, d5, d6, d7, d8, d9⟩ := hi i hik
      unfold Wi at d2
      have k0 : 0 ≤ cc i := by clear hi d1 hX fr row; grind
      have kC : cc i < nI C := by clear hi d1 hX fr row; grind
      exact ⟨k0, (h17 _ k0 kC).trans d7⟩
    · obtain ⟨d1, d2, d3, d4, d5, d6, d7, d8, d9⟩ := hi i hik
      unfold Wi at d2
      exact ⟨⟨d2.1, d2.2.1, d2.2.2.1⟩, d1.2 (Nat.le_trans (tn_mono d2.2.2.2.2.2.1) hU), by clear hi d1 hX fr row; grind, d5⟩
  · obtain ⟨w1, w2⟩ := q.2.2.ct hX h2 (f := f) hlf hW (fun _ _ _ _ _ _ _ _ _ _ r => r) hc0 b14 hcC hs0 b4 hS hU
    exact ⟨fun _ => w1, fun _ => w2⟩
  · obtain ⟨e1, e2, e3, e4, e5, e6, e7, e8, k, s1, u1, a1, t1, c0, e9, e10, e11, e12, e13, e14, e15, e16, e17, e18, e19, e20⟩ := q
    unfold Wi at e20
    obtain ⟨v1, v2, v3, v4, v5, v6, v7, v8, v9, v10, v11, v12⟩ := e20
    obtain ⟨g, bb, fs, fu, fn, ft, p1, p2, p3, p4, p5, p6, ⟨p7, p7'⟩, p8, p9, hi⟩ := e14
    have sS : s < S := su_lt e8 b3 b4 hS
    have kC0 : c0 < nI C := by clear e19 hi hX fr row; grind
    have k00 : 0 ≤ c0 := by clear e19 hi hX fr row; grind
    have k06 : c0 < 6200 := by clear e19 hi hX fr row; grind
    obtain ⟨t13, -, -, t16, -⟩ := fr (by rw [e4]; decide) (by rw [e4]; decide)
    have ec : xA τp 16 c = c0 := t16.trans e12
    have hk7 : xA τp 13 c = 7 := t13.trans e4
    -- a binding
    have bd1 : ∀ i, i < k → (0 ≤ bb i ∧ xA τp 17 (bb i) = if i + 1 < k then bb (i + 1) else -1) ∧ (xA σ 22 h = sc f → sc f < s → ∀ q p, LTN τ2 μ2 F V T (xA τp 16 (bb i)) q p → pre (wMn μ2) (p + 1) + prI (wCn τp τ2 f) (ft i) = pre (wMn μ2) q + prI (wCn τp τ2 f) (ft (i + 1))) ∧ (¬ xA σ 22 h = sc f → prI (wCn τp τ2 f) (ft (i + 1)) = prI (wCn τp τ2 f) (ft i) + inW W (sc f) (fs i) (fs (i + 1))) := fun i hik => by
      obtain ⟨d1, d2, d3, d4, d5, d6, d7, d8, d9⟩ := hi i hik
      unfold Wi at d2
      obtain ⟨w1, w2, w3, w4, w5, w6, w7, w8, w9, w10, w11, w12⟩ := d2
      obtain ⟨f1, f2, f3, f4, f5, c1, f6, f7, f8, f9⟩ := d1
      clear hi
      have kb0 : 0 ≤ bb i := by clear f9 e19 hX fr row; grind
      have kbC : bb i < nI C := by clear f9 e19 hX fr row; grind
      have kb6 : bb i < 6200 := by clear f9 e19 hX fr row; grind
      obtain ⟨tb13, -, -, tb16, -⟩ := hX.fr kb0 kbC (by rw [f3]; decide) (by rw [f3]; decide)
      have y4 : fs (i + 1) ≤ S := i_trans (i_trans w3 v2) hS
      have y5 : fs (i + 1) ≤ 700 := i_trans (i_trans w3 v2) b4
      have y6 : (fu (i + 1)).toNatClampNeg ≤ U := Nat.le_trans (tn_mono (i_trans w6 v5)) hU
      have y7 : 0 ≤ fs i := by clear f9 e19 hX fr row; grind
      have y8 : s ≤ fs i := by clear f9 e19 hX fr row; grind
      have y9 : fs (i + 1) ≤ s' := i_trans w3 v2
      have hwb : prI (wCn τp τ2 f) (bb i + 1) = prI (wCn τp τ2 f) (bb i) := (nk_w (F := F) (V := V) (T := T) (q := 0) (p := 0) (μ2 := μ2) h2 kb0 kb6 (by rw [tb13, f3]; decide)).1
      refine ⟨⟨kb0, (h17 _ kb0 kbC).trans d7⟩, ?_⟩
      rw [tb16, f6, d5, hwb, f8]
      rcases f9 with ⟨g1, g2, g3⟩ | g1
      · have kc : c1 < nI C := by
          have := g2.1.c
          clear g2 e19 hX fr row
          grind
        obtain ⟨z1, z2⟩ := g2.2 y6 kc y4
        exact ⟨fun hh hfs => z1 (e7.trans hh) (i_lt_le hfs y8), fun hn => z2 (fun w => hn (e7.symm.trans w))⟩
      · have k4 : 0 ≤ c1 ∧ c1 < bb i := by
          obtain ⟨g1, g2, g3, g4, g5, g6, g7, g8, g9, c9, g10, g11, g12, g13, g14⟩ := g1
          have := g12.1.c
          clear e19 hX fr row g12
          grind
        obtain ⟨z1, z2⟩ := g1.ct hX h2 (f := f) hlf hW (fun _ _ _ _ _ _ _ _ _ _ r => r) k4.1 (i_lt_le k4.2 (i_le_of_lt kb6)) (i_lt_le k4.2 (i_le_of_lt kbC)) y7 y5 y4 y6
        exact ⟨fun hh hfs => z1 (i_lt_le hfs y8), fun hn => z2⟩
    have h22 : xA σ 22 s = xA σ 22 h := e7
    obtain ⟨hb1, hb2⟩ := e19.2 hU kC0 hS
    have y15 : s ≤ s1 := by clear e19 hi hX fr row bd1; grind
    obtain ⟨fr0, -⟩ := hX.2.2.1.2.2.1 c hc0 hcC
    have hslot : xA τp 15 c = xA τr 26 (xA σ 22 h) := by rw [fr0.2.2.1 e4, e5, e7]
    refine ⟨fun hh hfs q p hl => ?_, fun hn => ?_⟩
    · obtain ⟨l, bb', qq, pp, r1, r2, r3, r4, r5, r6, r7, r8⟩ := (hl.row h2).2.2.1 hk7
      obtain ⟨m1, m2⟩ := ch_uq (τ := τp) e9 r1 (by rw [← r2, ec, h17 c0 k00 kC0, p9]) (fun i hik => (bd1 i hik).1) r3
      subst m1
      have T1 := tel_x (X := fun i => pre (wMn μ2) (qq i)) (Y := fun i => prI (wCn τp τ2 f) (ft i)) (k := k) (fun i hik => by
        obtain ⟨x1, x2⟩ := r8 i hik
        rw [← m2 i hik] at x1
        have := (bd1 i hik).2.1 hh hfs _ _ x1
        show pre (wMn μ2) (qq (i + 1)) + prI (wCn τp τ2 f) (ft i) = pre (wMn μ2) (qq i) + prI (wCn τp τ2 f) (ft (i + 1))
        rw [x2]
        exact this)
      rw [p7, p7', r4] at T1
      rw [ec] at r6
      have T2 := hb1 (e7.trans hh) (i_lt_le hfs y15) _ _ r6
      rw [← r7, r5, ← e13] at T2
      have hsl : xA τp 15 c = nI f := by rw [hslot, hh]; exact (hL.2.2.1 f hf).1.2.2.2
      obtain ⟨z1, z2⟩ := hl.un.2.1 (by rw [h2.1 13 c (by decide)]; exact hk7)
      rw [wM_s, wC_s hc0 b14]
      rcases z2 with z2 | z2
      · rw [if_pos (by rw [← z1]; exact z2), if_neg (fun w => by rw [z2] at w; exact absurd w.2.2 (by decide))]
        omega
      · rw [if_neg (fun w => by rw [← z1, z2] at w; exact absurd w (by decide)), if_pos ⟨hk7, hsl, z2⟩]
        omega
    · have T1 := tel_z (Y := fun i => prI (wCn τp τ2 f) (ft i)) (fs := fs) (W := W) (z := sc f) (k := k) (fun i hik => (hi i hik).2.1.2.1) (fun i hik => (bd1 i hik).2.2 hn)
      rw [p7, p7', p1, p2] at T1
      have T2 := hb2 (fun w => hn (e7.symm.trans w))
      rw [← e13] at T2
      have hsf : ¬ s = sc f := fun w => hn (by rw [← e7, w]; exact (hL.2.2.1 f hf).1.2.2.1)
      have hss1 : s ≤ s + 1 := by clear e19 hi hX fr row bd1; grind
      have T4 := ind_s (W := W) (s' := s') hsf hss1 e8
      have T5 := ind_add (W := W) (z := sc f) (s' := s') e15 v2
      obtain ⟨g', g1, g2⟩ := hL.2.2.2.1 h b1 (i_lt_le b2 (i_le_of_lt sS))
      rw [wC_s hc0 b14, if_neg (fun w => ?_), T2]
      · omega
      · have e := w.2.1
        rw [hslot, g2, (hL.2.2.1 g' g1).1.2.2.2] at e
        have : g' = f := nI_injL (by omega) (by omega) e
        subst this
        exact hn g2
  · obtain ⟨e1, e2, e3, e4, k, s1, u1, a1, c0, e9, e10, e11, e12, e13, e14, e15, e16, e17⟩ := q
    unfold Wi at e13
    obtain ⟨v1, v2, v3, v4, v5, v6, v7, v8, v9, v10, v11, v12⟩ := e13
    obtain ⟨g, bb, fs, fu, fn, ft, p1, p2, p3, p4, p5, p6, ⟨p7, p7'⟩, p8, p9, hi⟩ := e14
    have kC0 : c0 < nI C := by clear e12 hi hX fr row; grind
    have k00 : 0 ≤ c0 := by clear e12 hi hX fr row; grind
    obtain ⟨t13, -, -, t16, -⟩ := fr (by rw [e4]; decide) (by rw [e4]; decide)
    have ec : xA τp 16 c = c0 := t16.trans e11
    have hk6 : xA τp 13 c = 6 := t13.trans e4
    have h7 : ¬ xA τp 13 c = 7 := by rw [hk6]; decide
    have bd1 : ∀ i, i < k → (0 ≤ bb i ∧ xA τp 17 (bb i) = if i + 1 < k then bb (i + 1) else -1) ∧ (xA σ 22 h = sc f → sc f < s → ∀ q p, LTN τ2 μ2 F V T (xA τp 16 (bb i)) q p → pre (wMn μ2) (p + 1) + prI (wCn τp τ2 f) (ft i) = pre (wMn μ2) q + prI (wCn τp τ2 f) (ft (i + 1))) ∧ (¬ xA σ 22 h = sc f → prI (wCn τp τ2 f) (ft (i + 1)) = prI (wCn τp τ2 f) (ft i) + inW W (sc f) (fs i) (fs (i + 1))) := fun i hik => by
      obtain ⟨d1, d2, d3, d4, d5, d6, d7, d8, d9⟩ := hi i hik
      unfold Wi at d2
      obtain ⟨w1, w2, w3, w4, w5, w6, w7, w8, w9, w10, w11, w12⟩ := d2
      obtain ⟨f1, f2, c1, f6, f7, f8, f9⟩ := d1
      clear hi
      have kb0 : 0 ≤ bb i := by clear f9 e12 hX fr row; grind
      have kbC : bb i < nI C := by clear f9 e12 hX fr row; grind
      have kb6 : bb i < 6200 := by clear f9 e12 hX fr row; grind
      have y4 : fs (i + 1) ≤ S := i_trans w3 hS
      have y6 : (fu (i + 1)).toNatClampNeg ≤ U := Nat.le_trans (tn_mono w6) hU
      have y8 : s ≤ fs i := i_trans v2 w1
      have kd : xA σ 13 (bb i) = 11 ∨ xA σ 13 (bb i) = 12 ∨ xA σ 13 (bb i) = 13 := by
        rcases f9 with ⟨g1, g2, -⟩ | ⟨g1, g2, g3, g4⟩
        · exact Or.inl g2
        · rcases g2 with ⟨_, w, _⟩ | ⟨_, w⟩
          · exact Or.inr (Or.inl w)
          · exact Or.inr (Or.inr w)
      obtain ⟨tb13, -, -, tb16, -⟩ := hX.fr kb0 kbC (by rcases kd with w | w | w <;> rw [w] <;> decide) (by rcases kd with w | w | w <;> rw [w] <;> decide)
      have hwb : prI (wCn τp τ2 f) (bb i + 1) = prI (wCn τp τ2 f) (bb i) := (nk_w (F := F) (V := V) (T := T) (q := 0) (p := 0) (μ2 := μ2) h2 kb0 kb6 (by rw [tb13]; rcases kd with w | w | w <;> rw [w] <;> decide)).1
      refine ⟨⟨kb0, (h17 _ kb0 kbC).trans d7⟩, ?_⟩
      rw [tb16, f6, d5, hwb, f8]
      rcases f9 with ⟨g1, g2, g3, g4, g5, g6, g7, g8, g9, g10, g11, g12, g13⟩ | ⟨g1, g2, g3, g4⟩
      · have kc : c1 < nI C := by
          have := g12.1.c
          clear g12 e12 hX fr row
          grind
        obtain ⟨z1, z2⟩ := g12.2 y6 kc y4
        have y9 : s ≤ fs i + 1 := by unfold Wi at g13; clear g12 e12 hX fr row; grind
        refine ⟨fun hh hfs => z1 (g9.trans hh) (i_lt_le hfs y9), fun hn => ?_⟩
        have hsf : ¬ fs i = sc f := fun w => hn (by rw [← g9, w]; exact (hL.2.2.1 f hf).1.2.2.1)
        rw [z2 (fun w => hn (g9.symm.trans w)), ind_s hsf g13.1 g11]
      · have kc : c1 < nI C := by
          have := g3.1.c
          clear g3 e12 hX fr row
          grind
        obtain ⟨z1, z2⟩ := g3.2 y6 kc y4
        exact ⟨fun hh hfs => z1 hh (i_lt_le hfs y8), fun hn => z2 hn⟩
    obtain ⟨hb1, hb2⟩ := e12.2 (Nat.le_trans (tn_mono v6) hU) kC0 (i_trans v3 hS)
    have hw : prI (wCn τp τ2 f) (c + 1) = prI (wCn τp τ2 f) c := (nk_w (F := F) (V := V) (T := T) (q := 0) (p := 0) (μ2 := μ2) h2 hc0 b14 h7).1
    refine ⟨fun hh hfs q p hl => ?_, fun hn => ?_⟩
    · have hw2 := (nk_w (f := f) h2 hc0 b14 h7).2 hl
      obtain ⟨l, bb', qq, pp, r1, r2, r3, r4, r5, r6, r7, r8⟩ := (hl.row h2).2.2.2 hk6
      obtain ⟨m1, m2⟩ := ch_uq (τ := τp) e9 r1 (by rw [← r2, ec, h17 c0 k00 kC0, p9]) (fun i hik => (bd1 i hik).1) r3
      subst m1
      have T1 := tel_x (X := fun i => pre (wMn μ2) (qq (i + 1))) (Y := fun i => prI (wCn τp τ2 f) (ft i)) (k := k) (fun i hik => by
        obtain ⟨x1, x2⟩ := r8 i hik
        rw [← m2 i hik] at x1
        have := (bd1 i hik).2.1 hh hfs _ _ x1
        show pre (wMn μ2) (qq (i + 1 + 1)) + prI (wCn τp τ2 f) (ft i) = pre (wMn μ2) (qq (i + 1)) + prI (wCn τp τ2 f) (ft (i + 1))
        rw [x2]
        exact this)
      rw [p7, p7', r5] at T1
      rw [ec, r4] at r6
      have T2 := hb1 hh hfs _ _ r6
      rw [← r7] at T2
      have T3 : pre (wMn μ2) p + prI (wCn τp τ2 f) (c0 + 1) = pre (wMn μ2) (qq 1) + prI (wCn τp τ2 f) c := T1
      rw [hw, hw2]
      omega
    · have T1 := tel_z (Y := fun i => prI (wCn τp τ2 f) (ft i)) (fs := fs) (W := W) (z := sc f) (k := k) (fun i hik => (hi i hik).2.1.2.1) (fun i hik => (bd1 i hik).2.2 hn)
      rw [p7, p7', p1, p2] at T1
      have T2 := hb2 hn
      have T5 := ind_add (W := W) (z := sc f) (s' := s') v2 e15
      rw [hw, T1]
      omega
