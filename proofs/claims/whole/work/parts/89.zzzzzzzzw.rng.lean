theorem tg_neg {σ : S5} {k u : Nat} {fs : Nat → Int32} {S : Int32} (hDN : DN σ) (hG : GS σ k fs S) (hS6 : S ≤ 630) (hs : 0 ≤ xA σ 27 (nI u) ∧ xA σ 27 (nI u) < S) (hn : tg σ k u < 0) (h1 : ¬ tg σ k u = -1) : ∃ x, x < k ∧ -2 - tg σ k u = nI x := by
  have hl : (xA σ 27 (nI u)).toNatClampNeg < 630 := i_lt (n := 630) (not_neg hs.1) (by clear hG; grind)
  have hfd := fd_ich hDN hS6 (fun x x0 x1 => by
    rcases hG.1 x x0 x1 with ⟨w, _⟩ | w
    · exact Or.inl w
    · exact Or.inr ⟨w.1, w.2.1⟩) (xB σ 4 (nI u)) 701 (xA σ 27 (nI u)) (Or.inr ⟨hs.1, hs.2, by omega⟩)
  unfold tg at hn h1 ⊢
  by_cases hf : fd (xA σ 20) (xA σ 21) (xB σ 3) (xB σ 4 (nI u)) 701 (xA σ 27 (nI u)) = -1
  · rw [if_pos hf] at h1 ⊢
    rcases tp_rg (b := xB σ 1) (z := xB σ 4 (nI u)) k 0 with w | ⟨x, x1, x2, x3, x4⟩
    · rw [w] at h1
      exact absurd rfl h1
    · refine ⟨x, by omega, ?_⟩
      rw [x3]
      generalize nI x = y
      clear hfd hG
      grind
  · rw [if_neg hf] at hn
    rcases hfd with w | ⟨s, i, j, m', k1, k2, k3, k4, k5, k6, k7⟩
    · exact absurd w hf
    · exfalso
      rw [k5] at hn
      have hs7 := i_lt (n := 630) (not_neg k1.1) (i_lt_le k1.2 hS6)
      have e : s * 5 + nI i = nI (5 * s.toNatClampNeg + i) := by
        have h1 := nI_tn k1.1
        have h2 : nI s.toNatClampNeg * 5 = nI (5 * s.toNatClampNeg) := by
          show Int32.ofNat _ * Int32.ofNat 5 = Int32.ofNat _
          rw [← Int32.ofNat_mul, Nat.mul_comm]
        rw [← h1] at h2
        rw [h2, nI_plus]
      have h6 : (630 : Int32).toNatClampNeg = 630 := rfl
      rw [e] at hn
      exact absurd hn (nI_nneg (by omega))
theorem LfR.rg {τ : S5} {F n : Nat} {x k v nx : Int32} (h : LfR τ x k v nx) (h0 : 0 ≤ x) (h6 : x < 6200) (h2 : k = 2 → ∃ g, g < F ∧ v = nI g) (hk : k = 2 ∨ k = 3) : Rg τ F n x := by
  cases n with
  | zero => exact True.intro
  | succ n =>
    unfold Rg
    rw [h.1, h.2.1]
    refine ⟨⟨h0, h6⟩, h2, fun w => ?_, fun w => ?_, fun w => ?_⟩
    · rcases hk with z | z <;> rw [z] at w <;> exact absurd w (by decide)
    · rcases hk with z | z <;> rw [z] at w <;> exact absurd w (by decide)
    · rcases hk with z | z <;> rw [z] at w <;> exact absurd w (by decide)
/-- what stands behind a let's body are bindings -/
theorem PX.bk {σ ν τr τv τu τp : S5} {k U F C : Nat} {S : Int32} {sc : Nat → Int32} {cf : Nat → Nat} (hX : PX σ ν τr τv τu τp k U F C S sc cf) {c : Int32} (c0 : 0 ≤ c) (cC : c < nI C) (h7 : xA σ 13 c = 7) : ∀ i l cc, CHn σ c l cc → i < l → 0 < i → xA σ 13 (cc i) = 10 := by
  have hC : gI σ 8 = nI C := hX.2.2.2.1
  have hcov := hX.1.2.2.2.2.2.2.2.2.2.1
  rcases hcov.1 c c0 (by rw [hC]; exact cC) with ⟨h, s, s', u, u', a, b, t, n, hS, q, cx⟩ | ⟨v, j, s, s', u, u', a, b, t, n, ⟨j5, s7, b3, hS⟩, q, cx⟩ | ⟨h, j, s, s', u, u', a, b, t, n, ⟨s7, hS⟩, q, cx⟩ | ⟨h, s, s', u, u', n, b, t, ⟨s7, hS, hk⟩, q, cx⟩
  · rcases q.un.2 with hq | hq | hq | hq | hq | hq | hq
    · obtain ⟨e1, e2, e3, e4, e5, e6, e7⟩ := hq
      rcases e7 with ⟨_, w, _⟩ | ⟨_, ⟨_, w, _⟩ | ⟨_, w, _⟩ | ⟨_, w⟩⟩ <;> rw [w] at h7 <;> exact absurd h7 (by decide)
    · rw [hq.2.2.1] at h7; exact absurd h7 (by decide)
    · rw [hq.2.2.1] at h7; exact absurd h7 (by decide)
    · rw [hq.2.2.1] at h7; exact absurd h7 (by decide)
    · rw [hq.2.2.1] at h7; exact absurd h7 (by decide)
    · obtain ⟨e1, e2, e3, e4, e5, e6, e7, e8, k', s1, u1, a1, t1, c0', e9, e10, e11, e12, e13, e14, -⟩ := hq
      obtain ⟨g, bb, fs, fu, fn, ft, p1, p2, p3, p4, p5, p6, ⟨p7, p7'⟩, p8, p9, hi⟩ := e14
      intro i l cc hch il i0
      obtain ⟨⟨l1, l9⟩, c16, hcc⟩ := hch
      have key : ∀ i, i < l → 0 < i → ∃ e, e < k' ∧ i = e + 1 ∧ cc i = bb e := by
        intro i
        induction i with
        | zero => intro _ w; omega
        | succ i ih =>
          intro il _
          have h17 := (hcc i (by omega)).2.2
          rw [if_pos il] at h17
          by_cases hi0 : i = 0
          · subst hi0
            refine ⟨0, by omega, rfl, ?_⟩
            rw [← h17, ← c16, e12, p9]
          · obtain ⟨e, e1, e2, e3⟩ := ih (by omega) (by omega)
            rw [e3] at h17
            obtain ⟨d1, d2, d3, d4, d5, d6, d7, -⟩ := hi e e1
            rw [d7] at h17
            by_cases hek : e + 1 < k'
            · rw [if_pos hek] at h17
              exact ⟨e + 1, hek, by omega, h17.symm⟩
            · rw [if_neg hek] at h17
              have := (hcc (i + 1) il).1
              rw [← h17] at this
              exact absurd this (by decide)
      obtain ⟨e, e1, e2, e3⟩ := key i il i0
      rw [e3]
      exact (hi e e1).1.2.2.1
    · rw [hq.2.2.2.1] at h7; exact absurd h7 (by decide)
  · rw [q.2.2.1] at h7; exact absurd h7 (by decide)
  · obtain ⟨d1, d2, c1, d3, d4, d5, d6⟩ := q
    rcases d6 with ⟨f1, f2, -⟩ | ⟨f1, f2, -⟩
    · rw [f2] at h7; exact absurd h7 (by decide)
    · rcases f2 with ⟨_, w, _⟩ | ⟨_, w⟩ <;> rw [w] at h7 <;> exact absurd h7 (by decide)
  · rw [q.1] at h7; exact absurd h7 (by decide)
/-- what stands behind a case's first part are alternatives -/
theorem PX.ck {σ ν τr τv τu τp : S5} {k U F C : Nat} {S : Int32} {sc : Nat → Int32} {cf : Nat → Nat} (hX : PX σ ν τr τv τu τp k U F C S sc cf) {c : Int32} (c0 : 0 ≤ c) (cC : c < nI C) (h6 : xA σ 13 c = 6) : ∀ i l cc, CHn σ c l cc → i < l → 0 < i → 10 ≤ xA σ 13 (cc i) ∧ xA σ 13 (cc i) ≤ 13 := by
  have hC : gI σ 8 = nI C := hX.2.2.2.1
  have hcov := hX.1.2.2.2.2.2.2.2.2.2.1
  rcases hcov.1 c c0 (by rw [hC]; exact cC) with ⟨h, s, s', u, u', a, b, t, n, hS, q, cx⟩ | ⟨v, j, s, s', u, u', a, b, t, n, ⟨j5, s7, b3, hS⟩, q, cx⟩ | ⟨h, j, s, s', u, u', a, b, t, n, ⟨s7, hS⟩, q, cx⟩ | ⟨h, s, s', u, u', n, b, t, ⟨s7, hS, hk⟩, q, cx⟩
  · rcases q.un.2 with hq | hq | hq | hq | hq | hq | hq
    · obtain ⟨e1, e2, e3, e4, e5, e6, e7⟩ := hq
      rcases e7 with ⟨_, w, _⟩ | ⟨_, ⟨_, w, _⟩ | ⟨_, w, _⟩ | ⟨_, w⟩⟩ <;> rw [w] at h6 <;> exact absurd h6 (by decide)
    · rw [hq.2.2.1] at h6; exact absurd h6 (by decide)
    · rw [hq.2.2.1] at h6; exact absurd h6 (by decide)
    · rw [hq.2.2.1] at h6; exact absurd h6 (by decide)
    · rw [hq.2.2.1] at h6; exact absurd h6 (by decide)
    · rw [hq.2.2.2.1] at h6; exact absurd h6 (by decide)
    · obtain ⟨e1, e2, e3, e4, k', s1, u1, a1, c0', e9, e10, e11, e12, e13, e14, -⟩ := hq
      obtain ⟨g, bb, fs, fu, fn, ft, p1, p2, p3, p4, p5, p6, ⟨p7, p7'⟩, p8, p9, hi⟩ := e14
      intro i l cc hch il i0
      obtain ⟨⟨l1, l9⟩, c16, hcc⟩ := hch
      have key : ∀ i, i < l → 0 < i → ∃ e, e < k' ∧ i = e + 1 ∧ cc i = bb e := by
        intro i
        induction i with
        | zero => intro _ w; omega
        | succ i ih =>
          intro il _
          have h17 := (hcc i (by omega)).2.2
          rw [if_pos il] at h17
          by_cases hi0 : i = 0
          · subst hi0
            refine ⟨0, by omega, rfl, ?_⟩
            rw [← h17, ← c16, e11, p9]
          · obtain ⟨e, e1, e2, e3⟩ := ih (by omega) (by omega)
            rw [e3] at h17
            obtain ⟨d1, d2, d3, d4, d5, d6, d7, -⟩ := hi e e1
            rw [d7] at h17
            by_cases hek : e + 1 < k'
            · rw [if_pos hek] at h17
              exact ⟨e + 1, hek, by omega, h17.symm⟩
            · rw [if_neg hek] at h17
              have := (hcc (i + 1) il).1
              rw [← h17] at this
              exact absurd this (by decide)
      obtain ⟨e, e1, e2, e3⟩ := key i il i0
      rw [e3]
      obtain ⟨d1, d2, c1, d3, d4, d5, d6⟩ := (hi e e1).1
      rcases d6 with ⟨f1, f2, -⟩ | ⟨f1, f2, -⟩
      · rw [f2]; decide
      · rcases f2 with ⟨_, w, _⟩ | ⟨_, w⟩ <;> rw [w] <;> decide
  · rw [q.2.2.1] at h6; exact absurd h6 (by decide)
  · obtain ⟨d1, d2, c1, d3, d4, d5, d6⟩ := q
    rcases d6 with ⟨f1, f2, -⟩ | ⟨f1, f2, -⟩
    · rw [f2] at h6; exact absurd h6 (by decide)
    · rcases f2 with ⟨_, w, _⟩ | ⟨_, w⟩ <;> rw [w] at h6 <;> exact absurd h6 (by decide)
  · rw [q.1] at h6; exact absurd h6 (by decide)
/-- EVERY NODE'S NUMBERS -/
theorem PX.rg {σ ν τr τv τu τp μm : S5} {k U F C : Nat} {S : Int32} {sc fs : Nat → Int32} {cf : Nat → Nat} (hX : PX σ ν τr τv τu τp k U F C S sc cf) (hM : MX σ ν τr τv μm k U F S cf) (hG : GS σ k fs S) : ∀ n c, 0 ≤ c → c < nI C → Rg τp F n c
  | 0, _, _, _ => True.intro
  | n + 1, c, c0, cC => by
    have ih := PX.rg hX hM hG n
    obtain ⟨⟨hDN, hS6, hSe, hF6, hkF, hU⟩, hown, hsc, hnum, hrow, hbase, htg, hku, hkf, hcov, ⟨h80, hg4, hw3⟩, hroom⟩ := id hX.1
    have hC : gI σ 8 = nI C := hX.2.2.2.1
    have hC6 : C ≤ 6200 := hX.2.2.2.2
    have c6 : c < 6200 := i_lt_le cC ((nI_le31 (b := 6200) (by omega) (by omega)).mpr hC6)
    obtain ⟨fr, -⟩ := hX.2.2.1.2.2.1 c c0 cC
    have hit := hcov.1 c c0 (by rw [hC]; exact cC)
    obtain ⟨hK, hNk⟩ := hit.nk
    have h17 : ∀ x, 0 ≤ x → x < nI C → xA τp 17 x = xA σ 17 x := fun x x0 x1 => (hX.2.2.1.2.2.1 x x0 x1).1.1
    unfold Rg
    by_cases h14 : xA σ 13 c = 14
    · obtain ⟨⟨s0, s1⟩, s2, s3, s4⟩ := hNk.2.2.2 h14
      obtain ⟨f, f1, f2⟩ := hnum _ s0 s1
      rw [s2] at f2
      by_cases hc : cf f = 0
      · obtain ⟨z1, z2, z3⟩ := (fr.2.2.2.2.2 h14 f f1 f2).1 hc
        rw [z1, z2]
        exact ⟨⟨c0, c6⟩, fun _ => ⟨f, f1, rfl⟩, fun w => by rcases w with w | w | w <;> exact absurd w (by decide), fun w => absurd w (by decide), fun w => absurd w (by decide)⟩
      · obtain ⟨n0, g, ⟨z1, z1'⟩, z2, z3, z4, z5, z6, z7, z8⟩ := (fr.2.2.2.2.2 h14 f f1 f2).2 hc
        have hc8 := (hsc f f1).2.2.2.2.1
        have hn0' : n0 + cf f + 1 ≤ 6100 := by
          have w1 := hroom
          rw [hC, nI_clamp (by omega)] at w1
          have w2 : pre (wlN σ τr cf) (c.toNatClampNeg + 1) ≤ prI (wlN σ τr cf) (nI C) := by
            have := prM (w := wlN σ τr cf) (x := c + 1) (y := nI C) (i_su cC)
            unfold prI at this
            rw [tn_s c0 (i_lt_le c6 (by decide))] at this
            exact this
          omega
        rw [z4]
        refine ⟨⟨c0, c6⟩, fun w => absurd w (by decide), fun _ => ?_, fun w => absurd w (by decide), fun w => absurd w (by decide)⟩
        rw [z7]
        refine chA_mk0 (l := cf f + 1) (aa := fun p => nI (n0 + p)) (by omega) (fun p hp => ?_) (fun p hp => (z8 p (by omega)).rg (i_le0 (nI_nneg (by omega))) ((nI_lt31 (b := 6200) (by omega) (by omega)).mpr (by omega)) (fun w => ?_) ?_) 9
        · show xA τp 17 (nI (n0 + p)) = if p + 1 < cf f + 1 then nI (n0 + (p + 1)) else -1
          rw [(z8 p (by omega)).2.2.2.1]
          by_cases hpc : p < cf f
          · rw [if_pos hpc, if_pos (by omega)]; rfl
          · rw [if_neg hpc, if_neg (by omega)]
        · refine ⟨f, f1, ?_⟩
          unfold kdp at w
          by_cases hp0 : p = 0
          · unfold vlp; rw [if_pos hp0]
          · rw [if_neg hp0] at w; exact absurd w (by decide)
        · unfold kdp
          by_cases hp0 : p = 0
          · rw [if_pos hp0]; exact Or.inl rfl
          · rw [if_neg hp0]; exact Or.inr rfl
    · by_cases h3 : xA σ 13 c = 3
      · have hk2 : (xA τp 13 c = 2 → ∃ g, g < F ∧ xA τp 14 c = nI g) ∧ (xA τp 13 c = 2 ∨ xA τp 13 c = 3) := by
          rcases hit with ⟨h, s, s', u, u', a, b, t, n, hS, q, cx⟩ | ⟨v, j, s, s', u, u', a, b, t, n, ⟨j5, s7, b3, hS⟩, q, cx⟩ | ⟨h, j, s, s', u, u', a, b, t, n, ⟨s7, hS⟩, q, cx⟩ | ⟨h, s, s', u, u', n, b, t, ⟨s7, hS, hk⟩, q, cx⟩
          · rcases q.un.2 with hq | hq | hq | hq | hq | hq | hq
            · obtain ⟨e1, e2, e3, e4, e5, e6, e7⟩ := hq
              rcases e7 with ⟨f1, f2, f3, f4, f5, f6, f7⟩ | ⟨f1, f2⟩
              · have hb := q.un.1
                unfold Bd at hb
                have hU2 : u'.toNatClampNeg ≤ U := by
                  have h1 := q.cu.2
                  have h2 := cx.2.2.2.2.2
                  have h4 := prM (w := w3 σ) (x := c + 1) (y := gI σ 8) (by rw [hC]; exact i_su cC)
                  omega
                have hu0 : 0 ≤ u := by clear hX hM hG hcov q ih fr; grind
                have hu1 : u.toNatClampNeg < U := by
                  have hu7 : u < 7000 := by clear hX hM hG hcov q ih fr; grind
                  have := tn_s hu0 hu7
                  rw [f3, this] at hU2
                  omega
                have hpu := hX.2.1.2.2 u.toNatClampNeg hu1
                rw [← nI_tn hu0, f7] at hpu
                have hh : 0 ≤ xA σ 27 (nI u.toNatClampNeg) ∧ xA σ 27 (nI u.toNatClampNeg) < S := by
                  rw [← nI_tn hu0, f5]
                  exact ⟨cx.1.1, i_lt_le cx.1.2 (i_trans hb.2.2.1 hS)⟩
                rw [(fr.2.1 h14).1, (fr.2.1 h14).2.2.1 (by rw [h3]; decide)]
                by_cases hz : 0 ≤ tg σ k u.toNatClampNeg
                · obtain ⟨g, -, -, g3, -⟩ := hpu.1 hz
                  rw [g3]
                  exact ⟨fun w => absurd w (by decide), Or.inr rfl⟩
                · have hneg : tg σ k u.toNatClampNeg < 0 := by clear hX hM hG hcov q ih fr hpu; grind
                  obtain ⟨g3, g4⟩ := hpu.2 hneg
                  obtain ⟨x, x1, x2⟩ := tg_neg hDN hG hS6.2 hh hneg (hM.2.2.2.2.2.2.2.2.1 _ hu1)
                  rw [g3, g4]
                  exact ⟨fun _ => ⟨x, by omega, x2⟩, Or.inl rfl⟩
              · rcases f2 with ⟨_, w, _⟩ | ⟨_, w, _⟩ | ⟨_, w⟩ <;> rw [w] at h3 <;> exact absurd h3 (by decide)
            · rw [hq.2.2.1] at h3; exact absurd h3 (by decide)
            · rw [hq.2.2.1] at h3; exact absurd h3 (by decide)
            · rw [hq.2.2.1] at h3; exact absurd h3 (by decide)
            · rw [hq.2.2.1] at h3; exact absurd h3 (by decide)
            · rw [hq.2.2.2.1] at h3; exact absurd h3 (by decide)
            · rw [hq.2.2.2.1] at h3; exact absurd h3 (by decide)
          · rw [q.2.2.1] at h3; exact absurd h3 (by decide)
          · obtain ⟨d1, d2, c1, d3, d4, d5, d6⟩ := q
            rcases d6 with ⟨f1, f2, -⟩ | ⟨f1, f2, -⟩
            · rw [f2] at h3; exact absurd h3 (by decide)
            · rcases f2 with ⟨_, w, _⟩ | ⟨_, w⟩ <;> rw [w] at h3 <;> exact absurd h3 (by decide)
          · rw [q.1] at h3; exact absurd h3 (by decide)
        refine ⟨⟨c0, c6⟩, hk2.1, fun w => ?_, fun w => ?_, fun w => ?_⟩
        · rcases hk2.2 with z | z <;> rw [z] at w <;> exact absurd w (by decide)
        · rcases hk2.2 with z | z <;> rw [z] at w <;> exact absurd w (by decide)
        · rcases hk2.2 with z | z <;> rw [z] at w <;> exact absurd w (by decide)
      · obtain ⟨t13, -, -, t16, -⟩ := hX.fr c0 cC h14 h3
        rcases hK with ⟨k1, k2⟩ | ⟨l, cc, hch, k2, k3⟩
        · rw [t13]
          refine ⟨⟨c0, c6⟩, fun w => ?_, fun w => ?_, fun w => ?_, fun w => ?_⟩
          · rcases k2 with z | z | z | z | z <;> rw [z] at w <;> exact absurd w (by decide)
          · rcases k2 with z | z | z | z | z <;> rw [z] at w <;> exact absurd w (by decide)
          · rcases k2 with z | z | z | z | z <;> rw [z] at w <;> exact absurd w (by decide)
          · rcases k2 with z | z | z | z | z <;> rw [z] at w <;> exact absurd w (by decide)
        · have hch' := hch
          obtain ⟨⟨l1, l9⟩, c16, hcc⟩ := hch'
          have ccC : ∀ p, p < l → cc p < nI C := fun p hp => i_lt_le (hcc p hp).2.1 (i_le_of_lt cC)
          have h17c : ∀ p, p < l → xA τp 17 (cc p) = if p + 1 < l then cc (p + 1) else -1 := fun p hp => (h17 _ (hcc p hp).1 (ccC p hp)).trans (hcc p hp).2.2
          have hrow : ∀ P : Int32 → Prop, (∀ p, p < l → 0 < p → P (cc p)) → chA τp P 9 (xA τp 17 (cc 0)) := fun P hP => by
            rw [h17c 0 (by omega)]
            by_cases hl1 : 1 < l
            · rw [if_pos (by omega)]
              have := chA_mk (τ := τp) (P := P) (l := l - 1) (aa := fun p => cc (p + 1)) (fun p hp => by
                rw [h17c (p + 1) (by omega)]
                by_cases hp1 : p + 1 < l - 1
                · rw [if_pos hp1, if_pos (by omega)]
                · rw [if_neg hp1, if_neg (by omega)]) (fun p hp => hP (p + 1) (by omega) (by omega)) 9 0
              rw [if_pos (by omega)] at this
              exact this
            · rw [if_neg (by omega)]
              exact Or.inl rfl
          have hkid : ∀ p, p < l → (10 ≤ xA σ 13 (cc p) ∧ xA σ 13 (cc p) ≤ 13) → Rg τp F n (xA τp 16 (cc p)) := fun p hp hk => by
            have q0 := (hcc p hp).1
            have qC := ccC p hp
            obtain ⟨hK2, -⟩ := (hcov.1 (cc p) q0 (by rw [hC]; exact qC)).nk
            rcases hK2 with ⟨j1, j2⟩ | ⟨l', cc', hch2, j2, j3⟩
            · exfalso
              rcases j2 with z | z | z | z | z <;> rw [z] at hk <;> exact absurd hk (by decide)
            · have e16 := (hX.fr q0 qC (fun w => by rw [w] at hk; exact absurd hk (by decide)) (fun w => by rw [w] at hk; exact absurd hk (by decide))).2.2.2.1
              obtain ⟨⟨l1', l9'⟩, c16', hcc'⟩ := hch2
              rw [e16, c16']
              exact ih _ (hcc' 0 (by omega)).1 (i_lt_le (hcc' 0 (by omega)).2.1 (i_le_of_lt qC))
          rw [t13, t16, c16]
          refine ⟨⟨c0, c6⟩, fun w => ?_, fun w => ?_, fun w => ⟨ih _ (hcc 0 (by omega)).1 (ccC 0 (by omega)), hrow _ (fun p hp p0 => ?_)⟩, fun w => ⟨ih _ (hcc 0 (by omega)).1 (ccC 0 (by omega)), hrow _ (fun p hp p0 => ?_)⟩⟩
          · rw [w] at k2; exact absurd k2 (by decide)
          · exact chA_mk0 l1 h17c (fun p hp => ih _ (hcc p hp).1 (ccC p hp)) 9
          · have hk := hX.ck c0 cC w p l cc hch hp p0
            have q0 := (hcc p hp).1
            have qC := ccC p hp
            refine ⟨hkid p hp hk, fun w11 => ?_⟩
            obtain ⟨u1, u2, -⟩ := hX.fr q0 qC (fun w => by rw [w] at hk; exact absurd hk (by decide)) (fun w => by rw [w] at hk; exact absurd hk (by decide))
            rw [u1] at w11
            obtain ⟨-, -, y3, -⟩ := (hcov.1 (cc p) q0 (by rw [hC]; exact qC)).nk.2
            rw [u2 (by rw [w11]; decide)]
            exact ⟨(y3 w11).2.1, i_lt_le (y3 w11).2.2 hg4⟩
          · have hk := hX.bk c0 cC w p l cc hch hp p0
            refine ⟨hkid p hp (by rw [hk]; decide), fun w7 => ?_⟩
            rw [(hX.fr (hcc p hp).1 (ccC p hp) (by rw [hk]; decide) (by rw [hk]; decide)).1, hk] at w7
            exact absurd w7 (by decide)
