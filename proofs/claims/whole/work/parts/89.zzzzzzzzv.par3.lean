/-- what is seen in a scope is numbered before the next -/
theorem Vs.bs {σ ν τr τv : S5} {k U F : Nat} {S : Int32} {sc fs : Nat → Int32} {cf : Nat → Nat} (hL : LXc σ ν τr τv k U F S sc cf) (hG : GS σ k fs S) {f : Nat} {h s : Int32} (h0 : 0 ≤ h) (hs : h < s) (hsS : s ≤ S) : Bs σ sc cf f s (Vs σ τv S sc cf f h) := by
  intro x hv
  obtain ⟨y, ⟨m, a⟩, b, e⟩ := hv
  obtain ⟨s', i, j', ⟨k0, k1⟩, k2, k3, k4, rfl, k5⟩ := b
  have hS : S ≤ 630 := hL.1.2.1.2
  have k7 : s' < 700 := i_lt_le k1 (i_trans hS (by decide))
  have ed := div5 (i := i) k0 k7 (by omega)
  have em := m5_n (i := i) k0 k7 (by omega)
  rw [ed] at a
  have hle : s' ≤ h := Ich.le hG m h s' a (i_lt_le hs hsS) k0
  have hls : s' + 1 ≤ s := by clear hL hG a k5; grind
  have h1 := prM (w := wO σ (sc f)) hls
  rw [prI_s _ k0 (i_lt_le k7 (by decide))] at h1
  rw [e]
  unfold qn
  rw [em, ed]
  by_cases h22 : xA σ 22 s' = sc f
  · rw [if_pos h22, nI_clamp (by omega)]
    have hw : wO σ (sc f) s'.toNatClampNeg = j' := by
      unfold wO vC
      rw [xA_tn, if_pos h22, xA_tn, k2, nI_clamp (by omega)]
    omega
  · rw [if_neg h22]
    rcases k5 with w5 | ⟨w5, q, q1, q2⟩
    · exact absurd w5 h22
    · obtain ⟨q', a1, a2, a3⟩ := fx_ex (e := xA τv 5) (f := f) (cf f) ⟨q, q1, q2⟩
      rw [fx_at a2 (cf f) 0 (by omega) (by omega) (fun a _ b => a3 a b)]
      omega
/-- what is known of each let -/
theorem PX.lts {σ ν τr τv τu τp : S5} {k U F C : Nat} {S : Int32} {sc fs : Nat → Int32} {cf : Nat → Nat} (hX : PX σ ν τr τv τu τp k U F C S sc cf) (hA : AnX σ τr τv k U F S cf) (hG : GS σ k fs S) {c : Int32} (c0 : 0 ≤ c) (cC : c < nI C) (h7 : xA τp 13 c = 7) : ∃ f, f < F ∧ xA τp 15 c = nI f ∧ ∃ Sc lo hi, VS τp c Sc lo hi ∧ (∀ x, Sc x → x < lo) ∧ hi ≤ nvF σ S sc cf f := by
  obtain ⟨⟨hL0, hS6, hSe, hF6, hkF, hU⟩, hown, hsc, hnum, hrow, hbase, htg, hku, hkf, hcov, ⟨h80, hg4, hw3⟩, hroom⟩ := id hX.1
  have hC : gI σ 8 = nI C := hX.2.2.2.1
  have hC6 : C ≤ 6200 := hX.2.2.2.2
  obtain ⟨fr, -⟩ := hX.2.2.1.2.2.1 c c0 cC
  obtain ⟨hK, hNk⟩ := (hcov.1 c c0 (by rw [hC]; exact cC)).nk
  have h14 : ¬ xA σ 13 c = 14 := fun w => by
    obtain ⟨⟨s0, s1⟩, s2, s3, s4⟩ := hNk.2.2.2 w
    obtain ⟨f, f1, f2⟩ := hnum _ s0 s1
    rw [s2] at f2
    by_cases hc : cf f = 0
    · rw [((fr.2.2.2.2.2 w f f1 f2).1 hc).1] at h7
      exact absurd h7 (by decide)
    · obtain ⟨n0, g, z1, z2, z3, z4, z5⟩ := (fr.2.2.2.2.2 w f f1 f2).2 hc
      rw [z4] at h7
      exact absurd h7 (by decide)
  have nk : ¬ xA σ 13 c = 3 → xA σ 13 c = 7 := fun h3 => by
    rw [← (hX.fr c0 cC h14 h3).1]
    exact h7
  have key : ∀ {h s s' u u' a b t n : Int32}, s' ≤ S → TR σ ν h s s' u u' a b t n c → Cx σ ν h s u a t → xA σ 15 c = s → xA σ 22 s = xA σ 22 h → xA σ 13 c = 7 → ∃ f, f < F ∧ xA τp 15 c = nI f ∧ ∃ Sc lo hi, VS τp c Sc lo hi ∧ (∀ x, Sc x → x < lo) ∧ hi ≤ nvF σ S sc cf f := by
    intro h s s' u u' a b t n hS q cx e15 e22 hs7
    have hbd := q.un.1
    unfold Bd at hbd
    obtain ⟨b1, b2, b3, b4, -⟩ := hbd
    have hsS : s ≤ S := i_trans b3 hS
    obtain ⟨f, f1, f2⟩ := hnum h cx.1.1 (i_lt_le cx.1.2 hsS)
    have hU2 : u'.toNatClampNeg ≤ U := by
      have h1 := q.cu.2
      have h2 := cx.2.2.2.2.2
      have h4 := prM (w := w3 σ) (x := c + 1) (y := gI σ 8) (by rw [hC]; exact i_su cC)
      omega
    have hv := q.vs hX hA f1 cC hS hU2 f2 (by rw [← f2]; exact cx.2.1.2) _ (fun x w => w) (Vs.bs hX.1 hG cx.1.1 cx.1.2 hsS)
    refine ⟨f, f1, ?_, _, _, _, hv, fun x hx => Vs.bs hX.1 hG cx.1.1 cx.1.2 hsS x hx, Wf.le hS⟩
    rw [fr.2.2.1 hs7, e15, e22, f2]
    exact (hsc f f1).1.2.2.2
  rcases hcov.1 c c0 (by rw [hC]; exact cC) with ⟨h, s, s', u, u', a, b, t, n, hS, q, cx⟩ | ⟨v, j, s, s', u, u', a, b, t, n, ⟨j5, s7, b3, hS⟩, q, cx⟩ | ⟨h, j, s, s', u, u', a, b, t, n, ⟨s7, hS⟩, q, cx⟩ | ⟨h, s, s', u, u', n, b, t, ⟨s7, hS, hk⟩, q, cx⟩
  · rcases q.un.2 with hq | hq | hq | hq | hq | hq | hq
    · exfalso
      obtain ⟨e1, e2, e3, e4, e5, e6, e7⟩ := hq
      rcases e7 with ⟨f1, f2, f3, f4, f5, f6, f7⟩ | ⟨f1, f2⟩
      · have hb := q.un.1
        unfold Bd at hb
        have hU2 : u'.toNatClampNeg ≤ U := by
          have h1 := q.cu.2
          have h2 := cx.2.2.2.2.2
          have h4 := prM (w := w3 σ) (x := c + 1) (y := gI σ 8) (by rw [hC]; exact i_su cC)
          omega
        have hu0 : 0 ≤ u := by clear hX hA hG hcov q; grind
        have hu1 : u.toNatClampNeg < U := by
          have hu7 : u < 7000 := by clear hX hA hG hcov q; grind
          have := tn_s hu0 hu7
          rw [f3, this] at hU2
          omega
        have hpu := hX.2.1.2.2 u.toNatClampNeg hu1
        rw [← nI_tn hu0, f7] at hpu
        rw [(fr.2.1 h14).1] at h7
        by_cases hz : 0 ≤ tg σ k u.toNatClampNeg
        · obtain ⟨g, -, -, g3, -⟩ := hpu.1 hz
          rw [g3] at h7; exact absurd h7 (by decide)
        · rw [(hpu.2 (by clear hX hA hG hcov q fr hpu; grind)).1] at h7
          exact absurd h7 (by decide)
      · have h3 : ¬ xA σ 13 c = 3 := by rcases f2 with ⟨_, w, _⟩ | ⟨_, w, _⟩ | ⟨_, w⟩ <;> rw [w] <;> decide
        have := nk h3
        rcases f2 with ⟨_, w, _⟩ | ⟨_, w, _⟩ | ⟨_, w⟩ <;> rw [w] at this <;> exact absurd this (by decide)
    · have := nk (by rw [hq.2.2.1]; decide)
      rw [hq.2.2.1] at this; exact absurd this (by decide)
    · have := nk (by rw [hq.2.2.1]; decide)
      rw [hq.2.2.1] at this; exact absurd this (by decide)
    · have := nk (by rw [hq.2.2.1]; decide)
      rw [hq.2.2.1] at this; exact absurd this (by decide)
    · exact absurd hq.2.2.1 h14
    · exact key hS q cx hq.2.2.2.2.1 hq.2.2.2.2.2.2.1 hq.2.2.2.1
    · have := nk (by rw [hq.2.2.2.1]; decide)
      rw [hq.2.2.2.1] at this; exact absurd this (by decide)
  · have := nk (by rw [q.2.2.1]; decide)
    rw [q.2.2.1] at this; exact absurd this (by decide)
  · exfalso
    obtain ⟨d1, d2, c1, d3, d4, d5, d6⟩ := q
    have hk : xA σ 13 c = 11 ∨ xA σ 13 c = 12 ∨ xA σ 13 c = 13 := by
      rcases d6 with ⟨f1, f2, -⟩ | ⟨f1, f2, -⟩
      · exact Or.inl f2
      · rcases f2 with ⟨_, w, _⟩ | ⟨_, w⟩
        · exact Or.inr (Or.inl w)
        · exact Or.inr (Or.inr w)
    have := nk (by rcases hk with w | w | w <;> rw [w] <;> decide)
    rcases hk with w | w | w <;> rw [w] at this <;> exact absurd this (by decide)
  · exact absurd q.1 h14
