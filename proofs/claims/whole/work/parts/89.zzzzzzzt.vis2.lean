/-- what is wanted of a subtree -/
def PVs (σ τv τp : S5) (U C f : Nat) (S : Int32) (sc : Nat → Int32) (cf : Nat → Nat) (h s s' u u' a b t n c : Int32) : Prop := c < nI C → s' ≤ S → u'.toNatClampNeg ≤ U → xA σ 22 h = sc f → sc f < s → ∀ Sc : Nat → Prop, (∀ x, Vs σ τv S sc cf f h x → Sc x) → Bs σ sc cf f s Sc → VS τp c Sc (Wf σ sc cf f s) (Wf σ sc cf f s')
def HVs (σ ν τv τp : S5) (U C f : Nat) (S : Int32) (sc : Nat → Int32) (cf : Nat → Nat) (R : R10) : Prop := ∀ h s s' u u' a b t n c, R h s s' u u' a b t n c → TR σ ν h s s' u u' a b t n c ∧ PVs σ τv τp U C f S sc cf h s s' u u' a b t n c
theorem TFun.vs {σ ν τr τv τu τp : S5} {k U F C : Nat} {S : Int32} {sc : Nat → Int32} {cf : Nat → Nat} (hX : PX σ ν τr τv τu τp k U F C S sc cf) (hA : AnX σ τr τv k U F S cf) {f : Nat} (hf : f < F) {R : R10} {h s s' u u' n b t c : Int32} (q : TFun σ ν R h s s' u u' n b t c) (hc0 : 0 ≤ c) (hc6 : c < 6200) (hcC : c < nI C) (h0 : 0 ≤ h) (hs0 : 0 ≤ s) (hs : s < S) (hh : xA σ 22 h = sc f) {Sc : Nat → Prop} (hSc : ∀ x, Vs σ τv S sc cf f h x → Sc x) {lo hi : Nat} (hlh : lo = hi) : VS τp c Sc lo hi := by
  obtain ⟨hL, hPU, hPN, h8, hC⟩ := id hX
  obtain ⟨fr, fm⟩ := hPN.2.2.1 c hc0 hcC
  obtain ⟨e1, e2, e3, e4, e5, -⟩ := q
  obtain ⟨g, g1, g2, g3⟩ := hX.of hs0 hs e5
  have h21 : 0 ≤ xA σ 21 s := by rw [e4]; exact h0
  have q := fr.2.2.2.2.2 e1 g g1 (by rw [e2, g2])
  by_cases hz : cf g = 0
  · obtain ⟨q1, q2, q3⟩ := q.1 hz
    exact VS.fold (Or.inl ⟨⟨hlh, by rw [q1]; decide⟩, q3, fun w => by rw [q1] at w; exact absurd w (by decide)⟩)
  · obtain ⟨n0, g', ⟨q1, q2⟩, q3, q4, q5, q6, q7, q8, q9⟩ := q.2 hz
    have hc8 : cf g ≤ 8 := (hL.2.2.1 g g1).2.2.2.2.1
    rw [g2, e4, hh] at q4
    have eg := sc_inj hL q3 hf q4.symm
    subst eg
    have hn0' : n0 + cf g + 1 ≤ 6100 := by
      have w1 := hL.2.2.2.2.2.2.2.2.2.2.2
      rw [h8, nI_clamp (by omega)] at w1
      have w2 : pre (wlN σ τr cf) (c.toNatClampNeg + 1) ≤ prI (wlN σ τr cf) (nI C) := by
        have := prM (w := wlN σ τr cf) (x := c + 1) (y := nI C) (i_su hcC)
        unfold prI at this
        rw [tn_s hc0 (i_lt_le hc6 (by decide))] at this
        exact this
      omega
    refine VS.fold (Or.inr (Or.inl ⟨Or.inr (Or.inl q5), cf g + 1, fun p => nI (n0 + p), fun p => if p = 0 then lo else hi, by omega, by omega, ⟨q8, fun i hi => ⟨i_le0 (nI_nneg (by omega)), ?_⟩⟩, rfl, ⟨by show (if cf g + 1 = 0 then lo else hi) = hi; rw [if_neg (by omega)], ht_lt (fm.2.2 e1 g g1 (by rw [e2, g2]) hz n0 q8 (by omega)) (by rw [q5]; rfl) (fun i hi => by
      have eN : Nn τp (nI (n0 + i)) = 1 := by unfold Nn; rw [(q9 i (by omega)).2.2.2.2.2.1]; rfl
      exact ⟨⟨by omega, 1, (q9 i (by omega)).2.2.2.2.1, by omega⟩, by omega⟩), fun _ => q7, fun w => absurd (q5.symm.trans w) (by decide)⟩, fun i hi2 => VS.fold (Or.inl ⟨⟨?_, by rw [(q9 i (by omega)).1]; unfold kdp; split <;> decide⟩, (q9 i (by omega)).2.2.1, fun w => ?_⟩)⟩))
    · rw [(q9 i (by omega)).2.2.2.1]
      by_cases hi2 : i < cf g
      · rw [if_pos hi2, if_pos (by omega)]
        rfl
      · rw [if_neg hi2, if_neg (by omega)]
    · show (if i = 0 then lo else hi) = (if i + 1 = 0 then lo else hi)
      rw [if_neg (show ¬ i + 1 = 0 by omega)]
      split <;> omega
    · by_cases hi0 : i = 0
      · rw [(q9 i (by omega)).1] at w
        unfold kdp at w
        rw [if_pos hi0] at w
        exact absurd w (by decide)
      · have ev := (q9 i (by omega)).2.1
        unfold vlp at ev
        rw [if_neg hi0] at ev
        obtain ⟨g', k1, k2, k3⟩ := hL.2.2.2.2.2.2.2.2.1 g (i - 1) g1 (by rw [g2]; exact h21) (by omega)
        rw [g2, e4, hh] at k2
        have eg' := sc_inj hL k1 hf k2.symm
        rw [eg'] at k3
        refine ⟨_, ev, hSc _ ⟨_, ?_, k3, rfl⟩⟩
        have := hA.1 g (i - 1) g1 (by omega) s hs0 hs e5 g3
        rw [e4] at this
        exact this
/-- EVERY SUBTREE USES WHAT IT SEES -/
theorem TR.vs {σ ν τr τv τu τp : S5} {k0 U F C : Nat} {S : Int32} {sc : Nat → Int32} {cf : Nat → Nat} (hX : PX σ ν τr τv τu τp k0 U F C S sc cf) (hA : AnX σ τr τv k0 U F S cf) {f : Nat} (hf : f < F) {h s s' u u' a b t n c : Int32} (q : TR σ ν h s s' u u' a b t n c) : PVs σ τv τp U C f S sc cf h s s' u u' a b t n c := by
  refine TR.ind (P := fun h s s' u u' a b t n c => PVs σ τv τp U C f S sc cf h s s' u u' a b t n c) ?_ q
  clear q
  intro h s s' u u' a b t n c q hcC hS hU hh hfs Sc hSc hBs
  obtain ⟨hb, q⟩ := q
  unfold Bd at hb
  obtain ⟨b1, b2, b3, b4, b5, b6, b7, b8, b9, b10, b11, b12, b13, b14⟩ := hb
  have hL := hX.1
  have hc0 : 0 ≤ c := i_trans b12 b13
  have hs0 : 0 ≤ s := i_trans b1 (i_le_of_lt b2)
  have hcQ : c < gI τp 8 := by
    have w1 := hL.2.2.2.2.2.2.2.2.2.2.2
    have hC6 := hX.2.2.2.2
    rw [hX.2.2.2.1, nI_clamp (by omega)] at w1
    unfold prI at w1
    rw [nI_clamp (by omega)] at w1
    rw [hX.2.2.1.2.1]
    exact i_lt_le hcC ((nI_le31 (by omega) (by omega)).mpr (by omega))
  have h17 : ∀ x, 0 ≤ x → x < nI C → xA τp 17 x = xA σ 17 x := fun x x0 x1 => (hX.2.2.1.2.2.1 x x0 x1).1.1
  have fr := @PX.fr σ ν τr τv τu τp k0 U F C S sc cf hX c hc0 hcC
  have hg2 : ∀ x, xA τp 2 x = xA σ 2 x := fun x => by
    rw [hX.2.2.1.1.x 2 _ (by omega), hX.2.1.1.x 2 _ (by decide) (by decide)]
    exact hL.2.2.2.2.1.1 2 x (Or.inl rfl)
  rcases q with q | q | q | q | q | q | q
  · obtain ⟨e1, e2, e3, e4, e5, e6, e7⟩ := q
    rcases e7 with ⟨f1, f2, f3, f4, f5, f6, f7⟩ | ⟨f1, f2⟩
    · have hu7 : u < 7000 := by clear hX fr hA hSc; grind
      have hu1 : u.toNatClampNeg < U := by
        have := tn_s b5 hu7
        rw [f3, this] at hU
        omega
      have eu : u = nI u.toNatClampNeg := nI_tn b5
      have hpu := hX.2.1.2.2 u.toNatClampNeg hu1
      rw [← eu, f5, f7] at hpu
      obtain ⟨fr, fm⟩ := hX.2.2.1.2.2.1 c hc0 hcC
      have t13 := (fr.2.1 (by rw [f2]; decide)).1
      have t14 := (fr.2.1 (by rw [f2]; decide)).2.2.1 (by rw [f2]; decide)
      have hle : xA τp 13 c ≤ 4 := by
        rw [t13]
        by_cases hz : 0 ≤ tg σ k0 u.toNatClampNeg
        · obtain ⟨g, -, -, g3, -⟩ := hpu.1 hz
          rw [g3]; decide
        · rw [(hpu.2 (by clear hX fr fm hpu hA hSc; grind)).1]; decide
      refine VS.fold (Or.inl ⟨⟨by rw [e1], hle⟩, (fr.2.1 (by rw [f2]; decide)).2.1.trans e5, fun w => ?_⟩)
      by_cases hz : 0 ≤ tg σ k0 u.toNatClampNeg
      · obtain ⟨g, g1, g2, g3, g4⟩ := hpu.1 hz
        obtain ⟨g', k1, k2, hK⟩ := hL.2.2.2.2.2.2.2.1 u.toNatClampNeg hu1 hz
        rw [← eu, f5] at k2
        have eg : g = f := sc_inj hL g1 hf (by rw [← g2, hh])
        have eg' : g' = f := sc_inj hL k1 hf (by rw [← k2, hh])
        subst eg
        rw [eg'] at hK
        have han := hA.2 u.toNatClampNeg hu1 hz
        rw [← eu, f5] at han
        exact ⟨_, t14.trans g4, hSc _ ⟨_, han, hK, rfl⟩⟩
      · rw [t13, (hpu.2 (by clear hX fr fm hpu hA hSc; grind)).1] at w
        exact absurd w (by decide)
    · have h3 : ¬ xA σ 13 c = 3 := by rcases f2 with ⟨_, w, _⟩ | ⟨_, w, _⟩ | ⟨_, w⟩ <;> rw [w] <;> decide
      have h14 : ¬ xA σ 13 c = 14 := by rcases f2 with ⟨_, w, _⟩ | ⟨_, w, _⟩ | ⟨_, w⟩ <;> rw [w] <;> decide
      obtain ⟨t13, -, -, t16, -⟩ := fr h14 h3
      exact VS.fold (Or.inl ⟨⟨by rw [e1], by rw [t13]; rcases f2 with ⟨_, w, _⟩ | ⟨_, w, _⟩ | ⟨_, w⟩ <;> rw [w] <;> decide⟩, t16.trans e5, fun w => absurd (t13.symm.trans w) h3⟩)
  · obtain ⟨e1, e2, e3, e4, e5, c1, c2, s1, u1, e6, e7, e8, e9, e10, e11, e12, e13⟩ := q
    unfold Wi at e7 e9
    have kC1 : c1 < nI C := by clear e6 e8 hX fr hA hSc; grind
    have kC2 : c2 < nI C := by clear e6 e8 hX fr hA hSc; grind
    have k01 : 0 ≤ c1 := by clear e6 e8 hX fr hA hSc; grind
    have k02 : 0 ≤ c2 := by clear e6 e8 hX fr hA hSc; grind
    obtain ⟨t13, -, -, t16, -⟩ := fr (by rw [e3]; decide) (by rw [e3]; decide)
    have G1 := e6.2 kC1 (i_trans e7.2.2.1 hS) (Nat.le_trans (tn_mono e7.2.2.2.2.2.1) hU) hh hfs Sc hSc hBs
    have G2 := e8.2 kC2 hS hU hh (i_lt_le hfs e9.1) Sc hSc (hBs.le e9.1)
    refine VS.fold (Or.inr (Or.inl ⟨Or.inl (t13.trans e3), 2, fun p => if p = 0 then c1 else c2, fun p => if p = 0 then Wf σ sc cf f s else if p = 1 then Wf σ sc cf f s1 else Wf σ sc cf f s', by omega, by omega, ⟨t16.trans e11, fun i hi => ?_⟩, rfl, ⟨rfl, (hX.ht hc0 hcC (l := 2) (cc := fun p => if p = 0 then c1 else c2) ⟨by omega, e11, fun p hp => by
      have hp : p = 0 ∨ p = 1 := by omega
      rcases hp with rfl | rfl
      · exact ⟨k01, by show c1 < c; clear e6 e8 hX fr hA hSc; grind, e12⟩
      · exact ⟨k02, by show c2 < c; clear e6 e8 hX fr hA hSc; grind, e13⟩⟩ (by rw [e3]; decide) (by rw [e3]; decide)).1 (by rw [e3]; rfl), fun w => absurd ((t13.trans e3).symm.trans w) (by decide), fun _ => rfl⟩, fun i hi => ?_⟩))
    · have hi : i = 0 ∨ i = 1 := by omega
      rcases hi with rfl | rfl
      · exact ⟨k01, (h17 c1 k01 kC1).trans e12⟩
      · exact ⟨k02, (h17 c2 k02 kC2).trans e13⟩
    · have hi : i = 0 ∨ i = 1 := by omega
      rcases hi with rfl | rfl
      · exact G1
      · exact G2
  · obtain ⟨e1, e2, e3, k, e4, e5, e6, e7⟩ := q
    obtain ⟨g, cc, fs, fu, fn, ft, p1, p2, p3, p4, p5, p6, ⟨p7, p7'⟩, p8, p9, hi⟩ := e7
    obtain ⟨t13, -, t15, t16, -⟩ := fr (by rw [e3]; decide) (by rw [e3]; decide)
    refine VS.fold (Or.inr (Or.inl ⟨Or.inr (Or.inl (t13.trans e3)), k, cc, fun i => Wf σ sc cf f (fs i), by omega, by omega, ⟨t16.trans p9.symm, fun i hik => ?_⟩, by show Wf σ sc cf f (fs 0) = _; rw [p1], ⟨by show Wf σ sc cf f (fs k) = _; rw [p2], (hX.ht hc0 hcC (l := k) (cc := cc) ⟨by omega, p9.symm, fun p hp => by
      obtain ⟨d1, d2, d3, d4, d5, d6, d7, d8, d9⟩ := hi p hp
      unfold Wi at d2
      exact ⟨by clear hi d1 hX fr hA hSc; grind, by clear hi d1 hX fr hA hSc; grind, d7⟩⟩ (by rw [e3]; decide) (by rw [e3]; decide)).1 (by rw [e3]; rfl), fun _ => (t15 (by rw [e3]; decide) (by rw [e3]; decide)).trans e6, fun w => absurd ((t13.trans e3).symm.trans w) (by decide)⟩, fun i hik => ?_⟩))
    · obtain ⟨d1, d2, d3, d4, d5, d6, d7, d8, d9⟩ := hi i hik
      unfold Wi at d2
      have k0 : 0 ≤ cc i := by clear hi d1 hX fr hA hSc; grind
      have kC : cc i < nI C := by clear hi d1 hX fr hA hSc; grind
      exact ⟨k0, (h17 _ k0 kC).trans d7⟩
    · obtain ⟨d1, d2, d3, d4, d5, d6, d7, d8, d9⟩ := hi i hik
      unfold Wi at d2
      exact d1.2 (by clear hi d1 hX fr hA hSc; grind) (i_trans d2.2.2.1 hS) (Nat.le_trans (tn_mono d2.2.2.2.2.2.1) hU) hh (i_lt_le hfs d2.1) Sc hSc (hBs.le d2.1)
  · obtain ⟨e1, e2, e3, e4, e5, e6, e7, k, e8, e9, e10, e11⟩ := q
    obtain ⟨g, cc, fs, fu, fn, ft, p1, p2, p3, p4, p5, p6, ⟨p7, p7'⟩, p8, p9, hi⟩ := e11
    obtain ⟨t13, -, -, t16, -⟩ := fr (by rw [e3]; decide) (by rw [e3]; decide)
    refine VS.fold (Or.inr (Or.inl ⟨Or.inr (Or.inr (t13.trans e3)), k, cc, fun i => Wf σ sc cf f (fs i), by omega, by omega, ⟨t16.trans p9.symm, fun i hik => ?_⟩, by show Wf σ sc cf f (fs 0) = _; rw [p1], ⟨by show Wf σ sc cf f (fs k) = _; rw [p2], (hX.ht hc0 hcC (l := k) (cc := cc) ⟨by omega, p9.symm, fun p hp => by
      obtain ⟨d1, d2, d3, d4, d5, d6, d7, d8, d9⟩ := hi p hp
      unfold Wi at d2
      exact ⟨by clear hi d1 hX fr hA hSc; grind, by clear hi d1 hX fr hA hSc; grind, d7⟩⟩ (by rw [e3]; decide) (by rw [e3]; decide)).1 (by rw [e3]; rfl), fun w => absurd ((t13.trans e3).symm.trans w) (by decide), fun w => absurd ((t13.trans e3).symm.trans w) (by decide)⟩, fun i hik => ?_⟩))
    · obtain ⟨d1, d2, d3, d4, d5, d6, d7, d8, d9⟩ := hi i hik
      unfold Wi at d2
      have k0 : 0 ≤ cc i := by clear hi d1 hX fr hA hSc; grind
      have kC : cc i < nI C := by clear hi d1 hX fr hA hSc; grind
      exact ⟨k0, (h17 _ k0 kC).trans d7⟩
    · obtain ⟨d1, d2, d3, d4, d5, d6, d7, d8, d9⟩ := hi i hik
      unfold Wi at d2
      exact d1.2 (by clear hi d1 hX fr hA hSc; grind) (i_trans d2.2.2.1 hS) (Nat.le_trans (tn_mono d2.2.2.2.2.2.1) hU) hh (i_lt_le hfs d2.1) Sc hSc (hBs.le d2.1)
  · exact q.2.2.vs hX hA hf hc0 b14 hcC b1 hs0 (su_lt q.2.2.2.2.2.2.2.2.2.2.1 b3 b4 hS) hh hSc (by unfold Wf; rw [(TFun_mono (fun _ _ _ _ _ _ _ _ _ _ r => r.1) q.2.2).w0 hs0 b4 b3 hfs])
  · obtain ⟨e1, e2, e3, e4, e5, e6, e7, e8, k, s1, u1, a1, t1, c0, e9, e10, e11, e12, e13, e14, e15, e16, e17, e18, e19, e20⟩ := q
    unfold Wi at e20
    obtain ⟨v1, v2, v3, v4, v5, v6, v7, v8, v9, v10, v11, v12⟩ := e20
    have sS : s < S := su_lt e8 b3 b4 hS
    have h22 : xA σ 22 s = sc f := e7.trans hh
    obtain ⟨x0, x1, x2, x3⟩ : ∃ x0, xA τv 25 s = nI x0 ∧ x0 ≤ 4000 ∧ x0 = cf f + prI (wO σ (sc f)) s := by
      refine ⟨_, hL.2.2.2.2.2.1 f s hf hs0 sS h22, ?_, rfl⟩
      have h1 := nvF_le hL hf
      have h2 := prM (w := wO σ (sc f)) (i_le_of_lt sS)
      unfold nvF at h1
      omega
    have hSs := Vs.sub hL hs0 sS h22 e6 e11 e10 x1 x2 hf hSc
    have hx0 : x0 = Wf σ sc cf f s := x3
    have hBs1 := hBs.sub hs0 (i_lt_le sS (i_trans hL.1.2.1.2 (by decide))) h22 e11 e10 x3
    have hBx : ∀ y, Sc y → y < x0 := fun y hy => by have := hBs y hy; omega
    have hWs := Wf.su (cf := cf) hs0 (i_lt_le sS (i_trans hL.1.2.1.2 (by decide))) h22 e11 e10
    subst hx0
    obtain ⟨g, bb, fs, fu, fn, ft, p1, p2, p3, p4, p5, p6, ⟨p7, p7'⟩, p8, p9, hi⟩ := e14
    have kC0 : c0 < nI C := by clear e19 hi hX fr hA hSc hSs; grind
    have k00 : 0 ≤ c0 := by clear e19 hi hX fr hA hSc hSs; grind
    have hch : CHn σ c (k + 1) (fun p => if p = 0 then c0 else bb (p - 1)) := ⟨by omega, e12, fun p hp => by
      by_cases hp0 : p = 0
      · subst hp0
        exact ⟨k00, by show c0 < c; clear e19 hSs hBs hBs1 hBx hi hX fr hA hSc; grind, by show xA σ 17 c0 = if 0 + 1 < k + 1 then bb 0 else -1; rw [if_pos (by omega)]; exact p9.symm⟩
      · obtain ⟨e, rfl⟩ : ∃ e, p = e + 1 := ⟨p - 1, by omega⟩
        obtain ⟨d1, d2, d3, d4, d5, d6, d7, d8, d9⟩ := hi e (by omega)
        unfold Wi at d2
        refine ⟨by show 0 ≤ bb e; clear e19 hSs hBs hBs1 hBx hi d1 hX fr hA hSc; grind, by show bb e < c; clear e19 hSs hBs hBs1 hBx hi d1 hX fr hA hSc; grind, ?_⟩
        show xA σ 17 (bb e) = if e + 1 + 1 < k + 1 then bb (e + 1) else -1
        rw [d7]
        by_cases hek : e + 1 < k
        · rw [if_pos hek, if_pos (by omega)]
        · rw [if_neg hek, if_neg (by omega)]⟩
    have hht := (hX.ht hc0 hcC hch (by rw [e4]; decide) (by rw [e4]; decide)).1 (by rw [e4]; rfl)
    have hh0 : hF τp c0 < hF τp c := hht 0 (by omega)
    have hhb : ∀ i, i < k → hF τp (xA τp 16 (bb i)) < hF τp c := fun i hik => by
      have h1 : hF τp (bb i) < hF τp c := hht (i + 1) (by omega)
      obtain ⟨d1, d2, d3, d4, d5, d6, d7, d8, d9⟩ := hi i hik
      unfold Wi at d2
      have kb0 : 0 ≤ bb i := by clear e19 hSs hBs hBs1 hBx hi d1 hX fr hA hSc; grind
      have kbC : bb i < nI C := by clear e19 hSs hBs hBs1 hBx hi d1 hX fr hA hSc; grind
      obtain ⟨f1, f2, f3, f4, f5, c1, f6, f7, f8, f9⟩ := d1
      have kc0 : 0 ≤ c1 := by
        rcases f9 with ⟨g1, g2, g3⟩ | g1
        · exact g2.1.c.1
        · obtain ⟨g1, g2, g3, g4, g5, g6, g7, g8, g9, c9, g10, g11, g12, g13, g14⟩ := g1
          have := g12.1.c
          clear e19 hSs hBs hBs1 hBx hi hX fr hA hSc g12
          grind
      have kd : xA σ 13 (bb i) = 10 ∨ xA σ 13 (bb i) = 11 ∨ xA σ 13 (bb i) = 12 ∨ xA σ 13 (bb i) = 13 := Or.inl f3
      have hk5 : 5 ≤ xA σ 13 (bb i) := by rcases kd with w | w | w | w <;> rw [w] <;> decide
      have hk13 : xA σ 13 (bb i) ≤ 13 := by rcases kd with w | w | w | w <;> rw [w] <;> decide
      obtain ⟨-, -, -, tb16, -⟩ := hX.fr kb0 kbC (by rcases kd with w | w | w | w <;> rw [w] <;> decide) (by rcases kd with w | w | w | w <;> rw [w] <;> decide)
      have h2 := (hX.ht kb0 kbC (l := 1) (cc := fun _ => c1) ⟨by omega, f6, fun p hp => ⟨kc0, by show c1 < bb i; clear e19 hSs hBs hBs1 hBx hi hX fr hA hSc; grind, by rw [if_neg (by omega)]; exact f7⟩⟩ hk5 hk13).2 (by rcases kd with w | w | w | w <;> rw [w] <;> rfl) rfl
      rw [tb16, f6, ← h2]
      exact h1
    obtain ⟨t13, -, -, t16, -⟩ := fr (by rw [e4]; decide) (by rw [e4]; decide)
    have ec : xA τp 16 c = c0 := t16.trans e12
    refine VS.fold (Or.inr (Or.inr (Or.inl ⟨t13.trans e4, k, bb, fun i => Wf σ sc cf f (fs i), e9, e10, ⟨x2, hBx, hcQ⟩, by rw [ec, h17 c0 k00 kC0, p9], fun i hik => ?_, ⟨by show Wf σ sc cf f (fs 0) = _; rw [p1]; exact hWs, by rw [ec]; exact hh0, hhb⟩, by rw [ec]; show VS τp c0 _ (Wf σ sc cf f (fs k)) _; rw [p2]; exact e19.2 kC0 hS hU h22 (i_lt_le hfs v1) _ hSs (hBs1.le e15), fun i hik => ?_⟩)))
    · obtain ⟨⟨f1, f2, f3, f4, -⟩, d2, d3, d4, d5, d6, d7, d8, d9⟩ := hi i hik
      unfold Wi at d2
      have kb0 : 0 ≤ bb i := by clear hi e19 hX fr hA hSc hSs; grind
      have kbC : bb i < nI C := by clear hi e19 hX fr hA hSc hSs; grind
      obtain ⟨frb, -⟩ := hX.2.2.1.2.2.1 (bb i) kb0 kbC
      refine ⟨⟨kb0, i_lt_le kbC ((nI_le31 (b := 6200) (by have := hX.2.2.2.2; omega) (by omega)).mpr hX.2.2.2.2)⟩, ?_, (h17 _ kb0 kbC).trans d7⟩
      rw [frb.2.2.2.1 f3 s i hs0 sS (by omega) f4, x1, nI_plus]
    · obtain ⟨d1, d2, d3, d4, d5, d6, d7, d8, d9⟩ := hi i hik
      unfold Wi at d2
      obtain ⟨w1, w2, w3, w4, w5, w6, w7, w8, w9, w10, w11, w12⟩ := d2
      obtain ⟨f1, f2, f3, f4, f5, c1, f6, f7, f8, f9⟩ := d1
      clear hi
      have kb0 : 0 ≤ bb i := by clear f9 e19 hX fr hA hSc hSs; grind
      have kbC : bb i < nI C := by clear f9 e19 hX fr hA hSc hSs; grind
      have kb6 : bb i < 6200 := by clear f9 e19 hX fr hA hSc hSs; grind
      obtain ⟨-, -, -, tb16, -⟩ := hX.fr kb0 kbC (by rw [f3]; decide) (by rw [f3]; decide)
      rw [tb16, f6]
      have y4 : fs (i + 1) ≤ S := i_trans (i_trans w3 v2) hS
      have y5 : fs (i + 1) ≤ 700 := i_trans (i_trans w3 v2) b4
      have y6 : (fu (i + 1)).toNatClampNeg ≤ U := Nat.le_trans (tn_mono (i_trans w6 v5)) hU
      have y7 : 0 ≤ fs i := by clear f9 e19 hX fr hA hSc hSs; grind
      have hfi : sc f < fs i := by clear f9 e19 hX fr hA hSc hSs; grind
      rcases f9 with ⟨g1, g2, g3⟩ | g1
      · unfold Wi at g3
        exact g2.2 (by clear g2 e19 hX fr hA hSc hSs; grind) y4 y6 h22 hfi _ hSs (hBs1.le w1)
      · have k4 : 0 ≤ c1 := by
          obtain ⟨g1, g2, g3, g4, g5, g6, g7, g8, g9, c9, g10, g11, g12, g13, g14⟩ := g1
          unfold Wi at g13
          clear e19 hX fr hA hSc hSs g12
          grind
        have hss := g1.2.2.2.2.2.2.2.2.1
        exact g1.vs hX hA hf k4 (by clear g1 e19 hX fr hA hSc hSs; grind) (by clear g1 e19 hX fr hA hSc hSs; grind) hs0 y7 (su_lt hss w2 y5 y4) h22 hSs (by show Wf σ sc cf f (fs i) = Wf σ sc cf f (fs (i + 1)); unfold Wf; rw [(TFun_mono (fun _ _ _ _ _ _ _ _ _ _ r => r.1) g1).w0 y7 y5 w2 hfi])
  · obtain ⟨e1, e2, e3, e4, k, s1, u1, a1, c0, e9, e10, e11, e12, e13, e14, e15, e16, e17⟩ := q
    unfold Wi at e13
    obtain ⟨v1, v2, v3, v4, v5, v6, v7, v8, v9, v10, v11, v12⟩ := e13
    obtain ⟨g, bb, fs, fu, fn, ft, p1, p2, p3, p4, p5, p6, ⟨p7, p7'⟩, p8, p9, hi⟩ := e14
    have kC0 : c0 < nI C := by clear e12 hi hX fr hA hSc; grind
    have k00 : 0 ≤ c0 := by clear e12 hi hX fr hA hSc; grind
    have hch : CHn σ c (k + 1) (fun p => if p = 0 then c0 else bb (p - 1)) := ⟨by omega, e11, fun p hp => by
      by_cases hp0 : p = 0
      · subst hp0
        exact ⟨k00, by show c0 < c; clear e12 hBs hi hX fr hA hSc; grind, by show xA σ 17 c0 = if 0 + 1 < k + 1 then bb 0 else -1; rw [if_pos (by omega)]; exact p9.symm⟩
      · obtain ⟨e, rfl⟩ : ∃ e, p = e + 1 := ⟨p - 1, by omega⟩
        obtain ⟨d1, d2, d3, d4, d5, d6, d7, d8, d9⟩ := hi e (by omega)
        unfold Wi at d2
        refine ⟨by show 0 ≤ bb e; clear e12 hBs hi d1 hX fr hA hSc; grind, by show bb e < c; clear e12 hBs hi d1 hX fr hA hSc; grind, ?_⟩
        show xA σ 17 (bb e) = if e + 1 + 1 < k + 1 then bb (e + 1) else -1
        rw [d7]
        by_cases hek : e + 1 < k
        · rw [if_pos hek, if_pos (by omega)]
        · rw [if_neg hek, if_neg (by omega)]⟩
    have hht := (hX.ht hc0 hcC hch (by rw [e4]; decide) (by rw [e4]; decide)).1 (by rw [e4]; rfl)
    have hh0 : hF τp c0 < hF τp c := hht 0 (by omega)
    have hhb : ∀ i, i < k → hF τp (xA τp 16 (bb i)) < hF τp c := fun i hik => by
      have h1 : hF τp (bb i) < hF τp c := hht (i + 1) (by omega)
      obtain ⟨d1, d2, d3, d4, d5, d6, d7, d8, d9⟩ := hi i hik
      unfold Wi at d2
      have kb0 : 0 ≤ bb i := by clear e12 hBs hi d1 hX fr hA hSc; grind
      have kbC : bb i < nI C := by clear e12 hBs hi d1 hX fr hA hSc; grind
      obtain ⟨f1, f2, c1, f6, f7, f8, f9⟩ := d1
      have hq : 0 ≤ c1 ∧ (xA σ 13 (bb i) = 10 ∨ xA σ 13 (bb i) = 11 ∨ xA σ 13 (bb i) = 12 ∨ xA σ 13 (bb i) = 13) := by
        rcases f9 with ⟨g1, g2, g3, g4, g5, g6, g7, g8, g9, g10, g11, g12, g13⟩ | ⟨g1, g2, g3, g4⟩
        · exact ⟨g12.1.c.1, Or.inr (Or.inl g2)⟩
        · refine ⟨g3.1.c.1, ?_⟩
          rcases g2 with ⟨_, w, _⟩ | ⟨_, w⟩
          · exact Or.inr (Or.inr (Or.inl w))
          · exact Or.inr (Or.inr (Or.inr w))
      obtain ⟨kc0, kd⟩ := hq
      have hk5 : 5 ≤ xA σ 13 (bb i) := by rcases kd with w | w | w | w <;> rw [w] <;> decide
      have hk13 : xA σ 13 (bb i) ≤ 13 := by rcases kd with w | w | w | w <;> rw [w] <;> decide
      obtain ⟨-, -, -, tb16, -⟩ := hX.fr kb0 kbC (by rcases kd with w | w | w | w <;> rw [w] <;> decide) (by rcases kd with w | w | w | w <;> rw [w] <;> decide)
      have h2 := (hX.ht kb0 kbC (l := 1) (cc := fun _ => c1) ⟨by omega, f6, fun p hp => ⟨kc0, by show c1 < bb i; clear e12 hBs hi hX fr hA hSc; grind, by rw [if_neg (by omega)]; exact f7⟩⟩ hk5 hk13).2 (by rcases kd with w | w | w | w <;> rw [w] <;> rfl) rfl
      rw [tb16, f6, ← h2]
      exact h1
    obtain ⟨t13, -, -, t16, -⟩ := fr (by rw [e4]; decide) (by rw [e4]; decide)
    have ec : xA τp 16 c = c0 := t16.trans e11
    refine VS.fold (Or.inr (Or.inr (Or.inr ⟨t13.trans e4, k, bb, fun i => Wf σ sc cf f (fs i), e9, e10, by rw [ec, h17 c0 k00 kC0, p9], by rw [ec]; show VS τp c0 _ _ (Wf σ sc cf f (fs 0)); rw [p1]; exact e12.2 kC0 (i_trans v3 hS) (Nat.le_trans (tn_mono v6) hU) hh hfs Sc hSc hBs, ⟨by show Wf σ sc cf f (fs k) = _; rw [p2], by rw [ec]; exact hh0, hhb⟩, fun i hik => ?_⟩)))
    obtain ⟨d1, d2, d3, d4, d5, d6, d7, d8, d9⟩ := hi i hik
    unfold Wi at d2
    obtain ⟨w1, w2, w3, w4, w5, w6, w7, w8, w9, w10, w11, w12⟩ := d2
    obtain ⟨f1, f2, c1, f6, f7, f8, f9⟩ := d1
    clear hi
    have kb0 : 0 ≤ bb i := by clear f9 e12 hX fr hA hSc; grind
    have kbC : bb i < nI C := by clear f9 e12 hX fr hA hSc; grind
    have y4 : fs (i + 1) ≤ S := i_trans w3 hS
    have y5 : fs (i + 1) ≤ 700 := i_trans w3 b4
    have y6 : (fu (i + 1)).toNatClampNeg ≤ U := Nat.le_trans (tn_mono w6) hU
    have y7 : 0 ≤ fs i := by clear f9 e12 hX fr hA hSc; grind
    have hfi : sc f < fs i := i_lt_le hfs (i_trans v2 w1)
    obtain ⟨frb, -⟩ := hX.2.2.1.2.2.1 (bb i) kb0 kbC
    refine ⟨⟨⟨kb0, i_lt_le kbC ((nI_le31 (b := 6200) (by have := hX.2.2.2.2; omega) (by omega)).mpr hX.2.2.2.2)⟩, (h17 _ kb0 kbC).trans d7⟩, ?_⟩
    rcases f9 with ⟨g1, g2, g3, g4, g5, g6, g7, g8, g9, g10, g11, g12, g13⟩ | ⟨g1, g2, g3, g4⟩
    · unfold Wi at g13
      obtain ⟨tb13, tb14, -, tb16, -⟩ := hX.fr kb0 kbC (by rw [g2]; decide) (by rw [g2]; decide)
      have sS : fs i < S := su_lt g11 w2 y5 y4
      have h22 : xA σ 22 (fs i) = sc f := g9.trans hh
      have hj0 : 0 ≤ xA ν 10 (g i) := g10.2.1
      have hj5 : (xA ν 10 (g i)).toNatClampNeg ≤ 5 := by
        have := tn_mono g10.2.2.1
        exact this
      have ej : xA ν 10 (g i) = nI (xA ν 10 (g i)).toNatClampNeg := nI_tn hj0
      obtain ⟨x0, x1, x2, x3⟩ : ∃ x0, xA τv 25 (fs i) = nI x0 ∧ x0 ≤ 4000 ∧ x0 = cf f + prI (wO σ (sc f)) (fs i) := by
        refine ⟨_, hL.2.2.2.2.2.1 f (fs i) hf y7 sS h22, ?_, rfl⟩
        have h1 := nvF_le hL hf
        have h2 := prM (w := wO σ (sc f)) (i_le_of_lt sS)
        unfold nvF at h1
        omega
      have hSs := Vs.sub hL y7 sS h22 g8 (g10.1.trans ej) hj5 x1 x2 hf hSc
      have hx0 : x0 = Wf σ sc cf f (fs i) := x3
      have hBi := hBs.le (i_trans v2 w1)
      have hBs1 := hBi.sub y7 (i_lt_le sS (i_trans hL.1.2.1.2 (by decide))) h22 (g10.1.trans ej) hj5 x3
      have hBx : ∀ y, Sc y → y < x0 := fun y hy => by have := hBi y hy; omega
      have hWs := Wf.su (cf := cf) y7 (i_lt_le sS (i_trans hL.1.2.1.2 (by decide))) h22 (g10.1.trans ej) hj5
      subst hx0
      refine Or.inl ⟨tb13.trans g2, _, hj5, ⟨x2, hBx⟩, ?_, ?_, ?_⟩
      · rw [tb14 (by rw [g2]; decide), hg2, g6]
        exact ej
      · rw [frb.2.2.2.2.1 g2, g7, x1]
      · rw [tb16, f6, ← hWs]
        exact g12.2 (by clear g12 e12 hX fr hA hSc hSs; grind) y4 y6 h22 (by clear g12 e12 hX fr hA hSc hSs; grind) _ hSs hBs1
    · unfold Wi at g4
      have n11 : ¬ xA σ 13 (bb i) = 11 ∧ ¬ xA σ 13 (bb i) = 14 ∧ ¬ xA σ 13 (bb i) = 3 := by rcases g2 with ⟨_, w, _⟩ | ⟨_, w⟩ <;> rw [w] <;> decide
      obtain ⟨tb13, tb14, -, tb16, -⟩ := hX.fr kb0 kbC n11.2.1 n11.2.2
      refine Or.inr ⟨by rw [tb13]; exact n11.1, ?_⟩
      rw [tb16, f6]
      exact g3.2 (by clear g3 e12 hX fr hA hSc; grind) y4 y6 hh hfi Sc hSc (hBs.le (i_trans v2 w1))
