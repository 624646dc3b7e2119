theorem i_le_of_lt {a b : Int32} (h : a < b) : a ≤ b := by grind
/-- a let, a case, and all else: every subtree is lifted -/
theorem TR.gc {σ ν τr τv τu τp μm : S5} {k0 U F C : Nat} {S : Int32} {sc : Nat → Int32} {cf : Nat → Nat} (hX : PX σ ν τr τv τu τp k0 U F C S sc cf) (hM : MX σ ν τr τv μm k0 U F S cf) {f : Nat} (hf : f < F) {h s s' u u' a b t n c : Int32} (q : TR σ ν h s s' u u' a b t n c) : PGc σ ν τp μm U F (nvF σ S sc cf f) C f S sc h s s' u u' a b t n c := by
  refine TR.ind (P := fun h s s' u u' a b t n c => PGc σ ν τp μm U F (nvF σ S sc cf f) C f S sc h s s' u u' a b t n c) ?_ q
  clear q
  intro h s s' u u' a b t n c q hcC hS hb9 hU cx hh
  have hR : HGc σ ν τp μm U F (nvF σ S sc cf f) C f S sc (fun h s s' u u' a b t n c => TR σ ν h s s' u u' a b t n c ∧ PGc σ ν τp μm U F (nvF σ S sc cf f) C f S sc h s s' u u' a b t n c) := fun _ _ _ _ _ _ _ _ _ _ w => w
  obtain ⟨hb, q⟩ := q
  unfold Bd at hb
  obtain ⟨b1, b2, b3, b4, b5, b6, b7, b8, b9, b10, b11, b12, b13, b14⟩ := hb
  have hn0 : 0 ≤ n := i_trans b8 b9
  have hn1 : n < 3200 := i_lt_le b10 b11
  have hn9 : n < gI ν 9 := i_lt_le b10 hb9
  have hn7 : n < 7000 := i_lt_le hn1 (by decide)
  have hc0 : 0 ≤ c := i_trans b12 b13
  have hs0 : 0 ≤ s := i_trans b1 (by clear q hX hM hR; grind)
  have tm1 := tn_mono b9
  have tm2 := i_lt (not_neg hn0) b10
  have h17 : ∀ x, 0 ≤ x → x < nI C → xA τp 17 x = xA σ 17 x := fun x x0 x1 => (hX.2.2.1.2.2.1 x x0 x1).1.1
  have h19 : fM ν n.toNatClampNeg = 0 → xA μm 19 n = -1 := fun w => by rw [hM.1 19 _ (by omega), hM.2.2.2.2.2.1 n hn0 hn9, if_neg (by omega)]
  rcases q with q | q | q | q | q | q | q
  · have e := gc_leafT hX hM hf q hn0 hn1 hn9 hc0 b14 hcC b5 hU (by clear q hX hM hR; grind) cx hh
    obtain ⟨e1, e2, e3, -⟩ := q
    have : b.toNatClampNeg - a.toNatClampNeg = 1 := by rw [e2, e3, tn_s hn0 hn7]; omega
    rw [this]
    exact e
  · obtain ⟨e1, e2, e3, e4, e5, c1, c2, s1, u1, e6, e7, e8, e9, e10, e11, e12, e13⟩ := q
    have hfm := fM_z (μ := ν) (n := n) (by rw [e1]; decide) (Or.inl (by rw [e1]; decide))
    obtain ⟨k1, k2, k3⟩ := e6.1.sums cx.2.1
    unfold Wi at e7 e9
    have cx2 := (cx.over k1 k2 k3 e7.2.1).node hn0 hn1 hfm (vM_z (by rw [e1]; decide) e2) (by rw [e1]; decide)
    have kC1 : c1 < nI C := by clear e6 e8 hX hM hR k1 k2 k3 cx cx2; grind
    have kC2 : c2 < nI C := by clear e6 e8 hX hM hR k1 k2 k3 cx cx2; grind
    have k01 : 0 ≤ c1 := by clear e6 e8 hX hM hR k1 k2 k3 cx cx2; grind
    have k02 : 0 ≤ c2 := by clear e6 e8 hX hM hR k1 k2 k3 cx cx2; grind
    have kc1 : c1 < c := by clear e6 e8 hX hM hR k1 k2 k3 cx cx2; grind
    have kc2 : c2 < c := by clear e6 e8 hX hM hR k1 k2 k3 cx cx2; grind
    have ks1 : s1 ≤ S := i_trans e7.2.2.1 hS
    have ku1 : u1.toNatClampNeg ≤ U := Nat.le_trans (tn_mono e7.2.2.2.2.2.1) hU
    have G1 := e6.2 kC1 ks1 (by clear e6 e8 hX hM hR k1 k2 k3 cx cx2; grind) ku1 cx hh
    have G2 := e8.2 kC2 hS hb9 hU cx2 hh
    rw [← hM.1 3 n (by omega)] at G1
    rw [← hM.1 4 n (by omega)] at G2
    have M1 := (e6.1.ms hX kC1 ks1 cx.2.1).2.1
    have M2 := (e8.1.ms hX kC2 hS cx2.2.1).2.1
    unfold Nn at M1 M2
    obtain ⟨mq, t13⟩ := hX.ch hc0 hcC (l := 2) (cc := fun p => if p = 0 then c1 else c2) ⟨by omega, e11, fun p hp => by
      have hp : p = 0 ∨ p = 1 := by omega
      rcases hp with rfl | rfl
      · exact ⟨k01, kc1, e12⟩
      · exact ⟨k02, kc2, e13⟩⟩ (by rw [e3]; decide) (by rw [e3]; decide)
    rw [if_neg (by rw [e3]; decide)] at mq
    obtain ⟨-, q14, -, q16, -⟩ := hX.fr hc0 hcC (by rw [e3]; decide) (by rw [e3]; decide)
    have e14 := q14 (by rw [e3]; decide)
    have two : ∀ {P : Nat → Prop}, P 0 → P 1 → ∀ i, i < 2 → P i := fun a b i hi => by
      have hi : i = 0 ∨ i = 1 := by omega
      rcases hi with rfl | rfl
      · exact a
      · exact b
    refine gc_sign (cc := fun p => if p = 0 then c1 else c2) (sz := fun p => if p = 0 then n.toNatClampNeg - a.toNatClampNeg else b.toNatClampNeg - (n + 1).toNatClampNeg) hn0 hn1 ((hM.1 2 n (by omega)).trans e1) (h19 hfm) G1 G2 ?_ (two (P := fun i => (xA τp 19 ((fun p => if p = 0 then c1 else c2) i)).toNatClampNeg ≤ 7000) (by show (xA τp 19 c1).toNatClampNeg ≤ 7000; omega) (by show (xA τp 19 c2).toNatClampNeg ≤ 7000; omega)) mq (t13.trans e3) (by rw [(hM.2.1 n (by rw [e1]; decide)).1, e14]; exact e4) (by rw [e14]; exact e5) ⟨q16.trans e11, two (P := fun i => 0 ≤ (fun p => if p = 0 then c1 else c2) i ∧ xA τp 17 ((fun p => if p = 0 then c1 else c2) i) = if i + 1 < 2 then (fun p => if p = 0 then c1 else c2) (i + 1) else -1) ⟨k01, (h17 c1 k01 kC1).trans e12⟩ ⟨k02, (h17 c2 k02 kC2).trans e13⟩⟩ (two (P := fun i => ¬ xA τp 13 ((fun p => if p = 0 then c1 else c2) i) = 10) (e6.1.n10 hX kC1 ks1 ku1) (e8.1.n10 hX kC2 hS hU)) hc0 b14
    show 0 + (n.toNatClampNeg - a.toNatClampNeg) + (b.toNatClampNeg - (n + 1).toNatClampNeg) + 1 ≤ _
    rw [tn_s hn0 hn7]
    omega
  · obtain ⟨e1, e2, e3, k, e4, e5, e6, e7⟩ := q
    have hfm := fM_z (μ := ν) (n := n) (by rw [e1]; decide) (Or.inl (by rw [e1]; decide))
    obtain ⟨r1, -⟩ := e7.cx (σ1 := σ) (μ1 := ν) (hh := h) (fun i s1 s1' u1 u1' a1 b1 t1 n1 c1 _ w wi => w.1.sums ⟨cx.2.1.1, by have := cx.2.1.2; unfold Wi at wi; clear e7 hX hM hR w cx; grind⟩) (fun i _ => by
      unfold appGap
      by_cases h1 : i = 1
      · rw [if_pos h1]; exact Or.inr ⟨rfl, hfm, vM_z (by rw [e1]; decide) e2, by rw [e1]; decide⟩
      · rw [if_neg h1]; exact Or.inl rfl) hn0 hn1 cx
    obtain ⟨g, cc, sz, x1, x2, x3, x4⟩ := TRow.gc (μm := μm) (F := F) (V := nvF σ S sc cf f) hX r1 (fun i => by unfold appGap; split; exact Or.inr rfl; exact Or.inl rfl) b8 (by clear e7 r1 hX hM hR cx; grind) b11 hb9 hS hU b12 hcC hh
    obtain ⟨mq, t13⟩ := hX.ch hc0 hcC (l := k) (cc := cc) ⟨by omega, x2.symm, fun p hp => (x3 p hp).2.2.1⟩ (by rw [e3]; decide) (by rw [e3]; decide)
    rw [if_neg (by rw [e3]; decide)] at mq
    obtain ⟨-, -, q15, q16, -⟩ := hX.fr hc0 hcC (by rw [e3]; decide) (by rw [e3]; decide)
    refine gc_app (l := k) (g := g) (cc := cc) (sz := sz) hn0 hn1 ((hM.1 2 n (by omega)).trans e1) (h19 hfm) e4 (by omega) (by rw [hM.1 3 n (by omega), x1]) (fun i hi => ⟨(x3 i hi).2.1.1, by rw [hM.1 5 _ (by omega)]; exact (x3 i hi).2.1.2⟩) (fun i hi => (x3 i hi).1) ?_ (fun i hi => (x3 i hi).2.2.2.2.1) mq (t13.trans e3) ((q15 (by rw [e3]; decide) (by rw [e3]; decide)).trans e6) ⟨q16.trans x2.symm, fun i hi => ⟨(x3 i hi).2.2.1.1, (x3 i hi).2.2.2.1.trans (x3 i hi).2.2.1.2.2⟩⟩ (fun i hi => (x3 i hi).2.2.2.2.2) hc0 b14
    have hg : 1 ≤ pre (fun i => (appGap i).toNatClampNeg) k := by
      have := pre_at (w := fun i => (appGap i).toNatClampNeg) k 1 (by omega)
      exact this
    omega
  · obtain ⟨e1, e2, e3, e4, e5, e6, e7, k, e8, e9, e10, e11⟩ := q
    subst e4
    have hfm := fM_z (μ := ν) (n := a) (by rw [e1]; decide) (Or.inl (by rw [e1]; decide))
    have cx2 := cx.node hn0 hn1 hfm (vM_z (by rw [e1]; decide) e2) (by rw [e1]; decide)
    obtain ⟨r1, -⟩ := e11.cx (σ1 := σ) (μ1 := ν) (hh := h) (fun i s1 s1' u1 u1' a1 b1 t1 n1 c1 _ w wi => w.1.sums ⟨cx.2.1.1, by have := cx.2.1.2; unfold Wi at wi; clear e11 hX hM hR w cx cx2; grind⟩) (fun i _ => Or.inl rfl) hn0 hn1 cx2
    have ha1 : 0 ≤ a + 1 := by clear e11 r1 hX hM hR cx cx2; grind
    obtain ⟨g, cc, sz, x1, x2, x3, x4⟩ := TRow.gc (μm := μm) (F := F) (V := nvF σ S sc cf f) hX r1 (fun i => Or.inl rfl) ha1 (i_su b10) b11 hb9 hS hU b12 hcC hh
    obtain ⟨mq, t13⟩ := hX.ch hc0 hcC (l := k) (cc := cc) ⟨by omega, x2.symm, fun p hp => (x3 p hp).2.2.1⟩ (by rw [e3]; decide) (by rw [e3]; decide)
    rw [if_neg (by rw [e3]; decide)] at mq
    obtain ⟨-, q14, q15, q16, -⟩ := hX.fr hc0 hcC (by rw [e3]; decide) (by rw [e3]; decide)
    have e14 := q14 (by rw [e3]; decide)
    obtain ⟨g4, g2⟩ := hX.g4 hM
    refine gc_cons (l := k) (g := g) (cc := cc) (sz := sz) hn0 hn1 ((hM.1 2 a (by omega)).trans e1) (h19 hfm) e8 (by omega) (by rw [hM.1 3 a (by omega), x1]) (fun i hi => ⟨(x3 i hi).2.1.1, by rw [hM.1 5 _ (by omega)]; exact (x3 i hi).2.1.2⟩) (fun i hi => (x3 i hi).1) ?_ (fun i hi => (x3 i hi).2.2.2.2.1) mq (t13.trans e3) (by rw [e14, e5, (hM.2.1 a (by rw [e1]; decide)).1]) (by rw [e14]; exact e6) (by rw [e14, g4]; exact e7) (by rw [e14, g2]; exact e10) ⟨q16.trans x2.symm, fun i hi => ⟨(x3 i hi).2.2.1.1, (x3 i hi).2.2.2.1.trans (x3 i hi).2.2.1.2.2⟩⟩ (fun i hi => (x3 i hi).2.2.2.2.2) hc0 b14
    rw [tn_s hn0 hn7] at x4
    omega
  · obtain ⟨e1, e2, e3⟩ := q
    subst e2
    exact gc_funT hX hM hf (by omega) e3 (Or.inr e1) hn0 hn1 hn9 hc0 b14 hcC hs0 (su_lt e3.2.2.2.2.2.2.2.2.1 b3 b4 hS) cx hh
  · obtain ⟨e1, e2, e3, e4, e5, e6, e7, e8, k, s1, u1, a1, t1, c0, e9, e10, e11, e12, e13, e14, e15, e16, e17, e18, e19, e20⟩ := q
    subst e3
    unfold Wi at e20
    obtain ⟨v1, v2, v3, v4, v5, v6, v7, v8, v9, v10, v11, v12⟩ := e20
    have hne : ¬ xA σ 22 s = s := by rw [e7]; have := cx.2.1.2; clear e14 e19 hX hM hR cx; grind
    have hc : fC σ s.toNatClampNeg = 0 := by unfold fC; rw [xA_tn, ← nI_tn hs0, if_neg (fun w => hne w.1)]
    have hfm := fM_z (μ := ν) (n := a) (by rw [e1]; decide) (Or.inl (by rw [e1]; decide))
    have sS : s < S := su_lt e8 b3 b4 hS
    have s7 : s < 700 := by clear e14 e19 hX hM hR cx; grind
    have ev : vC σ s.toNatClampNeg = vM ν a.toNatClampNeg := by
      obtain ⟨g, cc, fs', fu, fn, ft, r1, r2, r3, r4, r5, r6, r7, r8, r9, hi⟩ := e14
      exact (Loc_v σ ν).2.1 s a k g hs0 s7 e1 e11 e9 e10 hne r8 (fun i hk => by
        obtain ⟨d1, d2, d3, d4, d5, d6, d7, d8, d9⟩ := hi i hk
        refine ⟨?_, d6⟩
        unfold Wi at d2
        clear hi d1 e19 hX hM hR cx
        grind)
    have cx2 := cx.sub s7 hn0 hn1 (hc.trans hfm.symm) ev (by rw [e1]; decide) (Or.inr e7)
    have e14' : TRow σ ν (fun i s1 s1' u1 u1' a1 b1 t1 n1 c1 => TBind σ ν (fun h s s' u u' a b t n c => TR σ ν h s s' u u' a b t n c ∧ PGc σ ν τp μm U F (nvF σ S sc cf f) C f S sc h s s' u u' a b t n c) s i s1 s1' u1 u1' a1 b1 t1 n1 c1) k (s + 1) s1 u u1 (a + 1) a1 t t1 (xA ν 3 a) (xA σ 17 c0) a noGap := e14
    obtain ⟨r1, r2⟩ := e14'.cx (σ1 := σ) (μ1 := ν) (hh := s) (fun i s2 s2' u2 u2' a2 b2 t2 n2 c2 _ w wi => by
      have wT := w.mono (R' := TR σ ν) (fun _ _ _ _ _ _ _ _ _ _ r => r.1)
      have ow : Ow σ s s2 := ⟨cx2.2.1.1, by have := cx2.2.1.2; unfold Wi at wi; clear e14 e14' e19 hX hM hR w wT cx cx2; grind⟩
      unfold Wi at wi
      have k0 : 0 ≤ a2 := by clear e14 e14' e19 hX hM hR w wT cx cx2; grind
      have k1 : a2 < 3200 := by clear e14 e14' e19 hX hM hR w wT cx cx2; grind
      have k2 : 0 ≤ s2 := by clear e14 e14' e19 hX hM hR w wT cx cx2; grind
      have k3 : s2' ≤ 700 := by clear e14 e14' e19 hX hM hR w wT cx cx2; grind
      exact ⟨wT.cn (Loc_k σ ν) (fun _ _ _ _ _ _ _ _ _ _ r => r.cn (Loc_k σ ν)) ow hs0 k2 wi.2.1 k3 k0 k1, wT.cn (Loc_v σ ν) (fun _ _ _ _ _ _ _ _ _ _ r => r.cn (Loc_v σ ν)) ow hs0 k2 wi.2.1 k3 k0 k1, wT.cuT k0 k1 (by clear e14 e14' e19 hX hM hR w wT cx cx2; grind) (by clear e14 e14' e19 hX hM hR w wT cx cx2; grind) (by clear e14 e14' e19 hX hM hR w wT cx cx2; grind)⟩) (fun i _ => Or.inl rfl) hn0 hn1 cx2
    obtain ⟨g, bb, fs, fu, fn, ft, p1, p2, p3, p4, p5, p6, ⟨p7, p7'⟩, p8, p9, hi⟩ := r1
    have ha1 : 0 ≤ a + 1 := by clear e14 e14' e19 hX hM hR cx cx2 hi; grind
    have hsz := TRow.sz (σ := σ) (μ := ν) (P := fun _ _ _ _ _ _ _ _ _ _ => True) (g := g) (fun i hik => (hi i hik).2.1) p5 p6 ha1 e17 (by clear e14 e14' e19 hX hM hR cx cx2 hi; grind) (fun i => Or.inl rfl)
    have HB : ∀ i, i < k → BGc σ τv τp μm F (nvF σ S sc cf f) f s i (g i) (bb i) (xA σ 16 (bb i)) ((fn (i + 1)).toNatClampNeg - (fn i + noGap i).toNatClampNeg) ∧ (0 ≤ bb i ∧ bb i < c ∧ bb i < nI C ∧ xA σ 17 (bb i) = if i + 1 < k then bb (i + 1) else -1) ∧ ((0 ≤ g i ∧ g i < 3200) ∧ xA ν 5 (g i) = if i + 1 < k then g (i + 1) else -1) := fun i hik => by
      obtain ⟨⟨d1, d1'⟩, d2, d3, d4, d5, d6, d7, d8, d9⟩ := hi i hik
      unfold Wi at d2
      obtain ⟨w1, w2, w3, w4, w5, w6, w7, w8, w9, w10, w11, w12⟩ := d2
      clear hi
      have k0 : 0 ≤ bb i := i_trans (i_trans b12 w10) w11
      have kc : bb i < c := by clear e14 e14' e19 hX hM hR cx cx2 d1 d1'; grind
      have kC : bb i < nI C := by clear e14 e14' e19 hX hM hR cx cx2 d1 d1'; grind
      have k6 : bb i < 6200 := by clear e14 e14' e19 hX hM hR cx cx2 d1 d1'; grind
      have y1 : 0 ≤ fn i + noGap i := by clear e14 e14' e19 hX hM hR cx cx2 d1 d1'; grind
      have y2 : fn (i + 1) ≤ 3200 := by clear e14 e14' e19 hX hM hR cx cx2 d1 d1'; grind
      have y3 : fn (i + 1) ≤ gI ν 9 := by clear e14 e14' e19 hX hM hR cx cx2 d1 d1'; grind
      have y4 : fs (i + 1) ≤ S := i_trans (i_trans w3 v2) hS
      have y5 : fs (i + 1) ≤ 700 := i_trans (i_trans w3 v2) b4
      have y6 : (fu (i + 1)).toNatClampNeg ≤ U := Nat.le_trans (tn_mono (i_trans w6 v5)) hU
      obtain ⟨c1, B⟩ := TBind.gc hX hM hf hR d1 (by omega) hs0 sS y1 w8 y2 y3 w2 y4 y5 y6 (i_trans b12 w10) k0 k6 kC d1' (e7.trans hh)
      have e := B.2.1.1
      refine ⟨by rw [e]; exact B, ⟨k0, kc, kC, d7⟩, ⟨⟨i_trans y1 d3, ?_⟩, d6⟩⟩
      clear e14 e14' e19 hX hM hR cx cx2 d1 d1' B
      grind
    clear hi
    have kC0 : c0 < nI C := by clear e14 e14' e19 hX hM hR cx cx2 HB; grind
    have k00 : 0 ≤ c0 := by clear e14 e14' e19 hX hM hR cx cx2 HB; grind
    have kc0 : c0 < c := by clear e14 e14' e19 hX hM hR cx cx2 HB; grind
    have G0 := e19.2 kC0 hS hb9 hU r2 (e7.trans hh)
    obtain ⟨m7, m8⟩ := hM.2.1 a (by rw [e1]; decide)
    rw [← m7] at G0
    have M0 := (e19.1.ms hX kC0 hS r2.2.1).2.1
    unfold Nn at M0
    obtain ⟨x0, x1, x2, x3, x4⟩ := hM.scope hX.1 hf hs0 sS (e7.trans hh) e11 e10
    have h25 : xA μm 25 a = nI (prI (vC σ) s) := by rw [hM.2.2.1.2 a hn0 hn9 (Or.inl e1), cx.2.2.2.1]
    obtain ⟨mq, t13⟩ := hX.ch hc0 hcC (l := k + 1) (cc := fun p => if p = 0 then c0 else bb (p - 1)) ⟨by omega, e12, fun p hp => by
      by_cases hp0 : p = 0
      · subst hp0
        exact ⟨k00, kc0, by show xA σ 17 c0 = if 0 + 1 < k + 1 then bb 0 else -1; rw [if_pos (by omega)]; exact p9.symm⟩
      · obtain ⟨e, rfl⟩ : ∃ e, p = e + 1 := ⟨p - 1, by omega⟩
        obtain ⟨-, ⟨r2, r3, -, d7⟩, -⟩ := HB e (by omega)
        refine ⟨r2, r3, ?_⟩
        show xA σ 17 (bb e) = if e + 1 + 1 < k + 1 then bb (e + 1) else -1
        rw [d7]
        by_cases hek : e + 1 < k
        · rw [if_pos hek, if_pos (by omega)]
        · rw [if_neg hek, if_neg (by omega)]⟩ (by rw [e4]; decide) (by rw [e4]; decide)
    rw [if_neg (by rw [e4]; decide)] at mq
    obtain ⟨-, -, -, q16, -⟩ := hX.fr hc0 hcC (by rw [e4]; decide) (by rw [e4]; decide)
    refine gc_let (l := k) (g := g) (cc := fun i => xA σ 16 (bb i)) (bb := bb) (c0 := c0) (x0 := x0) (sz := fun i => (fn (i + 1)).toNatClampNeg - (fn i + noGap i).toNatClampNeg) (szb := b.toNatClampNeg - a1.toNatClampNeg) hn0 hn1 ((hM.1 2 a (by omega)).trans e1) (h19 hfm) e9 e10 (by rw [hM.1 3 a (by omega), p8]) (fun i hi => ⟨(HB i hi).2.2.1, by rw [hM.1 5 _ (by omega)]; exact (HB i hi).2.2.2⟩) (fun i hi => (HB i hi).1.1) G0 ?_ ⟨fun i hi => (HB i hi).1.2.2.2.2.2, by omega⟩ (fun μ hw => by rw [h25]; exact x4 (by omega) μ hw) x2 (nvF_le hX.1 hf) (t13.trans e4) (q16.trans e12) k00 ((h17 c0 k00 kC0).trans p9.symm) (e19.1.n10 hX kC0 hS hU) (fun i hi => ?_) mq hc0 b14
    · have w1 := tn_s hn0 hn7
      have w2 := tn_mono (i_le_of_lt v8)
      rw [w1] at hsz
      omega
    · obtain ⟨⟨-, ⟨z1, z2, z3, z4, z5, z6, z7, z8⟩, z9, z10, z11, -⟩, ⟨y1, y2, y3, y4⟩, -⟩ := HB i hi
      exact ⟨⟨y1, z3, by rw [z4, x1, nI_plus], z5, z6, z8, (h17 _ y1 y3).trans y4⟩, z9, z10, z11⟩
  · obtain ⟨e1, e2, e3, e4, k, s1, u1, a1, c0, e9, e10, e11, e12, e13, e14, e15, e16, e17⟩ := q
    subst e3
    unfold Wi at e13
    obtain ⟨v1, v2, v3, v4, v5, v6, v7, v8, v9, v10, v11, v12⟩ := e13
    have hfm := fM_z (μ := ν) (n := a) (by rw [e1]; decide) (Or.inl (by rw [e1]; decide))
    have cx2 := cx.node hn0 hn1 hfm (vM_z (by rw [e1]; decide) e2) (by rw [e1]; decide)
    obtain ⟨k1, k2, k3⟩ := e12.1.sums cx2.2.1
    have cx3 := cx2.over k1 k2 k3 v2
    clear k1 k2 k3
    have e14' : TRow σ ν (fun i s1 s1' u1 u1' a1 b1 t1 n1 c1 => TAlt σ ν (fun h s s' u u' a b t n c => TR σ ν h s s' u u' a b t n c ∧ PGc σ ν τp μm U F (nvF σ S sc cf f) C f S sc h s s' u u' a b t n c) h i s1 s1' u1 u1' a1 b1 t1 n1 c1) k s1 s' u1 u' a1 b (c0 + 1) c (xA ν 3 a) (xA σ 17 c0) a noGap := e14
    obtain ⟨r1, r2⟩ := e14'.cx (σ1 := σ) (μ1 := ν) (hh := h) (fun i s2 s2' u2 u2' a2 b2 t2 n2 c2 _ w wi => by
      have wT := w.mono (R' := TR σ ν) (fun _ _ _ _ _ _ _ _ _ _ r => r.1)
      have ow : Ow σ h s2 := ⟨cx3.2.1.1, by have := cx3.2.1.2; unfold Wi at wi; clear e14 e14' e12 hX hM hR w wT cx cx2 cx3; grind⟩
      unfold Wi at wi
      have j0 : 0 ≤ a2 := by clear e14 e14' e12 hX hM hR w wT cx cx2 cx3; grind
      have j1 : a2 < 3200 := by clear e14 e14' e12 hX hM hR w wT cx cx2 cx3; grind
      have j2 : 0 ≤ s2 := by clear e14 e14' e12 hX hM hR w wT cx cx2 cx3; grind
      have j3 : s2' ≤ 700 := by clear e14 e14' e12 hX hM hR w wT cx cx2 cx3; grind
      exact ⟨wT.cn (Loc_k σ ν) (fun _ _ _ _ _ _ _ _ _ _ r => r.cn (Loc_k σ ν)) ow j2 wi.2.1 j3 j0 j1, wT.cn (Loc_v σ ν) (fun _ _ _ _ _ _ _ _ _ _ r => r.cn (Loc_v σ ν)) ow j2 wi.2.1 j3 j0 j1, wT.cuT j0 j1 (by clear e14 e14' e12 hX hM hR w wT cx cx2 cx3; grind) (by clear e14 e14' e12 hX hM hR w wT cx cx2 cx3; grind) (by clear e14 e14' e12 hX hM hR w wT cx cx2 cx3; grind)⟩) (fun i _ => Or.inl rfl) hn0 hn1 cx3
    obtain ⟨g, bb, fs, fu, fn, ft, p1, p2, p3, p4, p5, p6, ⟨p7, p7'⟩, p8, p9, hi⟩ := r1
    have ha1 : 0 ≤ a1 := by clear e14 e14' e12 hX hM hR cx cx2 cx3 hi; grind
    have hsz := TRow.sz (σ := σ) (μ := ν) (P := fun _ _ _ _ _ _ _ _ _ _ => True) (g := g) (fun i hik => (hi i hik).2.1) p5 p6 ha1 e17 b11 (fun i => Or.inl rfl)
    have HB : ∀ i, i < k → (∃ jx : Nat × Nat, AGc σ τp μm F (nvF σ S sc cf f) f (g i) (bb i) (xA σ 16 (bb i)) jx.1 jx.2 ((fn (i + 1)).toNatClampNeg - (fn i + noGap i).toNatClampNeg)) ∧ (0 ≤ bb i ∧ bb i < c ∧ bb i < nI C ∧ xA σ 17 (bb i) = if i + 1 < k then bb (i + 1) else -1) ∧ ((0 ≤ g i ∧ g i < 3200) ∧ xA ν 5 (g i) = if i + 1 < k then g (i + 1) else -1) := fun i hik => by
      obtain ⟨⟨d1, d1'⟩, d2, d3, d4, d5, d6, d7, d8, d9⟩ := hi i hik
      unfold Wi at d2
      obtain ⟨w1, w2, w3, w4, w5, w6, w7, w8, w9, w10, w11, w12⟩ := d2
      clear hi
      have y0 : 0 ≤ ft i := by clear e14 e14' e12 hX hM hR cx cx2 cx3 d1 d1'; grind
      have k0 : 0 ≤ bb i := i_trans y0 w11
      have kC : bb i < nI C := by clear e14 e14' e12 hX hM hR cx cx2 cx3 d1 d1'; grind
      have k6 : bb i < 6200 := by clear e14 e14' e12 hX hM hR cx cx2 cx3 d1 d1'; grind
      have y1 : 0 ≤ fn i + noGap i := i_trans ha1 w7
      have y2 : fn (i + 1) ≤ 3200 := i_trans w9 b11
      have y3 : fn (i + 1) ≤ gI ν 9 := i_trans w9 hb9
      have y4 : fs (i + 1) ≤ S := i_trans w3 hS
      have y5 : fs (i + 1) ≤ 700 := i_trans w3 b4
      have y6 : (fu (i + 1)).toNatClampNeg ≤ U := Nat.le_trans (tn_mono w6) hU
      obtain ⟨c1, j, x, B⟩ := TAlt.gc hX hM hf hR d1 y1 w8 y2 y3 w2 y4 y5 y6 y0 k0 k6 kC d1' hh
      have e := B.2.1.1
      refine ⟨⟨(j, x), by rw [e]; exact B⟩, ⟨k0, w12, kC, d7⟩, ⟨⟨i_trans y1 d3, ?_⟩, d6⟩⟩
      clear e14 e14' e12 hX hM hR cx cx2 cx3 d1 d1' B
      grind
    clear hi
    obtain ⟨jx, HA⟩ := ch_fin ((0, 0) : Nat × Nat) k (fun i hi => (HB i hi).1)
    have kC0 : c0 < nI C := by clear e14 e14' e12 hX hM hR cx cx2 cx3 HB HA; grind
    have k00 : 0 ≤ c0 := by clear e14 e14' e12 hX hM hR cx cx2 cx3 HB HA; grind
    have ks1 : s1 ≤ S := i_trans v3 hS
    have ku1 : u1.toNatClampNeg ≤ U := Nat.le_trans (tn_mono v6) hU
    have G0 := e12.2 kC0 ks1 (i_trans e17 hb9) ku1 cx2 hh
    obtain ⟨m7, m8⟩ := hM.2.1 a (by rw [e1]; decide)
    rw [← m7] at G0
    have M0 := (e12.1.ms hX kC0 ks1 cx2.2.1).2.1
    unfold Nn at M0
    obtain ⟨mq, t13⟩ := hX.ch hc0 hcC (l := k + 1) (cc := fun p => if p = 0 then c0 else bb (p - 1)) ⟨by omega, e11, fun p hp => by
      by_cases hp0 : p = 0
      · subst hp0
        exact ⟨k00, v12, by show xA σ 17 c0 = if 0 + 1 < k + 1 then bb 0 else -1; rw [if_pos (by omega)]; exact p9.symm⟩
      · obtain ⟨e, rfl⟩ : ∃ e, p = e + 1 := ⟨p - 1, by omega⟩
        obtain ⟨-, ⟨r2, r3, -, d7⟩, -⟩ := HB e (by omega)
        refine ⟨r2, r3, ?_⟩
        show xA σ 17 (bb e) = if e + 1 + 1 < k + 1 then bb (e + 1) else -1
        rw [d7]
        by_cases hek : e + 1 < k
        · rw [if_pos hek, if_pos (by omega)]
        · rw [if_neg hek, if_neg (by omega)]⟩ (by rw [e4]; decide) (by rw [e4]; decide)
    rw [if_neg (by rw [e4]; decide)] at mq
    obtain ⟨-, -, -, q16, -⟩ := hX.fr hc0 hcC (by rw [e4]; decide) (by rw [e4]; decide)
    refine gc_case (l := k) (g := g) (cc := fun i => xA σ 16 (bb i)) (aa := bb) (c0 := c0) (jj := fun i => (jx i).1) (xx := fun i => (jx i).2) (sz := fun i => (fn (i + 1)).toNatClampNeg - (fn i + noGap i).toNatClampNeg) (sz0 := a1.toNatClampNeg - (a + 1).toNatClampNeg) hn0 hn1 ((hM.1 2 a (by omega)).trans e1) (h19 hfm) e9 e10 (by rw [hM.1 3 a (by omega), p8]) (fun i hi => ⟨(HB i hi).2.2.1, by rw [hM.1 5 _ (by omega)]; exact (HB i hi).2.2.2⟩) (fun i hi => (HA i hi).1) G0 ?_ ⟨fun i hi => (HA i hi).2.2.2.2.2.2, by omega⟩ (fun i hi => (HA i hi).2.2.1) (t13.trans e4) (q16.trans e11) k00 ((h17 c0 k00 kC0).trans p9.symm) (e12.1.n10 hX kC0 ks1 ku1) (fun i hi => ?_) mq hc0 b14
    · have w1 := tn_s hn0 hn7
      have w2 := tn_mono (i_le_of_lt v8)
      rw [w1] at *
      omega
    · obtain ⟨-, ⟨z1, z2, z3, z5, z6, z7, z8⟩, -, z9, z10, z11, -⟩ := HA i hi
      obtain ⟨-, ⟨y1, y2, y3, y4⟩, -⟩ := HB i hi
      exact ⟨⟨y1, z3, z5, z6, z8, (h17 _ y1 y3).trans y4⟩, z9, z10, z11⟩
