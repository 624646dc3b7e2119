theorem row_sz {gap fn : Nat → Int32} {k : Nat} (h : ∀ i, i < k → 0 ≤ fn i ∧ fn i + gap i ≤ fn (i + 1) ∧ fn i < 7000 ∧ (gap i = 0 ∨ gap i = 1)) : ∀ j, j ≤ k → pre (fun i => (fn (i + 1)).toNatClampNeg - (fn i + gap i).toNatClampNeg) j + pre (fun i => (gap i).toNatClampNeg) j + (fn 0).toNatClampNeg = (fn j).toNatClampNeg
  | 0, _ => by show 0 + 0 + _ = _; omega
  | j + 1, hj => by
    have ih := row_sz h j (by omega)
    obtain ⟨h0, h1, h2, h3⟩ := h j (by omega)
    have hm : (fn j + gap j).toNatClampNeg ≤ (fn (j + 1)).toNatClampNeg := by
      have := Int32.le_iff_toInt_le.mp h1
      unfold Int32.toNatClampNeg
      omega
    have he : (fn j + gap j).toNatClampNeg = (fn j).toNatClampNeg + (gap j).toNatClampNeg := by
      rcases h3 with w | w
      · rw [w, Int32.add_zero]; rfl
      · rw [w, tn_s h0 h2]; rfl
    show pre _ j + ((fn (j + 1)).toNatClampNeg - (fn j + gap j).toNatClampNeg) + (pre _ j + (gap j).toNatClampNeg) + (fn 0).toNatClampNeg = _
    omega
theorem spn_bt : ∀ x : Fin 41, ∀ j : Fin 6, x.val + j.val ≤ 40 → spn (nI x.val) (nI j.val) = bt j.val x.val := by
  decide +kernel
theorem MEQ.b1 {τ : S5} {c a2 c1 : Int32} {cc : Nat → Int32} (hM : MEQ τ c a2 1 cc) (hc : cc 0 = c1) (h11 : ¬ xA τ 13 c = 11) (h10 : ¬ xA τ 13 c1 = 10) : xB τ 2 c = xB τ 2 c1 := by
  rw [hM.2.2]
  unfold mB
  rw [if_neg h11]
  show ((0 : Int64) ||| xB τ 2 (cc 0)) &&& (((0 : Int64) ||| (if xA τ 13 (cc 0) = 10 then spn (xA τ 14 (cc 0)) 1 else 0)) ^^^ (-1)) = _
  rw [hc, if_neg h10, zor, zor, and_all]
theorem MEQ.b11 {τ : S5} {c c1 : Int32} {cc : Nat → Int32} {j x : Nat} (hM : MEQ τ c (nI j) 1 cc) (hc : cc 0 = c1) (h11 : xA τ 13 c = 11) (h15 : xA τ 15 c = nI x) (hj : j ≤ 5) (hx : x + j ≤ 40) : xB τ 2 c = xB τ 2 c1 &&& (bt j x ^^^ (-1)) := by
  rw [hM.2.2]
  unfold mB
  rw [if_pos h11, h15]
  show ((0 : Int64) ||| xB τ 2 (cc 0)) &&& (spn (nI x) (nI j) ^^^ (-1)) = _
  have e : spn (nI x) (nI j) = bt j x := spn_bt ⟨x, by omega⟩ ⟨j, by omega⟩ hx
  rw [hc, zor, e]
theorem TFun.n10 {σ ν τr τv τu τp : S5} {k U F C : Nat} {S : Int32} {sc : Nat → Int32} {cf : Nat → Nat} (hX : PX σ ν τr τv τu τp k U F C S sc cf) {R : R10} {h s s' u u' n b t c : Int32} (q : TFun σ ν R h s s' u u' n b t c) (hc0 : 0 ≤ c) (hcC : c < nI C) (hs0 : 0 ≤ s) (hs : s < S) : ¬ xA τp 13 c = 10 := by
  obtain ⟨e1, e2, e3, e4, e5, -⟩ := q
  obtain ⟨g, g1, g2, g3⟩ := hX.of hs0 hs e5
  obtain ⟨fr, fm⟩ := hX.2.2.1.2.2.1 c hc0 hcC
  have q := fr.2.2.2.2.2 e1 g g1 (by rw [e2, g2])
  by_cases hz : cf g = 0
  · rw [(q.1 hz).1]; decide
  · obtain ⟨n0, g', -, -, -, w, -⟩ := q.2 hz
    rw [w]; decide
theorem TR.n10 {σ ν τr τv τu τp : S5} {k U F C : Nat} {S : Int32} {sc : Nat → Int32} {cf : Nat → Nat} (hX : PX σ ν τr τv τu τp k U F C S sc cf) {h s s' u u' a b t n c : Int32} (q : TR σ ν h s s' u u' a b t n c) (hcC : c < nI C) (hS : s' ≤ S) (hU : u'.toNatClampNeg ≤ U) : ¬ xA τp 13 c = 10 := by
  obtain ⟨hb, q⟩ := q.un
  unfold Bd at hb
  obtain ⟨b1, b2, b3, b4, b5, b6, b7, b8, b9, b10, b11, b12, b13, b14⟩ := hb
  have hc0 : 0 ≤ c := i_trans b12 b13
  have fr := @PX.fr σ ν τr τv τu τp k U F C S sc cf hX c hc0 hcC
  rcases q with q | q | q | q | q | q | q
  · obtain ⟨e1, e2, e3, e4, e5, e6, e7⟩ := q
    rcases e7 with ⟨f1, f2, f3, f4, f5, f6, f7⟩ | ⟨f1, f2⟩
    · have hu7 : u < 7000 := by clear hX fr; grind
      have hu1 : u.toNatClampNeg < U := by
        have := tn_s b5 hu7
        rw [f3, this] at hU
        omega
      have hpu := hX.2.1.2.2 u.toNatClampNeg hu1
      rw [← nI_tn b5, f7] at hpu
      obtain ⟨fr, fm⟩ := hX.2.2.1.2.2.1 c hc0 hcC
      rw [(fr.2.1 (by rw [f2]; decide)).1]
      by_cases hz : 0 ≤ tg σ k u.toNatClampNeg
      · obtain ⟨g, -, -, g3, -⟩ := hpu.1 hz
        rw [g3]; decide
      · rw [(hpu.2 (by clear hX fr fm hpu; grind)).1]; decide
    · rcases f2 with ⟨_, w, _⟩ | ⟨_, w, _⟩ | ⟨_, w⟩ <;> rw [(fr (by rw [w]; decide) (by rw [w]; decide)).1, w] <;> decide
  · rw [(fr (by rw [q.2.2.1]; decide) (by rw [q.2.2.1]; decide)).1, q.2.2.1]; decide
  · rw [(fr (by rw [q.2.2.1]; decide) (by rw [q.2.2.1]; decide)).1, q.2.2.1]; decide
  · rw [(fr (by rw [q.2.2.1]; decide) (by rw [q.2.2.1]; decide)).1, q.2.2.1]; decide
  · exact q.2.2.n10 hX hc0 hcC (by clear hX fr; grind) (by have := q.2.2.2.2.2.2.2.2.2.2.1; clear hX fr q; grind)
  · rw [(fr (by rw [q.2.2.2.1]; decide) (by rw [q.2.2.2.1]; decide)).1, q.2.2.2.1]; decide
  · rw [(fr (by rw [q.2.2.2.1]; decide) (by rw [q.2.2.2.1]; decide)).1, q.2.2.2.1]; decide
/-- what is wanted of a subtree -/
def PGc (σ ν τp μm : S5) (U F V C f : Nat) (S : Int32) (sc : Nat → Int32) (h s s' u u' a b t n c : Int32) : Prop := c < nI C → s' ≤ S → b ≤ gI ν 9 → u'.toNatClampNeg ≤ U → Cx σ ν h s u a t → xA σ 22 h = sc f → GoC τp μm F V f n c (b.toNatClampNeg - a.toNatClampNeg)
def HGc (σ ν τp μm : S5) (U F V C f : Nat) (S : Int32) (sc : Nat → Int32) (R : R10) : Prop := ∀ h s s' u u' a b t n c, R h s s' u u' a b t n c → TR σ ν h s s' u u' a b t n c ∧ PGc σ ν τp μm U F V C f S sc h s s' u u' a b t n c
/-- what is wanted of a binding -/
def BGc (σ τv τp μm : S5) (F V f : Nat) (v : Int32) (i : Nat) (n c c1 : Int32) (sz : Nat) : Prop := GoC τp μm F V f n c1 sz ∧ (xA σ 16 c = c1 ∧ 0 ≤ c ∧ xA τp 13 c = 10 ∧ xA τp 14 c = xA τv 25 v + nI i ∧ xA τp 16 c = c1 ∧ 0 ≤ c1 ∧ c1 < c ∧ xA τp 17 c1 = -1) ∧ xA τp 18 c = xA τp 18 c1 ∧ xA τp 19 c = xA τp 19 c1 ∧ xB τp 2 c = xB τp 2 c1 ∧ (xA τp 19 c1).toNatClampNeg ≤ 7000
theorem su_lt {a b c : Int32} (h : a + 1 ≤ b) (h1 : a ≤ b) (h7 : b ≤ 700) (h2 : b ≤ c) : a < c := by grind
theorem sz_in {a b : Int32} (h0 : 0 ≤ a) (h1 : a < b) (h2 : a < 7000) : b.toNatClampNeg - (a + 1).toNatClampNeg + 1 = b.toNatClampNeg - a.toNatClampNeg := by
  have := i_lt (not_neg h0) h1
  have := tn_s h0 h2
  omega
theorem TBind.gc {σ ν τr τv τu τp μm : S5} {k U F C : Nat} {S : Int32} {sc : Nat → Int32} {cf : Nat → Nat} (hX : PX σ ν τr τv τu τp k U F C S sc cf) (hM : MX σ ν τr τv μm k U F S cf) {f : Nat} (hf : f < F) {R : R10} (hR : HGc σ ν τp μm U F (nvF σ S sc cf f) C f S sc R) {v : Int32} {i : Nat} {s s' u u' a b t n c : Int32} (q : TBind σ ν R v i s s' u u' a b t n c) (hi : i < 5) (hv0 : 0 ≤ v) (hvS : v < S) (ha0 : 0 ≤ a) (hab : a < b) (hb : b ≤ 3200) (hb9 : b ≤ gI ν 9) (hsl : s ≤ s') (hS : s' ≤ S) (hs7 : s' ≤ 700) (hU : u'.toNatClampNeg ≤ U) (ht0 : 0 ≤ t) (hc0 : 0 ≤ c) (hc6 : c < 6200) (hcC : c < nI C) (cx : Cx σ ν v s u a t) (hh : xA σ 22 v = sc f) : ∃ c1, BGc σ τv τp μm F (nvF σ S sc cf f) f v i n c c1 (b.toNatClampNeg - a.toNatClampNeg) := by
  obtain ⟨d1, d2, d3, d4, d5, c1, d6, d7, d8, d9⟩ := q
  subst d2
  have hs0 : 0 ≤ s := by have := cx.1; clear hX hM hR d9; grind
  have ha1 : a < 3200 := i_lt_le hab hb
  have ha9 : a < gI ν 9 := i_lt_le hab hb9
  have ha7 : a < 7000 := i_lt_le ha1 (by decide)
  have hc1 : 0 ≤ c1 ∧ c1 < nI C ∧ c1 < c ∧ GoC τp μm F (nvF σ S sc cf f) f a c1 (b.toNatClampNeg - a.toNatClampNeg) ∧ Ms σ τr τp cf s s' t c1 ∧ ¬ xA τp 13 c1 = 10 := by
    rcases d9 with ⟨f1, f2, f3⟩ | f1
    · obtain ⟨x1, x2⟩ := hR _ _ _ _ _ _ _ _ _ _ f2
      unfold Wi at f3
      have k0 : 0 ≤ c1 := by clear hX hM hR f2 x1 x2; grind
      have kC : c1 < nI C := by clear hX hM hR f2 x1 x2; grind
      have kc : c1 < c := by clear hX hM hR f2 x1 x2; grind
      have hfm : fM ν a.toNatClampNeg = 0 := fM_z (by rw [d1]; decide) (Or.inr f1)
      have h19 : xA μm 19 a = -1 := by rw [hM.1 19 _ (by omega), hM.2.2.2.2.2.1 a ha0 ha9, if_neg (by omega)]
      have G := x2 kC hS hb9 hU (cx.node ha0 ha1 hfm (vM_z (by rw [d1]; decide) f1) (by rw [d1]; decide)) hh
      rw [← hM.1 3 a (by omega)] at G
      have G2 := gc_one ha0 ha1 (Or.inl ((hM.1 2 a (by omega)).trans d1)) h19 G
      rw [sz_in ha0 hab ha7] at G2
      exact ⟨k0, kC, kc, G2, x1.ms hX kC hS cx.2.1, x1.n10 hX kC hS hU⟩
    · have hss : s + 1 ≤ s' := f1.2.2.2.2.2.2.2.2.1
      have k0 : 0 ≤ c1 := by
        obtain ⟨g1, g2, g3, g4, g5, g6, g7, g8, g9, c9, g10, g11, g12, g13, g14⟩ := f1
        unfold Wi at g13
        clear hX hM hR g12
        grind
      have kC : c1 < nI C := by clear hX hM hR f1; grind
      have kc : c1 < c := by clear hX hM hR f1; grind
      have k6 : c1 < 6200 := by clear hX hM hR f1; grind
      have sS : s < S := su_lt hss hsl hs7 hS
      have hsz : 1 ≤ b.toNatClampNeg - a.toNatClampNeg := by
        have := i_lt (not_neg ha0) hab
        omega
      exact ⟨k0, kC, kc, gc_funT hX hM hf hsz f1 (Or.inl d1) ha0 ha1 ha9 k0 k6 kC hs0 sS cx hh, f1.ms hX (fun _ _ _ _ _ _ _ _ _ _ w x y z => (hR _ _ _ _ _ _ _ _ _ _ w).1.ms hX x y z) hv0 hs0 hs7 k0 k6 kC hS, f1.n10 hX k0 kC hs0 sS⟩
  obtain ⟨k0, kC, kc, kG, kM, k10⟩ := hc1
  obtain ⟨mq, t13⟩ := hX.ch hc0 hcC (l := 1) (cc := fun _ => c1) ⟨by omega, d6, fun p hp => ⟨k0, kc, by rw [if_neg (by omega)]; exact d7⟩⟩ (by rw [d3]; decide) (by rw [d3]; decide)
  obtain ⟨fr, -⟩ := hX.2.2.1.2.2.1 c hc0 hcC
  obtain ⟨fr1, -⟩ := hX.2.2.1.2.2.1 c1 k0 kC
  have e13 : xA τp 13 c = 10 := t13.trans d3
  obtain ⟨m18, m19⟩ := mq.one rfl (by rw [e13]; rfl) kM.1 kM.2.1
  have kN : (xA τp 19 c1).toNatClampNeg ≤ 7000 := by have := kM.2.1; unfold Nn at this; omega
  exact ⟨c1, kG, ⟨d6, hc0, e13, fr.2.2.2.1 d3 v i hv0 hvS hi d4, (fr.2.1 (by rw [d3]; decide)).2.1.trans d6, k0, kc, fr1.1.trans d7⟩, m18, m19, mq.b1 rfl (by rw [e13]; decide) k10, kN⟩
/-- what is wanted of an alternative -/
def AGc (σ τp μm : S5) (F V f : Nat) (n c c1 : Int32) (j x sz : Nat) : Prop := GoC τp μm F V f n c1 sz ∧ (xA σ 16 c = c1 ∧ 0 ≤ c ∧ AlH τp μm V n c j x ∧ xA τp 16 c = c1 ∧ 0 ≤ c1 ∧ c1 < c ∧ xA τp 17 c1 = -1) ∧ (xA μm 10 n = nI j ∧ j ≤ 5 ∧ (0 < j → ∀ μ, FrWL μm μ → f_X12_local (nI f) (xA μm 25 n) μ = some (nI x, μ))) ∧ xA τp 18 c = xA τp 18 c1 ∧ xA τp 19 c = xA τp 19 c1 ∧ (V ≤ 40 → xB τp 2 c = xB τp 2 c1 &&& (bt j x ^^^ (-1))) ∧ (xA τp 19 c1).toNatClampNeg ≤ 7000
theorem TAlt.gc {σ ν τr τv τu τp μm : S5} {k U F C : Nat} {S : Int32} {sc : Nat → Int32} {cf : Nat → Nat} (hX : PX σ ν τr τv τu τp k U F C S sc cf) (hM : MX σ ν τr τv μm k U F S cf) {f : Nat} (hf : f < F) {R : R10} (hR : HGc σ ν τp μm U F (nvF σ S sc cf f) C f S sc R) {h : Int32} {i : Nat} {s s' u u' a b t n c : Int32} (q : TAlt σ ν R h i s s' u u' a b t n c) (ha0 : 0 ≤ a) (hab : a < b) (hb : b ≤ 3200) (hb9 : b ≤ gI ν 9) (hsl : s ≤ s') (hS : s' ≤ S) (hs7 : s' ≤ 700) (hU : u'.toNatClampNeg ≤ U) (ht0 : 0 ≤ t) (hc0 : 0 ≤ c) (hc6 : c < 6200) (hcC : c < nI C) (cx : Cx σ ν h s u a t) (hh : xA σ 22 h = sc f) : ∃ c1 j x, AGc σ τp μm F (nvF σ S sc cf f) f n c c1 j x (b.toNatClampNeg - a.toNatClampNeg) := by
  obtain ⟨d1, d2, c1, d3, d4, d5, d6⟩ := q
  subst d2
  have hs0 : 0 ≤ s := by have := cx.1; clear hX hM hR d6; grind
  have ha1 : a < 3200 := i_lt_le hab hb
  have ha9 : a < gI ν 9 := i_lt_le hab hb9
  have ha7 : a < 7000 := i_lt_le ha1 (by decide)
  have hfm : fM ν a.toNatClampNeg = 0 := fM_z (by rw [d1]; decide) (Or.inl (by rw [d1]; decide))
  have h19 : xA μm 19 a = -1 := by rw [hM.1 19 _ (by omega), hM.2.2.2.2.2.1 a ha0 ha9, if_neg (by omega)]
  have h2 : xA μm 2 a = 4 := (hM.1 2 a (by omega)).trans d1
  have h25 : xA μm 25 a = nI (prI (vC σ) s) := by rw [hM.2.2.1.2 a ha0 ha9 (Or.inr (Or.inr (Or.inr (Or.inl d1)))), cx.2.2.2.1]
  obtain ⟨h7, h8⟩ := hM.2.1 a (by rw [d1]; decide)
  obtain ⟨g4, g2⟩ := hX.g4 hM
  have hk : 0 ≤ c1 ∧ c1 < nI C ∧ c1 < c ∧ GoC τp μm F (nvF σ S sc cf f) f a c1 (b.toNatClampNeg - a.toNatClampNeg) ∧ Hn τp c1 ∧ Nn τp c1 ≤ 6100 ∧ ¬ xA τp 13 c1 = 10 ∧ (xA σ 13 c = 11 ∨ xA σ 13 c = 12 ∨ xA σ 13 c = 13) := by
    rcases d6 with ⟨f1, f2, f3, f4, f5, f6, f7, f8, f9, f10, f11, f12, f13⟩ | ⟨f1, f2, f3, f4⟩
    · obtain ⟨x1, x2⟩ := hR _ _ _ _ _ _ _ _ _ _ f12
      unfold Wi at f13
      have k0 : 0 ≤ c1 := by clear hX hM hR f12 x1 x2; grind
      have kC : c1 < nI C := by clear hX hM hR f12 x1 x2; grind
      have kc : c1 < c := by clear hX hM hR f12 x1 x2; grind
      have s7 : s < 700 := by clear hX hM hR f12 x1 x2; grind
      have hne : ¬ xA σ 22 s = s := by rw [f9]; have := cx.2.1.2; clear hX hM hR f12 x1 x2; grind
      have hc : fC σ s.toNatClampNeg = 0 := by unfold fC; rw [xA_tn, ← nI_tn hs0, if_neg (fun w => hne w.1)]
      have cx2 := cx.sub s7 ha0 ha1 (hc.trans hfm.symm) (vCM (by rw [d1]; decide) f10.1) (by rw [d1]; decide) (Or.inr f9)
      have G := x2 kC hS hb9 hU cx2 (f9.trans hh)
      rw [← hM.1 3 a (by omega)] at G
      have G2 := gc_one ha0 ha1 (Or.inr h2) h19 G
      rw [sz_in ha0 hab ha7] at G2
      have ms := x1.ms hX kC hS cx2.2.1
      exact ⟨k0, kC, kc, G2, ms.1, ms.2.1, x1.n10 hX kC hS hU, Or.inl f2⟩
    · obtain ⟨x1, x2⟩ := hR _ _ _ _ _ _ _ _ _ _ f3
      unfold Wi at f4
      have k0 : 0 ≤ c1 := by clear hX hM hR f3 x1 x2; grind
      have kC : c1 < nI C := by clear hX hM hR f3 x1 x2; grind
      have kc : c1 < c := by clear hX hM hR f3 x1 x2; grind
      have cx2 := cx.node ha0 ha1 hfm (vM_z (by rw [d1]; decide) f1) (by rw [d1]; decide)
      have G := x2 kC hS hb9 hU cx2 hh
      rw [← hM.1 3 a (by omega)] at G
      have G2 := gc_one ha0 ha1 (Or.inr h2) h19 G
      rw [sz_in ha0 hab ha7] at G2
      have ms := x1.ms hX kC hS cx2.2.1
      refine ⟨k0, kC, kc, G2, ms.1, ms.2.1, x1.n10 hX kC hS hU, ?_⟩
      rcases f2 with ⟨_, w, _⟩ | ⟨_, w⟩
      · exact Or.inr (Or.inl w)
      · exact Or.inr (Or.inr w)
  obtain ⟨k0, kC, kc, kG, kH, kN, k10, k13⟩ := hk
  obtain ⟨mq, t13⟩ := hX.ch hc0 hcC (l := 1) (cc := fun _ => c1) ⟨by omega, d3, fun p hp => ⟨k0, kc, by rw [if_neg (by omega)]; exact d4⟩⟩ (by rcases k13 with w | w | w <;> rw [w] <;> decide) (by rcases k13 with w | w | w <;> rw [w] <;> decide)
  obtain ⟨fr, -⟩ := hX.2.2.1.2.2.1 c hc0 hcC
  obtain ⟨fr1, -⟩ := hX.2.2.1.2.2.1 c1 k0 kC
  obtain ⟨-, q14, -, q16, q17⟩ := hX.fr hc0 hcC (by rcases k13 with w | w | w <;> rw [w] <;> decide) (by rcases k13 with w | w | w <;> rw [w] <;> decide)
  have e14 := q14 (by rcases k13 with w | w | w <;> rw [w] <;> decide)
  obtain ⟨m18, m19⟩ := mq.one rfl (by rw [t13]; rcases k13 with w | w | w <;> rw [w] <;> rfl) kH kN
  have kN7 : (xA τp 19 c1).toNatClampNeg ≤ 7000 := by unfold Nn at kN; omega
  have h10 : xA μm 10 a = xA ν 10 a := hM.1 10 a (by omega)
  rcases d6 with ⟨f1, f2, f3, f4, f5, f6, f7, f8, f9, f10, f11, -⟩ | ⟨f1, f2, -⟩
  · have hj0 : 0 ≤ xA ν 10 a := f10.2.1
    have hj5 : (xA ν 10 a).toNatClampNeg ≤ 5 := by
      have := f10.2.2.1
      have := Int32.le_iff_toInt_le.mp this
      unfold Int32.toNatClampNeg
      have e5 : (5 : Int32).toInt = 5 := rfl
      omega
    have ej : xA ν 10 a = nI (xA ν 10 a).toNatClampNeg := nI_tn hj0
    have sS : s < S := su_lt f11 hsl hs7 hS
    obtain ⟨x, x1, x2, x3, x4⟩ := hM.scope hX.1 hf hs0 sS (f9.trans hh) (f10.1.trans ej) hj5
    have e15 : xA τp 15 c = nI x := by rw [fr.2.2.2.2.1 f2, f7, x1]
    have e2 : xA σ 2 (xA σ 14 c) = nI (xA ν 10 a).toNatClampNeg := f6.trans ej
    rw [if_pos f2, e2] at mq
    refine ⟨c1, (xA ν 10 a).toNatClampNeg, x, kG, ⟨d3, hc0, Or.inl ⟨t13.trans f2, h8.trans f1, by rw [h7, e14, f3], by rw [e14]; exact f4, by rw [e14, g4]; exact f5, by rw [e14, g2]; exact e2, fun _ => ⟨e15, x2⟩⟩, q16.trans d3, k0, kc, fr1.1.trans d4⟩, ⟨h10.trans ej, hj5, fun hp μ hw => by rw [h25]; exact x4 hp μ hw⟩, m18, m19, fun hV => ?_, kN7⟩
    exact mq.b11 rfl (t13.trans f2) e15 hj5 (by omega)
  · have hz : xA μm 10 a = nI 0 := h10.trans f1
    have n11 : ¬ xA σ 13 c = 11 := by rcases f2 with ⟨_, w, _⟩ | ⟨_, w⟩ <;> rw [w] <;> decide
    refine ⟨c1, 0, 0, kG, ⟨d3, hc0, ?_, q16.trans d3, k0, kc, fr1.1.trans d4⟩, ⟨hz, by omega, fun hp => absurd hp (by omega)⟩, m18, m19, fun hV => ?_, kN7⟩
    · rcases f2 with ⟨w1, w2, w3, w4⟩ | ⟨w1, w2⟩
      · exact Or.inr (Or.inl ⟨t13.trans w2, h8.trans w1, by rw [h7, e14, w3], by rw [e14]; exact w4, rfl⟩)
      · exact Or.inr (Or.inr ⟨t13.trans w2, h8.trans w1, rfl⟩)
    · rw [mq.b1 rfl (by rw [t13]; exact n11) k10]
      exact (and_all _).symm
