/-- the walk goes through every subtree: cases -/
theorem gt_a5 {σ τr μ0 : S5} {k U F : Nat} {fs : Nat → Int32} {S N : Int32} (hE : Env σ τr μ0 k U F fs S) {D : Int32 → Nat} (hw : Wk σ τr μ0 k F S N D) {R : R10} (hR : HR σ τr μ0 k U F S N D R) {h s s' u u' a b t n c : Int32} (hb : Bd h s s' u u' a b t n c) (hp : Pm σ μ0 U S N h s s' u' a b) (q : TCase σ μ0 R h s s' u u' a b t n c) : GoT σ τr μ0 k F S D h s s' u u' a b n := by
  obtain ⟨p1, p2, p3, p4, p5⟩ := hp
  unfold Ow at p1
  unfold Bd at hb
  obtain ⟨b1, b2, b3, b4, b5, b6, b7, b8, b9, b10, b11, b12, b13, b14⟩ := hb
  obtain ⟨e1, e2, e3, e4, l, s1, u1, a1, c0, e9, e10, e11, e12, e13, e14, e15, e16, e17⟩ := q
  subst e3
  have hn1 : a < 3200 := by grind
  have hs0 : 0 ≤ s := by grind
  have hz : fM μ0 a.toNatClampNeg = 0 := by unfold fM; rw [xA_tn, xA_tn, e1, if_neg (fun w => w.elim (fun e => absurd e (by decide)) (fun e => absurd e.1 (by decide)))]
  have h19 := hw.no2 b8 (by grind) hz
  have os : ∀ x, s ≤ x → x ≤ 700 → Ow σ h x := fun x hx _ => by unfold Ow; exact ⟨p1.1, by grind⟩
  obtain ⟨x1, x2, x3⟩ := hR _ _ _ _ _ _ _ _ _ _ e12
  have w13 := e13
  unfold Wi at w13
  unfold Bd at x1
  have ha1 := e14.hd e9
  have cn := x2 (os s (Int32.le_refl _) (by grind))
  unfold Cn at cn
  have e1' : prI (fC σ) s = prI (fM μ0) (a + 1) := by rw [prI_s _ b8 (lt_7 hn1), hz]; exact p5
  have hcn : ∀ i s2 s2' u2 u2' a2 b2 t2 n2 c2, i < l → TAlt σ μ0 R h i s2 s2' u2 u2' a2 b2 t2 n2 c2 → Wi s1 s' u1 u' a1 b (c0 + 1) c s2 s2' u2 u2' a2 b2 t2 c2 → Cn (fC σ) (fM μ0) s2 s2' a2 b2 := by
    intro i s2 s2' u2 u2' a2 b2 t2 n2 c2 _ w wi
    unfold Wi at wi
    exact w.cn (Loc_k σ μ0) (fun _ _ _ _ _ _ _ _ _ _ r => (hR _ _ _ _ _ _ _ _ _ _ r).2.1) (os s2 (by clear e14 w hR hw; grind) (by clear e14 w hR hw; grind)) (by clear e14 w hR hw; grind) wi.2.1 (by clear e14 w hR hw; grind) (by clear e14 w hR hw; grind) (by clear e14 w hR hw; grind)
  have r14 := e14.pe (wc := fC σ) (wm := fM μ0) hcn (fun _ _ => Or.inl rfl) b8 hn1 (by omega)
  have lu1 : u1.toNatClampNeg ≤ u'.toNatClampNeg := i_le e16
  refine gt_case b8 hn1 h19 e2 e1 (x3 ⟨os s (Int32.le_refl _) (by grind), by grind, by grind, by omega, e1'⟩) (by grind) (by grind) ha1 b11 ⟨b5, by grind⟩ e9 e10 r14 ?_
  intro i s2 s2' u2 u2' a2 b2 t2 n2 c2 hil w wi
  unfold Wi at wi
  have lu : u2'.toNatClampNeg ≤ u'.toNatClampNeg := i_le (by clear e14 r14 w hR hw; grind)
  exact gt_altT hE hw hR w.1 b1 (by clear e14 r14 w hR hw; grind) (by clear e14 r14 w hR hw; grind) (by clear e14 r14 w hR hw; grind) (by clear e14 r14 w hR hw; grind) ⟨os s2 (by clear e14 r14 w hR hw; grind) (by clear e14 r14 w hR hw; grind), by clear e14 r14 w hR hw; grind, by clear e14 r14 w hR hw; grind, by omega, w.2⟩
/-- THE WALK GOES THROUGH EVERY SUBTREE -/
theorem gt_all {σ τr μ0 : S5} {k U F : Nat} {fs : Nat → Int32} {S N : Int32} (hE : Env σ τr μ0 k U F fs S) {D : Int32 → Nat} (hw : Wk σ τr μ0 k F S N D) {h s s' u u' a b t n c : Int32} (q : TR σ μ0 h s s' u u' a b t n c) : Pm σ μ0 U S N h s s' u' a b → GoT σ τr μ0 k F S D h s s' u u' a b n := by
  refine TR.ind (P := fun h s s' u u' a b t n c => Pm σ μ0 U S N h s s' u' a b → GoT σ τr μ0 k F S D h s s' u u' a b n) ?_ q
  clear q
  intro h s s' u u' a b t n c q hp
  obtain ⟨hb, q⟩ := q
  have hR : HR σ τr μ0 k U F S N D (fun h s s' u u' a b t n c => TR σ μ0 h s s' u u' a b t n c ∧ (Pm σ μ0 U S N h s s' u' a b → GoT σ τr μ0 k F S D h s s' u u' a b n)) := fun h s s' u u' a b t n c w => ⟨w.1.un.1, w.1.cn (Loc_k σ μ0), w.2⟩
  rcases q with q | q | q | q | q | q | q
  · exact gt_a1 hE hw hR hb hp (Or.inl q)
  · exact gt_a1 hE hw hR hb hp (Or.inr q)
  · exact gt_a2 hE hw hR hb hp (Or.inl q)
  · exact gt_a2 hE hw hR hb hp (Or.inr q)
  · exact gt_a3 hE hw hR hb hp q
  · exact gt_a4 hE hw hR hb hp q
  · exact gt_a5 hE hw hR hb hp q
