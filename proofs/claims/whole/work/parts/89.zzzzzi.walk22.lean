/-- the walk goes through every subtree: applications and constructors with fields -/
theorem gt_a2 {σ τr μ0 : S5} {k U F : Nat} {fs : Nat → Int32} {S N : Int32} (hE : Env σ τr μ0 k U F fs S) {D : Int32 → Nat} (hw : Wk σ τr μ0 k F S N D) {R : R10} (hR : ∀ h s s' u u' a b t n c, R h s s' u u' a b t n c → (Bd h s s' u u' a b t n c) ∧ (Ow σ h s → Cn (fC σ) (fM μ0) s s' a b) ∧ (Pm σ μ0 U S N h s s' u' a b → GoT σ τr μ0 k F S D h s s' u u' a b n)) {h s s' u u' a b t n c : Int32} (hb : Bd h s s' u u' a b t n c) (hp : Pm σ μ0 U S N h s s' u' a b) (q : TApp σ μ0 R h s s' u u' a b t n c ∨ TCons σ μ0 R h s s' u u' a b t n c) : GoT σ τr μ0 k F S D h s s' u u' a b n := by
  obtain ⟨p1, p2, p3, p4, p5⟩ := hp
  unfold Bd at hb
  obtain ⟨b1, b2, b3, b4, b5, b6, b7, b8, b9, b10, b11, b12, b13, b14⟩ := hb
  have hn0 : 0 ≤ n := i_trans b8 b9
  have hn1 : n < 3200 := by clear hR q; grind
  have hnN : n < N := by clear hR q; grind
  have hitem : ∀ (a0 : Int32) (s1 s1' u1 u1' a1 b1 t1 n1 c1 : Int32), R h s1 s1' u1 u1' a1 b1 t1 n1 c1 → prI (fC σ) s1 = prI (fM μ0) a1 → Wi s s' u u' a0 b t c s1 s1' u1 u1' a1 b1 t1 c1 → GoT σ τr μ0 k F S D h s1 s1' u1 u1' a1 b1 n1 := by
    intro a0 s1 s1' u1 u1' a1 b1 t1 n1 c1 r he wi
    obtain ⟨_, _, x3⟩ := hR _ _ _ _ _ _ _ _ _ _ r
    clear hR q
    unfold Wi at wi
    have lu : u1'.toNatClampNeg ≤ u'.toNatClampNeg := i_le (by grind)
    exact x3 ⟨⟨p1.1, by have := p1.2; grind⟩, by grind, by grind, by omega, he⟩
  have hcn : ∀ (a0 : Int32) (s1 s1' u1 u1' a1 b1 t1 n1 c1 : Int32), R h s1 s1' u1 u1' a1 b1 t1 n1 c1 → Wi s s' u u' a0 b t c s1 s1' u1 u1' a1 b1 t1 c1 → Cn (fC σ) (fM μ0) s1 s1' a1 b1 := by
    intro a0 s1 s1' u1 u1' a1 b1 t1 n1 c1 r wi
    obtain ⟨_, x2, _⟩ := hR _ _ _ _ _ _ _ _ _ _ r
    clear hR q hitem
    unfold Wi at wi
    exact x2 ⟨p1.1, by have := p1.2; grind⟩
  clear hR
  rcases q with q | q
  · obtain ⟨e1, e2, e3, l, e4, e5, e6, e7⟩ := q
    have hz : fM μ0 n.toNatClampNeg = 0 := by unfold fM; rw [xA_tn, xA_tn, e1, e2, if_neg (by decide)]
    have e7' := e7.pe (wc := fC σ) (wm := fM μ0) (fun i s1 s1' u1 u1' a1 b1 t1 n1 c1 _ r wi => hcn a _ _ _ _ _ _ _ _ _ r wi) (fun i _ => by
      unfold appGap
      by_cases h1 : i = 1
      · rw [if_pos h1]; exact Or.inr ⟨rfl, hz⟩
      · rw [if_neg h1]; exact Or.inl rfl) hn0 hn1 p5
    exact gt_app hn0 hn1 (hw.no hn0 hnN e2 (by rw [e1]; decide)) e2 e1 b8 b9 b10 b11 b5 e4 e5 e7' (fun i s1 s1' u1 u1' a1 b1 t1 n1 c1 _ r wi => hitem a _ _ _ _ _ _ _ _ _ r.1 r.2 wi)
  · obtain ⟨e1, e2, e3, e4, e5, e6, e7, l, e8, e9, e10, e11⟩ := q
    have hz : fM μ0 n.toNatClampNeg = 0 := by unfold fM; rw [xA_tn, xA_tn, e1, e2, if_neg (by decide)]
    subst e4
    have e7' := e11.pe (wc := fC σ) (wm := fM μ0) (fun i s1 s1' u1 u1' a1 b1 t1 n1 c1 _ r wi => hcn (a + 1) _ _ _ _ _ _ _ _ _ r wi) (fun i _ => Or.inl rfl) hn0 hn1 (by rw [prI_s _ hn0 (lt_7 hn1), hz]; exact p5)
    exact gt_cons hn0 hn1 (hw.no hn0 hnN e2 (by rw [e1]; decide)) e2 e1 b10 b11 b5 e8 e9 e7' (fun i s1 s1' u1 u1' a1 b1 t1 n1 c1 _ r wi => hitem (a + 1) _ _ _ _ _ _ _ _ _ r.1 r.2 wi)
