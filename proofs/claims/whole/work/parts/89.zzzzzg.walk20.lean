/-- the walk goes through every subtree: leaves, signs, applications, constructors, lambdas -/
theorem gt_a1 {σ τr μ0 : S5} {k U F : Nat} {fs : Nat → Int32} {S N : Int32} (hE : Env σ τr μ0 k U F fs S) {D : Int32 → Nat} (hw : Wk σ τr μ0 k F S N D) {R : R10} (hR : ∀ h s s' u u' a b t n c, R h s s' u u' a b t n c → (Bd h s s' u u' a b t n c) ∧ (Ow σ h s → Cn (fC σ) (fM μ0) s s' a b) ∧ (Pm σ μ0 U S N h s s' u' a b → GoT σ τr μ0 k F S D h s s' u u' a b n)) {h s s' u u' a b t n c : Int32} (hb : Bd h s s' u u' a b t n c) (hp : Pm σ μ0 U S N h s s' u' a b) (q : TLeaf σ μ0 h s s' u u' a b t n c ∨ TSign σ μ0 R h s s' u u' a b t n c) : GoT σ τr μ0 k F S D h s s' u u' a b n := by
  obtain ⟨p1, p2, p3, p4, p5⟩ := hp
  unfold Bd at hb
  obtain ⟨b1, b2, b3, b4, b5, b6, b7, b8, b9, b10, b11, b12, b13, b14⟩ := hb
  have hn0 : 0 ≤ n := i_trans b8 b9
  have hn1 : n < 3200 := by clear hR q; grind
  have hnN : n < N := by clear hR q; grind
  rcases q with q | q
  · obtain ⟨e1, e2, e3, e4, e5, e6, e7⟩ := q
    subst e1 e2 e3
    rcases e7 with ⟨f1, f2, f3, f4, f5, f6, f7⟩ | ⟨f1, f2⟩
    · subst f3
      have hu7 : u < 7000 := by clear hR; grind
      have eu := tn_s b5 hu7
      exact gt_name hE (hw.1 h b1 (by clear hR; grind)).1 b1 b2 p3 b5 (by omega) hn0 hn1 (hw.no hn0 hnN e6 (by rw [f1]; decide)) e6 f1 f4 f5 f6
    · subst f1
      have hk : xA μ0 2 a = 9 ∨ xA μ0 2 a = 10 ∨ xA μ0 2 a = 11 := by
        rcases f2 with w | w | w
        · exact Or.inr (Or.inl w.1)
        · exact Or.inl w.1
        · exact Or.inr (Or.inr w.1)
      exact gt_leaf hn0 hn1 (hw.no hn0 hnN e6 (by rcases hk with w | w | w <;> rw [w] <;> decide)) e6 hk
  · obtain ⟨e1, e2, e3, e4, e5, c1, c2, s1, u1, e6, e7, e8, e9, e10, -⟩ := q
    obtain ⟨x1, x2, x3⟩ := hR _ _ _ _ _ _ _ _ _ _ e6
    obtain ⟨y1, y2, y3⟩ := hR _ _ _ _ _ _ _ _ _ _ e8
    clear hR e6 e8
    unfold Bd at x1 y1
    unfold Wi at e7 e9
    have lu : u1.toNatClampNeg ≤ u'.toNatClampNeg := i_le (by grind)
    have ho : Ow σ h s1 := ⟨p1.1, by have := p1.2; grind⟩
    have hz : fM μ0 n.toNatClampNeg = 0 := by unfold fM; rw [xA_tn, xA_tn, e1, e2, if_neg (by decide)]
    have cn := x2 p1
    unfold Cn at cn
    refine gt_sign hn0 hn1 (hw.no hn0 hnN e2 (by rw [e1]; decide)) e2 e1 (x3 ⟨p1, by grind, by grind, by omega, p5⟩) (y3 ⟨ho, p2, p3, p4, ?_⟩) (by grind) (by grind) b8 (by grind) (by grind) b11 ⟨b5, by grind, by grind⟩
    rw [prI_s _ hn0 (by grind), hz]
    omega
