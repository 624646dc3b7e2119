/-- the walk goes through every subtree: lambdas -/
theorem gt_a3 {σ τr μ0 : S5} {k U F : Nat} {fs : Nat → Int32} {S N : Int32} (hE : Env σ τr μ0 k U F fs S) {D : Int32 → Nat} (hw : Wk σ τr μ0 k F S N D) {R : R10} (hR : ∀ h s s' u u' a b t n c, R h s s' u u' a b t n c → (Bd h s s' u u' a b t n c) ∧ (Ow σ h s → Cn (fC σ) (fM μ0) s s' a b) ∧ (Pm σ μ0 U S N h s s' u' a b → GoT σ τr μ0 k F S D h s s' u u' a b n)) {h s s' u u' a b t n c : Int32} (hb : Bd h s s' u u' a b t n c) (hp : Pm σ μ0 U S N h s s' u' a b) (q : TLam σ μ0 R h s s' u u' a b t n c) : GoT σ τr μ0 k F S D h s s' u u' a b n := by
  unfold Bd at hb
  obtain ⟨b1, b2, b3, b4, b5, b6, b7, b8, b9, b10, b11, b12, b13, b14⟩ := hb
  obtain ⟨e1, e2, e3⟩ := q
  have hn0 : 0 ≤ n := i_trans b8 b9
  have hn1 : n < 3200 := by clear hR e3; grind
  have hs0 : 0 ≤ s := by clear hR e3; grind
  subst e2
  exact gt_funT hE hw (R := R) (fun _ _ _ _ _ _ _ _ _ _ r => ⟨(hR _ _ _ _ _ _ _ _ _ _ r).1, (hR _ _ _ _ _ _ _ _ _ _ r).2.2⟩) e3 (Or.inr e1) b1 b2 hs0 hn0 hn1 b11 hp
