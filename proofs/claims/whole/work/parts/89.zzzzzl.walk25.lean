theorem TRow.hd {σ μ : S5} {P : Nat → Int32 → Int32 → Int32 → Int32 → Int32 → Int32 → Int32 → Int32 → Int32 → Prop} {k : Nat} {s s' u u' a b t c n1 c1 nn : Int32} {gap : Nat → Int32} (h : TRow σ μ P k s s' u u' a b t c n1 c1 nn gap) (hk : 1 ≤ k) : a < b := by
  obtain ⟨g, cc, fs, fu, fn, ft, e1, e2, e3, e4, e5, e6, e7, e8, e9, hi⟩ := h
  obtain ⟨d1, d2, -⟩ := hi 0 (by omega)
  unfold Wi at d2
  clear hi d1
  grind
/-- the walk goes through every subtree: lets -/
theorem gt_a4 {σ τr μ0 : S5} {k U F : Nat} {fs : Nat → Int32} {S N : Int32} (hE : Env σ τr μ0 k U F fs S) {D : Int32 → Nat} (hw : Wk σ τr μ0 k F S N D) {R : R10} (hR : HR σ τr μ0 k U F S N D R) {h s s' u u' a b t n c : Int32} (hb : Bd h s s' u u' a b t n c) (hp : Pm σ μ0 U S N h s s' u' a b) (q : TLet σ μ0 R h s s' u u' a b t n c) : GoT σ τr μ0 k F S D h s s' u u' a b n := by
  obtain ⟨p1, p2, p3, p4, p5⟩ := hp
  unfold Ow at p1
  unfold Bd at hb
  obtain ⟨b1, b2, b3, b4, b5, b6, b7, b8, b9, b10, b11, b12, b13, b14⟩ := hb
  obtain ⟨e1, e2, e3, e4, e5, e6, e7, e8, l, s1, u1, a1, t1, c0, e9, e10, e11, e12, e13, e14, e15, e16, e17, e18, e19, e20⟩ := q
  subst e3
  have hn1 : a < 3200 := by grind
  have hs0 : 0 ≤ s := by grind
  have sS : s < S := by grind
  have hs : ¬ xA σ 22 s = s := by rw [e7]; grind
  have os : ∀ x, s + 1 ≤ x → x ≤ 700 → Ow σ s x := fun x hx _ => by unfold Ow; rw [e7]; exact ⟨p1.1, by grind⟩
  have hz : fM μ0 a.toNatClampNeg = 0 := by unfold fM; rw [xA_tn, xA_tn, e1, if_neg (fun w => w.elim (fun e => absurd e (by decide)) (fun e => absurd e.1 (by decide)))]
  have hc : fC σ s.toNatClampNeg = 0 := by unfold fC; rw [xA_tn, ← nI_tn hs0, if_neg (fun w => hs w.1)]
  have h19 := hw.no2 b8 (by grind) hz
  have ev : vC σ s.toNatClampNeg = vM μ0 a.toNatClampNeg := by
    obtain ⟨g, cc, fs', fu, fn, ft, r1, r2, r3, r4, r5, r6, r7, r8, r9, hi⟩ := e14
    exact (Loc_v σ μ0).2.1 s a l g hs0 (by grind) e1 e11 e9 e10 hs r8 (fun i hk => by
      obtain ⟨d1, d2, d3, d4, d5, d6, d7, d8, d9⟩ := hi i hk
      refine ⟨?_, d6⟩
      unfold Wi at d2
      clear hi d1
      grind)
  have hD := hw.1 s hs0 sS
  have hDh := hw.1 h b1 (by grind)
  obtain ⟨x1, x2, x3⟩ := hR _ _ _ _ _ _ _ _ _ _ e19
  have w20 := e20
  unfold Wi at w20
  unfold Bd at x1
  have ha1 := e14.hd e9
  have hcn : ∀ i s2 s2' u2 u2' a2 b2 t2 n2 c2, i < l → TBind σ μ0 R s i s2 s2' u2 u2' a2 b2 t2 n2 c2 → Wi (s + 1) s1 u u1 (a + 1) a1 t t1 s2 s2' u2 u2' a2 b2 t2 c2 → Cn (fC σ) (fM μ0) s2 s2' a2 b2 := by
    intro i s2 s2' u2 u2' a2 b2 t2 n2 c2 _ w wi
    unfold Wi at wi
    exact w.cn (Loc_k σ μ0) (fun _ _ _ _ _ _ _ _ _ _ r => (hR _ _ _ _ _ _ _ _ _ _ r).2.1) (os s2 (by clear e14 w hR hw; grind) (by clear e14 w hR hw; grind)) hs0 (by clear e14 w hR hw; grind) wi.2.1 (by clear e14 w hR hw; grind) (by clear e14 w hR hw; grind) (by clear e14 w hR hw; grind)
  have e1' : prI (fC σ) (s + 1) = prI (fM μ0) (a + 1) := by rw [prI_s _ b8 (lt_7 hn1), hz, prI_s _ hs0 (by grind), hc]; exact p5
  have c14 := e14.cn (wc := fC σ) (wm := fM μ0) hcn (fun _ _ => Or.inl rfl) b8 hn1
  unfold Cn at c14
  have r14 := e14.pe (wc := fC σ) (wm := fM μ0) hcn (fun _ _ => Or.inl rfl) b8 hn1 e1'
  refine gt_let hE b8 hn1 h19 e1 b1 hs0 sS e6 e7 hDh.1 (by rw [hD.2 (by rw [e6]; exact b1), e6]) e11 e9 e10 (hc.trans hz.symm) ev (x3 ⟨os s1 e15 (by grind), p2, p3, p4, by omega⟩) (by grind) ha1 (by grind) b11 ⟨b5, by grind⟩ r14 ?_
  intro i s2 s2' u2 u2' a2 b2 t2 n2 c2 hil w wi
  unfold Wi at wi
  have lu : u2'.toNatClampNeg ≤ u'.toNatClampNeg := i_le (by clear e14 r14 w hR hw; grind)
  exact gt_bind hE hw hR w.1 hs0 (by clear e14 r14 w hR hw; grind) (by clear e14 r14 w hR hw; grind) (by clear e14 r14 w hR hw; grind) (by clear e14 r14 w hR hw; grind) ⟨os s2 (by clear e14 r14 w hR hw; grind) (by clear e14 r14 w hR hw; grind), by clear e14 r14 w hR hw; grind, by clear e14 r14 w hR hw; grind, by omega, w.2⟩
