/-- what is known of the subtrees -/
def HC (σ μ : S5) (S : Int32) (R : R10) : Prop := ∀ h s s' u u' a b t n c, R h s s' u u' a b t n c → TR σ μ h s s' u u' a b t n c ∧ (s' ≤ S → Cx σ μ h s u a t → CV σ μ S s s' u u' t (c + 1))
theorem fM_z {μ : S5} {n : Int32} (h2 : ¬ xA μ 2 n = 2) (h1 : ¬ xA μ 2 n = 1 ∨ xA μ 10 n = 0) : fM μ n.toNatClampNeg = 0 := by
  unfold fM
  rw [xA_tn, xA_tn, if_neg]
  rintro (w | w)
  · exact h2 w
  · rcases h1 with q | q
    · exact q w.1
    · rw [q] at w; exact absurd w.2 (by decide)
theorem vM_z {μ : S5} {n : Int32} (h0 : ¬ xA μ 2 n = 0) (h10 : xA μ 10 n = 0) : vM μ n.toNatClampNeg = 0 := by
  unfold vM
  rw [xA_tn, xA_tn, xA_tn, if_neg h0, h10]
  rfl
theorem vCM {σ μ : S5} {s n : Int32} (h0 : ¬ xA μ 2 n = 0) (h : xA σ 20 s = xA μ 10 n) : vC σ s.toNatClampNeg = vM μ n.toNatClampNeg := by
  unfold vC vM
  rw [xA_tn, xA_tn, xA_tn, xA_tn, if_neg h0, h]
theorem TFun.cv {σ μ : S5} {S : Int32} {R : R10} (hR : HC σ μ S R) {h s s' u u' n b t c : Int32} (q : TFun σ μ R h s s' u u' n b t c) (hk : xA μ 2 n = 1 ∨ xA μ 2 n = 2) (hn0 : 0 ≤ n) (hb : b ≤ 3200) (hs' : s' ≤ S) (hs7 : s' ≤ 700) (hc0 : 0 ≤ c) (hc1 : c < 7000) (cx : Cx σ μ h s u n t) : CV σ μ S s s' u u' t (c + 1) := by
  have qT : TFun σ μ (TR σ μ) h s s' u u' n b t c := TFun_mono (fun _ _ _ _ _ _ _ _ _ _ r => (hR _ _ _ _ _ _ _ _ _ _ r).1) q
  obtain ⟨e1, e2, e3, e4, e5, e6, e7, e8, e9, c2, e10, e11, e12, e13, e14⟩ := q
  obtain ⟨x1, x2⟩ := hR _ _ _ _ _ _ _ _ _ _ e12
  clear hR e12
  unfold Wi at e13
  have hs0 : 0 ≤ s := by have := cx.1; grind
  have s7 : s < 700 := by grind
  have f1 : fM μ n.toNatClampNeg = 1 := by
    unfold fM
    rw [xA_tn, xA_tn, if_pos (hk.elim (fun w => Or.inr ⟨w, e8⟩) Or.inl)]
  have c1 : fC σ s.toNatClampNeg = 1 := by
    unfold fC
    rw [xA_tn, xA_tn, ← nI_tn hs0, if_pos ⟨e5, by rw [e4]; have := cx.1; grind⟩]
  have hv := vCM (σ := σ) (s := s) (n := n) (by rcases hk with w | w <;> rw [w] <;> decide) e7.1
  have y := x2 hs' (cx.sub s7 hn0 (by grind) (c1.trans f1.symm) hv (by rcases hk with w | w <;> rw [w] <;> decide) (Or.inl e5))
  rw [← e14] at y
  exact ((CV.s (fun _ => ⟨h, s', u, u', n, b, t, c, ⟨⟨hn0, by grind, hb⟩, hs7, hk⟩, qT, cx⟩) hs0 (by grind)).tr y).tr (CV.n (Or.inr (Or.inr (Or.inr ⟨h, s, s', u, u', n, b, t, ⟨hs7, hs', hk⟩, qT, cx⟩))) hc0 hc1)
theorem TBind.cv {σ μ : S5} {S : Int32} {R : R10} (hR : HC σ μ S R) {v : Int32} {i : Nat} {s s' u u' a b t n c : Int32} (q : TBind σ μ R v i s s' u u' a b t n c) (hi : i < 5) (ha0 : 0 ≤ a) (hab : a < b) (hb : b ≤ 3200) (hs' : s' ≤ S) (hs7 : s' ≤ 700) (ht0 : 0 ≤ t) (htc : t ≤ c) (hc1 : c < 7000) (cx : Cx σ μ v s u a t) : CV σ μ S s s' u u' t (c + 1) := by
  have qT : TBind σ μ (TR σ μ) v i s s' u u' a b t n c := q.mono (fun _ _ _ _ _ _ _ _ _ _ r => (hR _ _ _ _ _ _ _ _ _ _ r).1)
  obtain ⟨d1, d2, d3, d4, d5, c1, d6, d7, d8, d9⟩ := q
  subst d2
  have hc0 : 0 ≤ c := i_trans ht0 htc
  have nd : CV σ μ S s' s' u' u' c (c + 1) := CV.n (Or.inr (Or.inl ⟨v, i, s, s', u, u', a, b, t, a, ⟨hi, hs7, hb, hs'⟩, qT, cx⟩)) hc0 hc1
  rcases d9 with ⟨f1, f2, f3⟩ | f
  · obtain ⟨x1, x2⟩ := hR _ _ _ _ _ _ _ _ _ _ f2
    have y := x2 hs' (cx.node ha0 (by grind) (fM_z (by rw [d1]; decide) (Or.inr f1)) (vM_z (by rw [d1]; decide) f1) (by rw [d1]; decide))
    rw [← d8] at y
    exact y.tr nd
  · have k0 : 0 ≤ c1 := by
      obtain ⟨g1, g2, g3, g4, g5, g6, g7, g8, g9, c9, g10, g11, g12, g13, g14⟩ := f
      unfold Wi at g13
      clear hR g12
      grind
    have y := f.cv hR (Or.inl d1) ha0 hb hs' hs7 k0 (by clear hR f; grind) cx
    rw [← d8] at y
    exact y.tr nd
theorem TAlt.cv {σ μ : S5} {S : Int32} {R : R10} (hR : HC σ μ S R) {h : Int32} {i : Nat} {s s' u u' a b t n c : Int32} (q : TAlt σ μ R h i s s' u u' a b t n c) (ha0 : 0 ≤ a) (hab : a < b) (hb : b ≤ 3200) (hs' : s' ≤ S) (hs7 : s' ≤ 700) (ht0 : 0 ≤ t) (htc : t ≤ c) (hc1 : c < 7000) (cx : Cx σ μ h s u a t) : CV σ μ S s s' u u' t (c + 1) := by
  have qT : TAlt σ μ (TR σ μ) h i s s' u u' a b t n c := q.mono (fun _ _ _ _ _ _ _ _ _ _ r => (hR _ _ _ _ _ _ _ _ _ _ r).1)
  obtain ⟨d1, d2, c1, d3, d4, d5, d6⟩ := q
  subst d2
  have hc0 : 0 ≤ c := i_trans ht0 htc
  have nd : CV σ μ S s' s' u' u' c (c + 1) := CV.n (Or.inr (Or.inr (Or.inl ⟨h, i, s, s', u, u', a, b, t, a, ⟨hs7, hs'⟩, qT, cx⟩))) hc0 hc1
  rcases d6 with ⟨f1, f2, f3, f4, f5, f6, f7, f8, f9, f10, f11, f12, f13⟩ | ⟨f1, f2, f3, f4⟩
  · obtain ⟨x1, x2⟩ := hR _ _ _ _ _ _ _ _ _ _ f12
    clear hR f12
    unfold Wi at f13
    have hs0 : 0 ≤ s := by have := cx.1; grind
    have hne : ¬ xA σ 22 s = s := by rw [f9]; have := cx.2.1.2; grind
    have hc : fC σ s.toNatClampNeg = 0 := by unfold fC; rw [xA_tn, ← nI_tn hs0, if_neg (fun w => hne w.1)]
    have hm : fM μ a.toNatClampNeg = 0 := fM_z (by rw [d1]; decide) (Or.inl (by rw [d1]; decide))
    have y := x2 hs' (cx.sub (by grind) ha0 (by grind) (hc.trans hm.symm) (vCM (by rw [d1]; decide) f10.1) (by rw [d1]; decide) (Or.inr f9))
    rw [← d5] at y
    exact ((CV.s (fun w => absurd w (by rw [hc]; decide)) hs0 (by grind)).tr y).tr nd
  · obtain ⟨x1, x2⟩ := hR _ _ _ _ _ _ _ _ _ _ f3
    have y := x2 hs' (cx.node ha0 (by grind) (fM_z (by rw [d1]; decide) (Or.inr f1)) (vM_z (by rw [d1]; decide) f1) (by rw [d1]; decide))
    rw [← d5] at y
    exact y.tr nd
/-- sums over a subtree -/
theorem TR.sums {σ μ : S5} {h s s' u u' a b t n c : Int32} (q : TR σ μ h s s' u u' a b t n c) (ho : Ow σ h s) : Cn (fC σ) (fM μ) s s' a b ∧ Cn (vC σ) (vM μ) s s' a b ∧ Cu σ μ u u' a b t (c + 1) := ⟨q.cn (Loc_k σ μ) ho, q.cn (Loc_v σ μ) ho, q.cu⟩
theorem TBind.cuT {σ μ : S5} {v : Int32} {i : Nat} {s s' u u' a b t n c : Int32} (q : TBind σ μ (TR σ μ) v i s s' u u' a b t n c) (ha0 : 0 ≤ a) (ha1 : a < 3200) (ht0 : 0 ≤ t) (htc : t ≤ c) (hc1 : c < 7000) : Cu σ μ u u' a b t (c + 1) := by
  obtain ⟨d1, d2, d3, d4, d5, c1, d6, d7, d8, d9⟩ := q
  subst d2
  have hc0 : 0 ≤ c := i_trans ht0 htc
  rcases d9 with ⟨d9, d10, d11⟩ | d9
  · have y := d10.cu
    rw [← d8] at y
    exact ((Cu.m ha0 ha1 (by rw [d1]; decide)).tr y).tr (Cu.c hc0 hc1 (by rw [d3]; decide))
  · have k4 : 0 ≤ c1 := by
      obtain ⟨g1, g2, g3, g4, g5, g6, g7, g8, g9, c9, g10, g11, g12, g13, g14⟩ := d9
      unfold Wi at g13
      clear g12
      grind
    have y := d9.cu (fun _ _ _ _ _ _ _ _ _ _ w => w.cu) (Or.inl d1) ha0 ha1 k4 (by clear d9; grind)
    rw [← d8] at y
    exact y.tr (Cu.c hc0 hc1 (by rw [d3]; decide))
theorem TAlt.cuT {σ μ : S5} {h : Int32} {i : Nat} {s s' u u' a b t n c : Int32} (q : TAlt σ μ (TR σ μ) h i s s' u u' a b t n c) (ha0 : 0 ≤ a) (ha1 : a < 3200) (ht0 : 0 ≤ t) (htc : t ≤ c) (hc1 : c < 7000) : Cu σ μ u u' a b t (c + 1) := by
  obtain ⟨d1, d2, c1, d3, d4, d5, d6⟩ := q
  subst d2
  have hc0 : 0 ≤ c := i_trans ht0 htc
  rcases d6 with ⟨f1, f2, f3, f4, f5, f6, f7, f8, f9, f10, f11, f12, f13⟩ | ⟨f1, f2, f3, f4⟩
  · have y := f12.cu
    rw [← d5] at y
    exact ((Cu.m ha0 ha1 (by rw [d1]; decide)).tr y).tr (Cu.c hc0 hc1 (by rw [f2]; decide))
  · have y := f3.cu
    rw [← d5] at y
    refine ((Cu.m ha0 ha1 (by rw [d1]; decide)).tr y).tr (Cu.c hc0 hc1 ?_)
    rcases f2 with ⟨_, w, _⟩ | ⟨_, w⟩ <;> rw [w] <;> decide
/-- EVERY NODE, SCOPE AND USE OF A SUBTREE -/
theorem TR.cov {σ μ : S5} {S : Int32} {h s s' u u' a b t n c : Int32} (q : TR σ μ h s s' u u' a b t n c) : s' ≤ S → Cx σ μ h s u a t → CV σ μ S s s' u u' t (c + 1) := by
  refine TR.ind (P := fun h s s' u u' a b t n c => s' ≤ S → Cx σ μ h s u a t → CV σ μ S s s' u u' t (c + 1)) ?_ q
  clear q
  intro h s s' u u' a b t n c q hS cx
  have qT : TR σ μ h s s' u u' a b t n c := TR.fold (TF_mono (fun _ _ _ _ _ _ _ _ _ _ v => v.1) q)
  obtain ⟨hb, q⟩ := q
  have hR : HC σ μ S (fun h s s' u u' a b t n c => TR σ μ h s s' u u' a b t n c ∧ (s' ≤ S → Cx σ μ h s u a t → CV σ μ S s s' u u' t (c + 1))) := fun _ _ _ _ _ _ _ _ _ _ w => w
  unfold Bd at hb
  obtain ⟨b1, b2, b3, b4, b5, b6, b7, b8, b9, b10, b11, b12, b13, b14⟩ := hb
  have hn0 : 0 ≤ n := i_trans b8 b9
  have hn1 : n < 3200 := by clear q qT hR; grind
  have hc0 : 0 ≤ c := i_trans b12 b13
  have hc1 : c < 7000 := by clear q qT hR; grind
  have nd : CV σ μ S s' s' u' u' c (c + 1) := CV.n (Or.inl ⟨h, s, s', u, u', a, b, t, n, hS, qT, cx⟩) hc0 hc1
  rcases q with q | q | q | q | q | q | q
  · obtain ⟨e1, e2, e3, e4, e5, e6, e7⟩ := q
    subst e1 e2 e3 e4
    rcases e7 with ⟨f1, f2, f3, f4, f5, f6, f7⟩ | ⟨f1, f2⟩
    · subst f3
      refine ⟨nd.1, nd.2.1, fun v w1 w2 => ?_⟩
      have : v = u := by clear nd qT hR; grind
      subst this
      exact ⟨h, a, t, ⟨b1, by clear nd qT hR; grind⟩, ⟨hn0, hn1⟩, ⟨hc0, b14⟩, f1, f2, e5, f4, f5, f6, f7, cx.2.2.2.2.1, cx.2.2.2.2.2⟩
    · subst f1
      exact nd
  · obtain ⟨e1, e2, e3, e4, e5, c1, c2, s1, u1, e6, e7, e8, e9, e10, -⟩ := q
    obtain ⟨k1, k2, k3⟩ := e6.1.sums cx.2.1
    have w7 := e7
    have w9 := e9
    unfold Wi at w7 w9
    have x := e6.2 (by clear nd qT hR e6 e8; grind) cx
    have cx2 := (cx.over k1 k2 k3 w7.2.1).node hn0 hn1 (fM_z (by rw [e1]; decide) (Or.inl (by rw [e1]; decide))) (vM_z (by rw [e1]; decide) e2) (by rw [e1]; decide)
    have y := e8.2 hS cx2
    rw [← e10] at y
    exact (x.tr y).tr nd
  · obtain ⟨e1, e2, e3, k, e4, e5, e6, e7⟩ := q
    obtain ⟨r1, -⟩ := e7.cx (σ1 := σ) (μ1 := μ) (hh := h) (fun i s1 s1' u1 u1' a1 b1 t1 n1 c1 _ w wi => w.1.sums ⟨cx.2.1.1, by have := cx.2.1.2; unfold Wi at wi; clear e7 nd qT hR w; grind⟩) (fun i _ => by
      unfold appGap
      by_cases h1 : i = 1
      · rw [if_pos h1]; exact Or.inr ⟨rfl, fM_z (by rw [e1]; decide) (Or.inl (by rw [e1]; decide)), vM_z (by rw [e1]; decide) e2, by rw [e1]; decide⟩
      · rw [if_neg h1]; exact Or.inl rfl) hn0 hn1 cx
    exact (r1.cv (fun i s1 s1' u1 u1' a1 b1 t1 n1 c1 _ w wi => w.1.2 (by unfold Wi at wi; clear e7 r1 nd qT hR w; grind) w.2)).tr nd
  · obtain ⟨e1, e2, e3, e4, e5, e6, e7, k, e8, e9, e10, e11⟩ := q
    subst e4
    have cx2 := cx.node hn0 hn1 (fM_z (by rw [e1]; decide) (Or.inl (by rw [e1]; decide))) (vM_z (by rw [e1]; decide) e2) (by rw [e1]; decide)
    obtain ⟨r1, -⟩ := e11.cx (σ1 := σ) (μ1 := μ) (hh := h) (fun i s1 s1' u1 u1' a1 b1 t1 n1 c1 _ w wi => w.1.sums ⟨cx.2.1.1, by have := cx.2.1.2; unfold Wi at wi; clear e11 nd qT hR w; grind⟩) (fun i _ => Or.inl rfl) hn0 hn1 cx2
    exact (r1.cv (fun i s1 s1' u1 u1' a1 b1 t1 n1 c1 _ w wi => w.1.2 (by unfold Wi at wi; clear e11 r1 nd qT hR w; grind) w.2)).tr nd
  · obtain ⟨e1, e2, e3⟩ := q
    subst e2
    exact e3.cv hR (Or.inr e1) hn0 b11 hS b4 hc0 hc1 cx
  · obtain ⟨e1, e2, e3, e4, e5, e6, e7, e8, k, s1, u1, a1, t1, c0, e9, e10, e11, e12, e13, e14, e15, e16, e17, e18, e19, e20⟩ := q
    subst e3
    have w20 := e20
    unfold Wi at w20
    have hs0 : 0 ≤ s := by clear e14 e19 nd qT hR; grind
    have hne : ¬ xA σ 22 s = s := by rw [e7]; have := cx.2.1.2; clear e14 e19 nd qT hR; grind
    have hc : fC σ s.toNatClampNeg = 0 := by unfold fC; rw [xA_tn, ← nI_tn hs0, if_neg (fun w => hne w.1)]
    have hm : fM μ a.toNatClampNeg = 0 := fM_z (by rw [e1]; decide) (Or.inl (by rw [e1]; decide))
    have ev : vC σ s.toNatClampNeg = vM μ a.toNatClampNeg := by
      obtain ⟨g, cc, fs', fu, fn, ft, r1, r2, r3, r4, r5, r6, r7, r8, r9, hi⟩ := e14
      exact (Loc_v σ μ).2.1 s a k g hs0 (by clear hi e19 nd qT hR; grind) e1 e11 e9 e10 hne r8 (fun i hk => by
        obtain ⟨d1, d2, d3, d4, d5, d6, d7, d8, d9⟩ := hi i hk
        refine ⟨?_, d6⟩
        unfold Wi at d2
        clear hi d1 e19 nd qT hR
        grind)
    have cx2 := cx.sub (by clear e14 e19 nd qT hR; grind) hn0 hn1 (hc.trans hm.symm) ev (by rw [e1]; decide) (Or.inr e7)
    have i5 : ∀ i, i < k → i < 5 := fun i hi => by omega
    have e14' : TRow σ μ (fun i s1 s1' u1 u1' a1 b1 t1 n1 c1 => TBind σ μ (fun h s s' u u' a b t n c => TR σ μ h s s' u u' a b t n c ∧ (s' ≤ S → Cx σ μ h s u a t → CV σ μ S s s' u u' t (c + 1))) s i s1 s1' u1 u1' a1 b1 t1 n1 c1) k (s + 1) s1 u u1 (a + 1) a1 t t1 (xA μ 3 a) (xA σ 17 c0) a noGap := e14
    obtain ⟨r1, r2⟩ := e14'.cx (σ1 := σ) (μ1 := μ) (hh := s) (fun i s2 s2' u2 u2' a2 b2 t2 n2 c2 _ w wi => by
      have wT := w.mono (R' := TR σ μ) (fun _ _ _ _ _ _ _ _ _ _ r => r.1)
      have ow : Ow σ s s2 := ⟨cx2.2.1.1, by have := cx2.2.1.2; unfold Wi at wi; clear e14 e14' e19 nd qT hR w wT; grind⟩
      unfold Wi at wi
      have k0 : 0 ≤ a2 := by clear e14 e14' e19 nd qT hR w wT; grind
      have k1 : a2 < 3200 := by clear e14 e14' e19 nd qT hR w wT; grind
      have k2 : 0 ≤ s2 := by clear e14 e14' e19 nd qT hR w wT; grind
      have k3 : s2' ≤ 700 := by clear e14 e14' e19 nd qT hR w wT; grind
      exact ⟨wT.cn (Loc_k σ μ) (fun _ _ _ _ _ _ _ _ _ _ r => r.cn (Loc_k σ μ)) ow hs0 k2 wi.2.1 k3 k0 k1, wT.cn (Loc_v σ μ) (fun _ _ _ _ _ _ _ _ _ _ r => r.cn (Loc_v σ μ)) ow hs0 k2 wi.2.1 k3 k0 k1, wT.cuT k0 k1 (by clear e14 e14' e19 nd qT hR w wT; grind) (by clear e14 e14' e19 nd qT hR w wT; grind) (by clear e14 e14' e19 nd qT hR w wT; grind)⟩) (fun i _ => Or.inl rfl) hn0 hn1 cx2
    have rows := r1.cv (σ1 := σ) (μ1 := μ) (S := S) (fun i s2 s2' u2 u2' a2 b2 t2 n2 c2 hik w wi => by
      unfold Wi at wi
      exact w.1.cv hR (i5 i hik) (by clear e14 e14' r1 e19 nd qT hR w; grind) (by clear e14 e14' r1 e19 nd qT hR w; grind) (by clear e14 e14' r1 e19 nd qT hR w; grind) (by clear e14 e14' r1 e19 nd qT hR w; grind) (by clear e14 e14' r1 e19 nd qT hR w; grind) (by clear e14 e14' r1 e19 nd qT hR w; grind) (by clear e14 e14' r1 e19 nd qT hR w; grind) (by clear e14 e14' r1 e19 nd qT hR w; grind) w.2)
    have body := e19.2 hS r2
    rw [← e13] at body
    exact (((CV.s (fun w => absurd w (by rw [hc]; decide)) hs0 (by clear e14 e14' r1 e19 nd qT hR; grind)).tr rows).tr body).tr nd
  · obtain ⟨e1, e2, e3, e4, k, s1, u1, a1, c0, e9, e10, e11, e12, e13, e14, e15, e16, e17⟩ := q
    subst e3
    have w13 := e13
    unfold Wi at w13
    have cx2 := cx.node hn0 hn1 (fM_z (by rw [e1]; decide) (Or.inl (by rw [e1]; decide))) (vM_z (by rw [e1]; decide) e2) (by rw [e1]; decide)
    obtain ⟨k1, k2, k3⟩ := e12.1.sums cx2.2.1
    have ask := e12.2 (by clear e14 e12 nd qT hR; grind) cx2
    have cx3 := cx2.over k1 k2 k3 w13.2.1
    obtain ⟨r1, r2⟩ := e14.cx (σ1 := σ) (μ1 := μ) (hh := h) (fun i s2 s2' u2 u2' a2 b2 t2 n2 c2 _ w wi => by
      have wT := w.mono (R' := TR σ μ) (fun _ _ _ _ _ _ _ _ _ _ r => r.1)
      have ow : Ow σ h s2 := ⟨cx3.2.1.1, by have := cx3.2.1.2; unfold Wi at wi; clear e14 e12 nd qT hR w wT; grind⟩
      unfold Wi at wi
      have j0 : 0 ≤ a2 := by clear e14 e12 nd qT hR w wT; grind
      have j1 : a2 < 3200 := by clear e14 e12 nd qT hR w wT; grind
      have j2 : 0 ≤ s2 := by clear e14 e12 nd qT hR w wT; grind
      have j3 : s2' ≤ 700 := by clear e14 e12 nd qT hR w wT; grind
      exact ⟨wT.cn (Loc_k σ μ) (fun _ _ _ _ _ _ _ _ _ _ r => r.cn (Loc_k σ μ)) ow j2 wi.2.1 j3 j0 j1, wT.cn (Loc_v σ μ) (fun _ _ _ _ _ _ _ _ _ _ r => r.cn (Loc_v σ μ)) ow j2 wi.2.1 j3 j0 j1, wT.cuT j0 j1 (by clear e14 e12 nd qT hR w wT; grind) (by clear e14 e12 nd qT hR w wT; grind) (by clear e14 e12 nd qT hR w wT; grind)⟩) (fun i _ => Or.inl rfl) hn0 hn1 cx3
    have rows := r1.cv (σ1 := σ) (μ1 := μ) (S := S) (fun i s2 s2' u2 u2' a2 b2 t2 n2 c2 hik w wi => by
      unfold Wi at wi
      exact w.1.cv hR (by clear e14 r1 e12 nd qT hR w; grind) (by clear e14 r1 e12 nd qT hR w; grind) (by clear e14 r1 e12 nd qT hR w; grind) (by clear e14 r1 e12 nd qT hR w; grind) (by clear e14 r1 e12 nd qT hR w; grind) (by clear e14 r1 e12 nd qT hR w; grind) (by clear e14 r1 e12 nd qT hR w; grind) (by clear e14 r1 e12 nd qT hR w; grind) w.2)
    exact (ask.tr rows).tr nd
