/-- a function within, with bounds -/
def FX (σ μ : S5) (S U B E : Int32) (x : Int32) : Prop := ∃ h s' u u' y b t c, TFun σ μ (TR σ μ) h x s' u u' y b t c ∧ Cx σ μ h x u y t ∧ (xA μ 2 y = 1 ∨ xA μ 2 y = 2) ∧ (s' ≤ S ∧ s' ≤ 700 ∧ u' ≤ U ∧ 0 ≤ y ∧ y < b ∧ b ≤ B ∧ b ≤ 3200 ∧ 0 ≤ c ∧ c < E ∧ c < 6200)
def CF (σ μ : S5) (S U B E : Int32) (x : Int32) : Prop := fC σ x.toNatClampNeg = 1 → FX σ μ S U B E x
/-- what is wanted of a subtree -/
def PFx (σ μ : S5) (S U B E : Int32) (h s s' u u' a b t n c : Int32) : Prop := s' ≤ S → u' ≤ U → b ≤ B → c < E → Cx σ μ h s u a t → ∀ x, s ≤ x → x < s' → CF σ μ S U B E x
def HFx (σ μ : S5) (S U B E : Int32) (R : R10) : Prop := ∀ h s s' u u' a b t n c, R h s s' u u' a b t n c → TR σ μ h s s' u u' a b t n c ∧ PFx σ μ S U B E h s s' u u' a b t n c
theorem TFun.fx {σ μ : S5} {S U B E : Int32} {R : R10} (hR : HFx σ μ S U B E R) {h s s' u u' n b t c : Int32} (q : TFun σ μ R h s s' u u' n b t c) (hk : xA μ 2 n = 1 ∨ xA μ 2 n = 2) (hn0 : 0 ≤ n) (hnb : n < b) (hb : b ≤ 3200) (hS : s' ≤ S) (hU : u' ≤ U) (hB : b ≤ B) (hc0 : 0 ≤ c) (hc6 : c < 6200) (hE : c < E) (hs7 : s' ≤ 700) (cx : Cx σ μ h s u n t) : ∀ x, s ≤ x → x < s' → CF σ μ S U B E x := by
  have qT : TFun σ μ (TR σ μ) h s s' u u' n b t c := TFun_mono (fun _ _ _ _ _ _ _ _ _ _ r => (hR _ _ _ _ _ _ _ _ _ _ r).1) q
  obtain ⟨e1, e2, e3, e4, e5, e6, e7, e8, e9, c2, e10, e11, e12, e13, e14⟩ := q
  obtain ⟨x1, x2⟩ := hR _ _ _ _ _ _ _ _ _ _ e12
  clear hR e12
  unfold Wi at e13
  have hs0 : 0 ≤ s := by have := cx.1; clear x1 x2 qT cx; grind
  have s7 : s < 700 := by clear x1 x2 qT cx; grind
  have f1 : fM μ n.toNatClampNeg = 1 := by
    unfold fM
    rw [xA_tn, xA_tn, if_pos (hk.elim (fun w => Or.inr ⟨w, e8⟩) Or.inl)]
  have c1 : fC σ s.toNatClampNeg = 1 := by
    unfold fC
    rw [xA_tn, xA_tn, ← nI_tn hs0, if_pos ⟨e5, by rw [e4]; have := cx.1; clear x1 x2 qT cx; grind⟩]
  have hv := vCM (σ := σ) (s := s) (n := n) (by rcases hk with w | w <;> rw [w] <;> decide) e7.1
  have y := x2 hS hU hB (by clear x1 x2 qT cx; grind) (cx.sub s7 hn0 (i_lt_le hnb hb) (c1.trans f1.symm) hv (by rcases hk with w | w <;> rw [w] <;> decide) (Or.inl e5))
  intro x hx1 hx2
  by_cases hxs : x = s
  · subst hxs
    exact fun _ => ⟨h, s', u, u', n, b, t, c, qT, cx, hk, hS, hs7, hU, hn0, hnb, hB, hb, hc0, hE, hc6⟩
  · exact y x (by clear y x1 x2 qT cx; grind) hx2
/-- every function within a subtree -/
theorem TR.fx {σ μ : S5} {S U B E : Int32} {h s s' u u' a b t n c : Int32} (q : TR σ μ h s s' u u' a b t n c) : PFx σ μ S U B E h s s' u u' a b t n c := by
  refine TR.ind (P := fun h s s' u u' a b t n c => PFx σ μ S U B E h s s' u u' a b t n c) ?_ q
  clear q
  intro h s s' u u' a b t n c q hS hU hB hE cx
  have hR : HFx σ μ S U B E (fun h s s' u u' a b t n c => TR σ μ h s s' u u' a b t n c ∧ PFx σ μ S U B E h s s' u u' a b t n c) := fun _ _ _ _ _ _ _ _ _ _ w => w
  obtain ⟨hb, q⟩ := q
  unfold Bd at hb
  obtain ⟨b1, b2, b3, b4, b5, b6, b7, b8, b9, b10, b11, b12, b13, b14⟩ := hb
  have hn0 : 0 ≤ n := i_trans b8 b9
  have hn1 : n < 3200 := i_lt_le b10 b11
  have hc0 : 0 ≤ c := i_trans b12 b13
  rcases q with q | q | q | q | q | q | q
  · intro x h1 h2
    rw [q.1] at h2
    exact absurd h2 (by clear q hR cx; grind)
  · obtain ⟨e1, e2, e3, e4, e5, c1, c2, s1, u1, e6, e7, e8, e9, e10, -⟩ := q
    obtain ⟨k1, k2, k3⟩ := e6.1.sums cx.2.1
    unfold Wi at e7 e9
    have cx2 := (cx.over k1 k2 k3 e7.2.1).node hn0 hn1 (fM_z (by rw [e1]; decide) (Or.inl (by rw [e1]; decide))) (vM_z (by rw [e1]; decide) e2) (by rw [e1]; decide)
    clear k1 k2 k3
    have x1 := e6.2 (by clear e6 e8 hR cx cx2; grind) (by clear e6 e8 hR cx cx2; grind) (by clear e6 e8 hR cx cx2; grind) (by clear e6 e8 hR cx cx2; grind) cx
    have x2 := e8.2 hS hU hB (by clear e6 e8 x1 hR cx cx2; grind) cx2
    intro x h1 h2
    by_cases hx : x < s1
    · exact x1 x h1 hx
    · exact x2 x (by clear e6 e8 x1 x2 hR cx cx2; grind) h2
  · obtain ⟨e1, e2, e3, k, e4, e5, e6, e7⟩ := q
    obtain ⟨r1, -⟩ := e7.cx (σ1 := σ) (μ1 := μ) (hh := h) (fun i s1 s1' u1 u1' a1 b1 t1 n1 c1 _ w wi => w.1.sums ⟨cx.2.1.1, by have := cx.2.1.2; unfold Wi at wi; clear e7 hR w cx; grind⟩) (fun i _ => by
      unfold appGap
      by_cases h1 : i = 1
      · rw [if_pos h1]; exact Or.inr ⟨rfl, fM_z (by rw [e1]; decide) (Or.inl (by rw [e1]; decide)), vM_z (by rw [e1]; decide) e2, by rw [e1]; decide⟩
      · rw [if_neg h1]; exact Or.inl rfl) hn0 hn1 cx
    exact r1.cov (Q := CF σ μ S U B E) (fun i s1 s1' u1 u1' a1 b1 t1 n1 c1 _ w wi => by
      unfold Wi at wi
      exact w.1.2 (by clear e7 r1 hR w cx; grind) (by clear e7 r1 hR w cx; grind) (by clear e7 r1 hR w cx; grind) (by clear e7 r1 hR w cx; grind) w.2)
  · obtain ⟨e1, e2, e3, e4, e5, e6, e7, k, e8, e9, e10, e11⟩ := q
    subst e4
    have cx2 := cx.node hn0 hn1 (fM_z (by rw [e1]; decide) (Or.inl (by rw [e1]; decide))) (vM_z (by rw [e1]; decide) e2) (by rw [e1]; decide)
    obtain ⟨r1, -⟩ := e11.cx (σ1 := σ) (μ1 := μ) (hh := h) (fun i s1 s1' u1 u1' a1 b1 t1 n1 c1 _ w wi => w.1.sums ⟨cx.2.1.1, by have := cx.2.1.2; unfold Wi at wi; clear e11 hR w cx cx2; grind⟩) (fun i _ => Or.inl rfl) hn0 hn1 cx2
    exact r1.cov (Q := CF σ μ S U B E) (fun i s1 s1' u1 u1' a1 b1 t1 n1 c1 _ w wi => by
      unfold Wi at wi
      exact w.1.2 (by clear e11 r1 hR w cx cx2; grind) (by clear e11 r1 hR w cx cx2; grind) (by clear e11 r1 hR w cx cx2; grind) (by clear e11 r1 hR w cx cx2; grind) w.2)
  · obtain ⟨e1, e2, e3⟩ := q
    subst e2
    exact e3.fx hR (Or.inr e1) hn0 b10 b11 hS hU hB hc0 b14 hE b4 cx
  · obtain ⟨e1, e2, e3, e4, e5, e6, e7, e8, k, s1, u1, a1, t1, c0, e9, e10, e11, e12, e13, e14, e15, e16, e17, e18, e19, e20⟩ := q
    subst e3
    unfold Wi at e20
    have hs0 : 0 ≤ s := by clear e14 e19 hR cx; grind
    have s7 : s < 700 := by clear e14 e19 hR cx; grind
    have hne : ¬ xA σ 22 s = s := by rw [e7]; have := cx.2.1.2; clear e14 e19 hR cx; grind
    have hc : fC σ s.toNatClampNeg = 0 := by unfold fC; rw [xA_tn, ← nI_tn hs0, if_neg (fun w => hne w.1)]
    have hm : fM μ a.toNatClampNeg = 0 := fM_z (by rw [e1]; decide) (Or.inl (by rw [e1]; decide))
    have ev : vC σ s.toNatClampNeg = vM μ a.toNatClampNeg := by
      obtain ⟨g, cc, fs', fu, fn, ft, r1, r2, r3, r4, r5, r6, r7, r8, r9, hi⟩ := e14
      exact (Loc_v σ μ).2.1 s a k g hs0 s7 e1 e11 e9 e10 hne r8 (fun i hk => by
        obtain ⟨d1, d2, d3, d4, d5, d6, d7, d8, d9⟩ := hi i hk
        refine ⟨?_, d6⟩
        unfold Wi at d2
        clear hi d1 e19 hR cx
        grind)
    have cx2 := cx.sub s7 hn0 hn1 (hc.trans hm.symm) ev (by rw [e1]; decide) (Or.inr e7)
    have e14' : TRow σ μ (fun i s1 s1' u1 u1' a1 b1 t1 n1 c1 => TBind σ μ (fun h s s' u u' a b t n c => TR σ μ h s s' u u' a b t n c ∧ PFx σ μ S U B E h s s' u u' a b t n c) s i s1 s1' u1 u1' a1 b1 t1 n1 c1) k (s + 1) s1 u u1 (a + 1) a1 t t1 (xA μ 3 a) (xA σ 17 c0) a noGap := e14
    obtain ⟨r1, r2⟩ := e14'.cx (σ1 := σ) (μ1 := μ) (hh := s) (fun i s2 s2' u2 u2' a2 b2 t2 n2 c2 _ w wi => by
      have wT := w.mono (R' := TR σ μ) (fun _ _ _ _ _ _ _ _ _ _ r => r.1)
      have ow : Ow σ s s2 := ⟨cx2.2.1.1, by have := cx2.2.1.2; unfold Wi at wi; clear e14 e14' e19 hR w wT cx cx2; grind⟩
      unfold Wi at wi
      have k0 : 0 ≤ a2 := by clear e14 e14' e19 hR w wT cx cx2; grind
      have k1 : a2 < 3200 := by clear e14 e14' e19 hR w wT cx cx2; grind
      have k2 : 0 ≤ s2 := by clear e14 e14' e19 hR w wT cx cx2; grind
      have k3 : s2' ≤ 700 := by clear e14 e14' e19 hR w wT cx cx2; grind
      exact ⟨wT.cn (Loc_k σ μ) (fun _ _ _ _ _ _ _ _ _ _ r => r.cn (Loc_k σ μ)) ow hs0 k2 wi.2.1 k3 k0 k1, wT.cn (Loc_v σ μ) (fun _ _ _ _ _ _ _ _ _ _ r => r.cn (Loc_v σ μ)) ow hs0 k2 wi.2.1 k3 k0 k1, wT.cuT k0 k1 (by clear e14 e14' e19 hR w wT cx cx2; grind) (by clear e14 e14' e19 hR w wT cx cx2; grind) (by clear e14 e14' e19 hR w wT cx cx2; grind)⟩) (fun i _ => Or.inl rfl) hn0 hn1 cx2
    have rows := r1.cov (Q := CF σ μ S U B E) (fun i s2 s2' u2 u2' a2 b2 t2 n2 c2 hik w wi => by
      unfold Wi at wi
      obtain ⟨⟨d1, d2, d3, d4, d5, c1, d6, d7, d8, d9⟩, w2⟩ := w
      subst d2
      have k0 : 0 ≤ a2 := by clear e14 e14' r1 e19 hR d9 cx cx2 w2; grind
      have k1 : a2 < 3200 := by clear e14 e14' r1 e19 hR d9 cx cx2 w2; grind
      have y1 : s2' ≤ S := by clear e14 e14' r1 e19 hR d9 cx cx2 w2; grind
      have y2 : u2' ≤ U := by clear e14 e14' r1 e19 hR d9 cx cx2 w2; grind
      have y3 : b2 ≤ B := by clear e14 e14' r1 e19 hR d9 cx cx2 w2; grind
      have y4 : b2 ≤ 3200 := by clear e14 e14' r1 e19 hR d9 cx cx2 w2; grind
      rcases d9 with ⟨f1, f2, f3⟩ | f
      · unfold Wi at f3
        exact f2.2 y1 y2 y3 (by clear e14 e14' r1 e19 hR f2 cx cx2 w2; grind) (w2.node k0 k1 (fM_z (by rw [d1]; decide) (Or.inr f1)) (vM_z (by rw [d1]; decide) f1) (by rw [d1]; decide))
      · have k4 : 0 ≤ c1 := by
          obtain ⟨g1, g2, g3, g4, g5, g6, g7, g8, g9, c9, g10, g11, g12, g13, g14⟩ := f
          unfold Wi at g13
          clear e14 e14' r1 e19 hR g12 cx cx2 w2
          grind
        exact f.fx hR (Or.inl d1) k0 (by clear e14 e14' r1 e19 hR f cx cx2 w2; grind) y4 y1 y2 y3 k4 (by clear e14 e14' r1 e19 hR f cx cx2 w2; grind) (by clear e14 e14' r1 e19 hR f cx cx2 w2; grind) (by clear e14 e14' r1 e19 hR f cx cx2 w2; grind) w2)
    have body := e19.2 hS hU hB (by clear e14 e14' r1 e19 hR cx cx2 rows; grind) r2
    intro x h1 h2
    by_cases hxs : x = s
    · subst hxs
      intro w
      omega
    · by_cases hx : x < s1
      · exact rows x (by clear e14 e14' r1 e19 hR cx cx2 rows body; grind) hx
      · exact body x (by clear e14 e14' r1 e19 hR cx cx2 rows body; grind) h2
  · obtain ⟨e1, e2, e3, e4, k, s1, u1, a1, c0, e9, e10, e11, e12, e13, e14, e15, e16, e17⟩ := q
    subst e3
    unfold Wi at e13
    have cx2 := cx.node hn0 hn1 (fM_z (by rw [e1]; decide) (Or.inl (by rw [e1]; decide))) (vM_z (by rw [e1]; decide) e2) (by rw [e1]; decide)
    obtain ⟨k1, k2, k3⟩ := e12.1.sums cx2.2.1
    have cx3 := cx2.over k1 k2 k3 e13.2.1
    clear k1 k2 k3
    have ask := e12.2 (by clear e14 e12 hR cx cx2 cx3; grind) (by clear e14 e12 hR cx cx2 cx3; grind) (by clear e14 e12 hR cx cx2 cx3; grind) (by clear e14 e12 hR cx cx2 cx3; grind) cx2
    obtain ⟨r1, r2⟩ := e14.cx (σ1 := σ) (μ1 := μ) (hh := h) (fun i s2 s2' u2 u2' a2 b2 t2 n2 c2 _ w wi => by
      have wT := w.mono (R' := TR σ μ) (fun _ _ _ _ _ _ _ _ _ _ r => r.1)
      have ow : Ow σ h s2 := ⟨cx3.2.1.1, by have := cx3.2.1.2; unfold Wi at wi; clear e14 e12 hR w wT cx cx2 cx3 ask; grind⟩
      unfold Wi at wi
      have j0 : 0 ≤ a2 := by clear e14 e12 hR w wT cx cx2 cx3 ask; grind
      have j1 : a2 < 3200 := by clear e14 e12 hR w wT cx cx2 cx3 ask; grind
      have j2 : 0 ≤ s2 := by clear e14 e12 hR w wT cx cx2 cx3 ask; grind
      have j3 : s2' ≤ 700 := by clear e14 e12 hR w wT cx cx2 cx3 ask; grind
      exact ⟨wT.cn (Loc_k σ μ) (fun _ _ _ _ _ _ _ _ _ _ r => r.cn (Loc_k σ μ)) ow j2 wi.2.1 j3 j0 j1, wT.cn (Loc_v σ μ) (fun _ _ _ _ _ _ _ _ _ _ r => r.cn (Loc_v σ μ)) ow j2 wi.2.1 j3 j0 j1, wT.cuT j0 j1 (by clear e14 e12 hR w wT cx cx2 cx3 ask; grind) (by clear e14 e12 hR w wT cx cx2 cx3 ask; grind) (by clear e14 e12 hR w wT cx cx2 cx3 ask; grind)⟩) (fun i _ => Or.inl rfl) hn0 hn1 cx3
    have rows := r1.cov (Q := CF σ μ S U B E) (fun i s2 s2' u2 u2' a2 b2 t2 n2 c2 hik w wi => by
      unfold Wi at wi
      obtain ⟨⟨d1, d2, c1, d3, d4, d5, d6⟩, w2⟩ := w
      subst d2
      have k0 : 0 ≤ a2 := by clear e14 r1 e12 hR d6 cx cx2 cx3 w2 ask; grind
      have k1 : a2 < 3200 := by clear e14 r1 e12 hR d6 cx cx2 cx3 w2 ask; grind
      have y1 : s2' ≤ S := by clear e14 r1 e12 hR d6 cx cx2 cx3 w2 ask; grind
      have y2 : u2' ≤ U := by clear e14 r1 e12 hR d6 cx cx2 cx3 w2 ask; grind
      have y3 : b2 ≤ B := by clear e14 r1 e12 hR d6 cx cx2 cx3 w2 ask; grind
      rcases d6 with ⟨f1, f2, f3, f4, f5, f6, f7, f8, f9, f10, f11, f12, f13⟩ | ⟨f1, f2, f3, f4⟩
      · unfold Wi at f13
        have hs0 : 0 ≤ s2 := by have := w2.1; clear e14 r1 e12 hR f12 cx cx2 cx3 w2 ask; grind
        have s7 : s2 < 700 := by clear e14 r1 e12 hR f12 cx cx2 cx3 w2 ask; grind
        have hne : ¬ xA σ 22 s2 = s2 := by rw [f9]; have := w2.2.1.2; clear e14 r1 e12 hR f12 cx cx2 cx3 w2 ask; grind
        have hc : fC σ s2.toNatClampNeg = 0 := by unfold fC; rw [xA_tn, ← nI_tn hs0, if_neg (fun w => hne w.1)]
        have hm : fM μ a2.toNatClampNeg = 0 := fM_z (by rw [d1]; decide) (Or.inl (by rw [d1]; decide))
        have y := f12.2 y1 y2 y3 (by clear e14 r1 e12 hR f12 cx cx2 cx3 w2 ask; grind) (w2.sub s7 k0 k1 (hc.trans hm.symm) (vCM (by rw [d1]; decide) f10.1) (by rw [d1]; decide) (Or.inr f9))
        intro x h1 h2
        by_cases hxs : x = s2
        · subst hxs
          intro w
          omega
        · exact y x (by clear e14 r1 e12 hR f12 cx cx2 cx3 w2 ask y; grind) h2
      · unfold Wi at f4
        exact f3.2 y1 y2 y3 (by clear e14 r1 e12 hR f3 cx cx2 cx3 w2 ask; grind) (w2.node k0 k1 (fM_z (by rw [d1]; decide) (Or.inl (by rw [d1]; decide))) (vM_z (by rw [d1]; decide) f1) (by rw [d1]; decide)))
    intro x h1 h2
    by_cases hx : x < s1
    · exact ask x h1 hx
    · exact rows x (by clear e14 r1 e12 hR cx cx2 cx3 ask rows; grind) h2
