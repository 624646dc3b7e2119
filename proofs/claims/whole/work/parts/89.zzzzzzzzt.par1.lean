/-- a function's own body -/
def RtJ (σ : S5) (S j : Int32) : Prop := ∃ s, 0 ≤ s ∧ s < S ∧ xA σ 22 s = s ∧ xA σ 23 s = j
/-- a node above -/
def Abv (σ : S5) (c j : Int32) : Prop := ∃ (p : Int32) (l : Nat) (cc : Nat → Int32) (i : Nat), j < p ∧ p ≤ c ∧ CHn σ p l cc ∧ i < l ∧ cc i = j ∧ 5 ≤ xA σ 13 p ∧ xA σ 13 p ≤ 13 ∧ (l = 1 ∨ u1F (xA σ 13 p) = 1)
/-- every node is a function's body or has one above -/
def PAR (σ : S5) (S t c : Int32) : Prop := ∀ j, t ≤ j → j < c → RtJ σ S j ∨ Abv σ c j
theorem Abv.le {σ : S5} {c c' j : Int32} (h : Abv σ c j) (hc : c ≤ c') : Abv σ c' j := by
  obtain ⟨p, l, cc, i, h1, h2, h3⟩ := h
  exact ⟨p, l, cc, i, h1, i_trans h2 hc, h3⟩
theorem PAR.up {σ : S5} {S t c c' j : Int32} (h : PAR σ S t c) (hc : c ≤ c') (h1 : t ≤ j) (h2 : j < c) : RtJ σ S j ∨ Abv σ c' j := by
  rcases h j h1 h2 with w | w
  · exact Or.inl w
  · exact Or.inr (w.le hc)
theorem j_su {j c : Int32} (h : j < c + 1) (hc : 0 ≤ c) (h7 : c < 7000) : j < c ∨ j = c := by grind
/-- a row's pieces -/
theorem seg_of {ft cc : Nat → Int32} {j : Int32} : ∀ (k : Nat), (∀ i, i < k → 0 ≤ cc i ∧ cc i < 7000 ∧ ft (i + 1) = cc i + 1) → ft 0 ≤ j → j < ft k → ∃ i, i < k ∧ ft i ≤ j ∧ (j < cc i ∨ j = cc i)
  | 0, _, h1, h2 => absurd h2 (by grind)
  | k + 1, h, h1, h2 => by
    by_cases hk : j < ft k
    · obtain ⟨i, a, b⟩ := seg_of k (fun i hi => h i (by omega)) h1 hk
      exact ⟨i, by omega, b⟩
    · obtain ⟨a, b, e⟩ := h k (by omega)
      rw [e] at h2
      exact ⟨k, by omega, by grind, j_su h2 a b⟩
theorem TFun.par {σ μ : S5} {S : Int32} {R : R10} (hR : ∀ h s s' u u' a b t n c, R h s s' u u' a b t n c → TR σ μ h s s' u u' a b t n c ∧ (s' ≤ S → PAR σ S t c)) {h s s' u u' n b t c : Int32} (q : TFun σ μ R h s s' u u' n b t c) (hs0 : 0 ≤ s) (hs' : s' ≤ S) (hs7 : s' ≤ 700) : PAR σ S t c := by
  obtain ⟨e1, e2, e3, e4, e5, e6, e7, e8, e9, c2, e10, e11, e12, e13, e14⟩ := q
  obtain ⟨x1, x2⟩ := hR _ _ _ _ _ _ _ _ _ _ e12
  have hc2 := x1.c
  intro j j1 j2
  rw [e14] at j2
  have h7 : c2 < 7000 := i_lt_le hc2.2 (by decide)
  rcases j_su j2 hc2.1 h7 with w | w
  · exact (x2 hs').up (by rw [e14]; clear x1 x2 hR e12 e13; grind) j1 w
  · exact Or.inl ⟨s, hs0, su_lt e9 (i_trans e13.1 e13.2.1) hs7 hs', e5, by rw [e10, w]⟩
theorem TBind.par {σ μ : S5} {S : Int32} {R : R10} (hR : ∀ h s s' u u' a b t n c, R h s s' u u' a b t n c → TR σ μ h s s' u u' a b t n c ∧ (s' ≤ S → PAR σ S t c)) {v : Int32} {i : Nat} {s s' u u' a b t n c : Int32} (q : TBind σ μ R v i s s' u u' a b t n c) (hs0 : 0 ≤ s) (hs' : s' ≤ S) (hs7 : s' ≤ 700) : PAR σ S t c := by
  obtain ⟨d1, d2, d3, d4, d5, c1, d6, d7, d8, d9⟩ := q
  have hc1 : (0 ≤ c1 ∧ c1 < 7000) ∧ PAR σ S t c1 := by
    rcases d9 with ⟨f1, f2, f3⟩ | f
    · obtain ⟨x1, x2⟩ := hR _ _ _ _ _ _ _ _ _ _ f2
      exact ⟨⟨x1.c.1, i_lt_le x1.c.2 (by decide)⟩, x2 hs'⟩
    · refine ⟨?_, f.par hR hs0 hs' hs7⟩
      obtain ⟨g1, g2, g3, g4, g5, g6, g7, g8, g9, c9, g10, g11, g12, g13, g14⟩ := f
      have := (hR _ _ _ _ _ _ _ _ _ _ g12).1
      have hb := this.c
      clear hR g12 this
      grind
  obtain ⟨hc, hp⟩ := hc1
  intro j j1 j2
  rw [d8] at j2
  have h7 : c1 < 7000 := hc.2
  have hle : c1 < c := by rw [d8]; clear hp hR d9; grind
  rcases j_su j2 hc.1 h7 with w | w
  · exact hp.up (i_le_of_lt hle) j1 w
  · refine Or.inr ⟨c, 1, fun _ => c1, 0, by rw [w]; exact hle, Int32.le_refl _, ⟨by omega, d6, fun p hp => ⟨hc.1, hle, by rw [if_neg (by omega)]; exact d7⟩⟩, by omega, w.symm, by rw [d3]; decide, by rw [d3]; decide, Or.inl rfl⟩
theorem TAlt.par {σ μ : S5} {S : Int32} {R : R10} (hR : ∀ h s s' u u' a b t n c, R h s s' u u' a b t n c → TR σ μ h s s' u u' a b t n c ∧ (s' ≤ S → PAR σ S t c)) {h : Int32} {i : Nat} {s s' u u' a b t n c : Int32} (q : TAlt σ μ R h i s s' u u' a b t n c) (hs' : s' ≤ S) : PAR σ S t c := by
  obtain ⟨d1, d2, c1, d3, d4, d5, d6⟩ := q
  have hc1 : ((0 ≤ c1 ∧ c1 < 7000) ∧ PAR σ S t c1) ∧ (xA σ 13 c = 11 ∨ xA σ 13 c = 12 ∨ xA σ 13 c = 13) := by
    rcases d6 with ⟨f1, f2, f3, f4, f5, f6, f7, f8, f9, f10, f11, f12, f13⟩ | ⟨f1, f2, f3, f4⟩
    · obtain ⟨x1, x2⟩ := hR _ _ _ _ _ _ _ _ _ _ f12
      exact ⟨⟨⟨x1.c.1, i_lt_le x1.c.2 (by decide)⟩, x2 hs'⟩, Or.inl f2⟩
    · obtain ⟨x1, x2⟩ := hR _ _ _ _ _ _ _ _ _ _ f3
      refine ⟨⟨⟨x1.c.1, i_lt_le x1.c.2 (by decide)⟩, x2 hs'⟩, ?_⟩
      rcases f2 with ⟨_, w, _⟩ | ⟨_, w⟩
      · exact Or.inr (Or.inl w)
      · exact Or.inr (Or.inr w)
  obtain ⟨⟨hc, hp⟩, hk⟩ := hc1
  intro j j1 j2
  rw [d5] at j2
  have h7 : c1 < 7000 := hc.2
  have hle : c1 < c := by rw [d5]; clear hp hR d6; grind
  rcases j_su j2 hc.1 h7 with w | w
  · exact hp.up (i_le_of_lt hle) j1 w
  · refine Or.inr ⟨c, 1, fun _ => c1, 0, by rw [w]; exact hle, Int32.le_refl _, ⟨by omega, d3, fun p hp => ⟨hc.1, hle, by rw [if_neg (by omega)]; exact d4⟩⟩, by omega, w.symm, by rcases hk with w | w | w <;> rw [w] <;> decide, by rcases hk with w | w | w <;> rw [w] <;> decide, Or.inl rfl⟩
/-- EVERY NODE OF A SUBTREE HAS ONE ABOVE -/
theorem TR.par {σ μ : S5} {S : Int32} {h s s' u u' a b t n c : Int32} (q : TR σ μ h s s' u u' a b t n c) : s' ≤ S → PAR σ S t c := by
  refine TR.ind (P := fun h s s' u u' a b t n c => s' ≤ S → PAR σ S t c) ?_ q
  clear q
  intro h s s' u u' a b t n c q hS
  have qT : TR σ μ h s s' u u' a b t n c := TR.fold (TF_mono (fun _ _ _ _ _ _ _ _ _ _ v => v.1) q)
  have hR : ∀ h s s' u u' a b t n c, (TR σ μ h s s' u u' a b t n c ∧ (s' ≤ S → PAR σ S t c)) → TR σ μ h s s' u u' a b t n c ∧ (s' ≤ S → PAR σ S t c) := fun _ _ _ _ _ _ _ _ _ _ w => w
  obtain ⟨hb, q⟩ := q
  unfold Bd at hb
  obtain ⟨b1, b2, b3, b4, b5, b6, b7, b8, b9, b10, b11, b12, b13, b14⟩ := hb
  have hc0 : 0 ≤ c := i_trans b12 b13
  have hs0 : 0 ≤ s := i_trans b1 (i_le_of_lt b2)
  have h7c : c < 7000 := i_lt_le b14 (by decide)
  have row : ∀ (k : Nat) (cc ft : Nat → Int32) (P : Nat → Int32 → Int32 → Prop), 1 ≤ k → k ≤ 9 → xA σ 16 c = cc 0 → 5 ≤ xA σ 13 c → xA σ 13 c ≤ 13 → u1F (xA σ 13 c) = 1 → ft 0 = t → ft k = c → (∀ i, i < k → 0 ≤ cc i ∧ cc i < c ∧ PAR σ S (ft i) (cc i) ∧ ft (i + 1) = cc i + 1 ∧ xA σ 17 (cc i) = (if i + 1 < k then cc (i + 1) else -1)) → PAR σ S t c := by
    intro k cc ft P k1 k9 h16 h5 h13 hu e1 e2 hk j j1 j2
    rw [← e1] at j1
    rw [← e2] at j2
    obtain ⟨i, i1, i2, i3⟩ := seg_of k (fun i hi => ⟨(hk i hi).1, by have := (hk i hi).2.1; clear hk qT hR q; grind, (hk i hi).2.2.2.1⟩) j1 j2
    obtain ⟨x1, x2, x3, x4, x5⟩ := hk i i1
    rcases i3 with w | w
    · exact x3.up (i_le_of_lt x2) i2 w
    · exact Or.inr ⟨c, k, cc, i, by rw [w]; exact x2, Int32.le_refl _, ⟨⟨k1, k9⟩, h16, fun p hp => ⟨(hk p hp).1, (hk p hp).2.1, (hk p hp).2.2.2.2⟩⟩, i1, w.symm, h5, h13, Or.inr hu⟩
  rcases q with q | q | q | q | q | q | q
  · obtain ⟨e1, e2, e3, e4, e5, e6, e7⟩ := q
    intro j j1 j2
    rw [e4] at j1
    exact absurd j2 (by clear e7 qT; grind)
  · obtain ⟨e1, e2, e3, e4, e5, c1, c2, s1, u1, e6, e7, e8, e9, e10, e11, e12, e13⟩ := q
    unfold Wi at e7 e9
    refine row 2 (fun p => if p = 0 then c1 else c2) (fun p => if p = 0 then t else if p = 1 then c1 + 1 else c) (fun _ _ _ => True) (by omega) (by omega) e11 (by rw [e3]; decide) (by rw [e3]; decide) (by rw [e3]; rfl) rfl rfl (fun i hi => ?_)
    have hi : i = 0 ∨ i = 1 := by omega
    rcases hi with rfl | rfl
    · exact ⟨e6.1.c.1, by show c1 < c; clear e6 e8 qT row; grind, e6.2 (i_trans e7.2.2.1 hS), rfl, e12⟩
    · exact ⟨e8.1.c.1, by show c2 < c; clear e6 e8 qT row; grind, e8.2 hS, e10, e13⟩
  · obtain ⟨e1, e2, e3, k, e4, e5, e6, e7⟩ := q
    obtain ⟨g, cc, fs, fu, fn, ft, p1, p2, p3, p4, p5, p6, ⟨p7, p7'⟩, p8, p9, hi⟩ := e7
    refine row k cc ft (fun _ _ _ => True) (by omega) (by omega) p9.symm (by rw [e3]; decide) (by rw [e3]; decide) (by rw [e3]; rfl) p7 p7' (fun i hik => ?_)
    obtain ⟨d1, d2, d3, d4, d5, d6, d7, d8, d9⟩ := hi i hik
    unfold Wi at d2
    exact ⟨d1.1.c.1, d2.2.2.2.2.2.2.2.2.2.2.2, d1.2 (i_trans d2.2.2.1 hS), d5, d7⟩
  · obtain ⟨e1, e2, e3, e4, e5, e6, e7, k, e8, e9, e10, e11⟩ := q
    obtain ⟨g, cc, fs, fu, fn, ft, p1, p2, p3, p4, p5, p6, ⟨p7, p7'⟩, p8, p9, hi⟩ := e11
    refine row k cc ft (fun _ _ _ => True) (by omega) (by omega) p9.symm (by rw [e3]; decide) (by rw [e3]; decide) (by rw [e3]; rfl) p7 p7' (fun i hik => ?_)
    obtain ⟨d1, d2, d3, d4, d5, d6, d7, d8, d9⟩ := hi i hik
    unfold Wi at d2
    exact ⟨d1.1.c.1, d2.2.2.2.2.2.2.2.2.2.2.2, d1.2 (i_trans d2.2.2.1 hS), d5, d7⟩
  · exact q.2.2.par hR hs0 hS b4
  · obtain ⟨e1, e2, e3, e4, e5, e6, e7, e8, k, s1, u1, a1, t1, c0, e9, e10, e11, e12, e13, e14, e15, e16, e17, e18, e19, e20⟩ := q
    unfold Wi at e20
    obtain ⟨v1, v2, v3, v4, v5, v6, v7, v8, v9, v10, v11, v12⟩ := e20
    obtain ⟨g, bb, fs, fu, fn, ft, p1, p2, p3, p4, p5, p6, ⟨p7, p7'⟩, p8, p9, hi⟩ := e14
    have k00 := e19.1.c.1
    have hbb : ∀ i, i < k → (0 ≤ bb i ∧ bb i < c) ∧ PAR σ S (ft i) (bb i) ∧ ft (i + 1) = bb i + 1 ∧ xA σ 17 (bb i) = (if i + 1 < k then bb (i + 1) else -1) := fun i hik => by
      obtain ⟨d1, d2, d3, d4, d5, d6, d7, d8, d9⟩ := hi i hik
      unfold Wi at d2
      have y7 : 0 ≤ fs i := by clear hi d1 e19 qT row; grind
      refine ⟨⟨by clear hi d1 e19 qT row; grind, by clear hi d1 e19 qT row; grind⟩, d1.par hR y7 (i_trans (i_trans d2.2.2.1 v2) hS) (i_trans (i_trans d2.2.2.1 v2) b4), d5, d7⟩
    have hch : CHn σ c (k + 1) (fun p => if p = 0 then c0 else bb (p - 1)) := ⟨by omega, e12, fun p hp => by
      by_cases hp0 : p = 0
      · subst hp0
        exact ⟨k00, by show c0 < c; clear e19 hi qT row hbb; grind, by show xA σ 17 c0 = if 0 + 1 < k + 1 then bb 0 else -1; rw [if_pos (by omega)]; exact p9.symm⟩
      · obtain ⟨e, rfl⟩ : ∃ e, p = e + 1 := ⟨p - 1, by omega⟩
        obtain ⟨⟨x0, x1⟩, x2, x3, x4⟩ := hbb e (by omega)
        refine ⟨x0, x1, ?_⟩
        show xA σ 17 (bb e) = if e + 1 + 1 < k + 1 then bb (e + 1) else -1
        rw [x4]
        by_cases hek : e + 1 < k
        · rw [if_pos hek, if_pos (by omega)]
        · rw [if_neg hek, if_neg (by omega)]⟩
    intro j j1 j2
    by_cases hj : j < t1
    · rw [← p7] at j1
      rw [← p7'] at hj
      obtain ⟨i, i1, i2, i3⟩ := seg_of k (fun i hi => ⟨(hbb i hi).1.1, by have := (hbb i hi).1.2; clear hbb hi e19 qT row hch; grind, (hbb i hi).2.2.1⟩) j1 hj
      obtain ⟨⟨x0, x1⟩, x2, x3, x4⟩ := hbb i i1
      rcases i3 with w | w
      · exact x2.up (i_le_of_lt x1) i2 w
      · exact Or.inr ⟨c, k + 1, _, i + 1, by rw [w]; exact x1, Int32.le_refl _, hch, by omega, by show (if i + 1 = 0 then c0 else bb (i + 1 - 1)) = j; rw [if_neg (by omega), w]; rfl, by rw [e4]; decide, by rw [e4]; decide, Or.inr (by rw [e4]; rfl)⟩
    · have j1' : t1 ≤ j := by clear hbb hi e19 qT row hch; grind
      rw [e13] at j2
      rcases j_su j2 k00 (i_lt_le e19.1.c.2 (by decide)) with w | w
      · exact (e19.2 hS).up (i_le_of_lt v12) j1' w
      · exact Or.inr ⟨c, k + 1, _, 0, by rw [w]; exact v12, Int32.le_refl _, hch, by omega, w.symm, by rw [e4]; decide, by rw [e4]; decide, Or.inr (by rw [e4]; rfl)⟩
  · obtain ⟨e1, e2, e3, e4, k, s1, u1, a1, c0, e9, e10, e11, e12, e13, e14, e15, e16, e17⟩ := q
    unfold Wi at e13
    obtain ⟨v1, v2, v3, v4, v5, v6, v7, v8, v9, v10, v11, v12⟩ := e13
    obtain ⟨g, bb, fs, fu, fn, ft, p1, p2, p3, p4, p5, p6, ⟨p7, p7'⟩, p8, p9, hi⟩ := e14
    have k00 := e12.1.c.1
    have hbb : ∀ i, i < k → (0 ≤ bb i ∧ bb i < c) ∧ PAR σ S (ft i) (bb i) ∧ ft (i + 1) = bb i + 1 ∧ xA σ 17 (bb i) = (if i + 1 < k then bb (i + 1) else -1) := fun i hik => by
      obtain ⟨d1, d2, d3, d4, d5, d6, d7, d8, d9⟩ := hi i hik
      unfold Wi at d2
      refine ⟨⟨by clear hi d1 e12 qT row; grind, by clear hi d1 e12 qT row; grind⟩, d1.par hR (i_trans d2.2.2.1 hS), d5, d7⟩
    have hch : CHn σ c (k + 1) (fun p => if p = 0 then c0 else bb (p - 1)) := ⟨by omega, e11, fun p hp => by
      by_cases hp0 : p = 0
      · subst hp0
        exact ⟨k00, v12, by show xA σ 17 c0 = if 0 + 1 < k + 1 then bb 0 else -1; rw [if_pos (by omega)]; exact p9.symm⟩
      · obtain ⟨e, rfl⟩ : ∃ e, p = e + 1 := ⟨p - 1, by omega⟩
        obtain ⟨⟨x0, x1⟩, x2, x3, x4⟩ := hbb e (by omega)
        refine ⟨x0, x1, ?_⟩
        show xA σ 17 (bb e) = if e + 1 + 1 < k + 1 then bb (e + 1) else -1
        rw [x4]
        by_cases hek : e + 1 < k
        · rw [if_pos hek, if_pos (by omega)]
        · rw [if_neg hek, if_neg (by omega)]⟩
    intro j j1 j2
    by_cases hj : j < c0 + 1
    · rcases j_su hj k00 (i_lt_le e12.1.c.2 (by decide)) with w | w
      · exact (e12.2 (i_trans v3 hS)).up (i_le_of_lt v12) j1 w
      · exact Or.inr ⟨c, k + 1, _, 0, by rw [w]; exact v12, Int32.le_refl _, hch, by omega, w.symm, by rw [e4]; decide, by rw [e4]; decide, Or.inr (by rw [e4]; rfl)⟩
    · have j1' : ft 0 ≤ j := by rw [p7]; clear hbb hi e12 qT row hch; grind
      rw [← p7'] at j2
      obtain ⟨i, i1, i2, i3⟩ := seg_of k (fun i hi => ⟨(hbb i hi).1.1, by have := (hbb i hi).1.2; clear hbb hi e12 qT row hch; grind, (hbb i hi).2.2.1⟩) j1' j2
      obtain ⟨⟨x0, x1⟩, x2, x3, x4⟩ := hbb i i1
      rcases i3 with w | w
      · exact x2.up (i_le_of_lt x1) i2 w
      · exact Or.inr ⟨c, k + 1, _, i + 1, by rw [w]; exact x1, Int32.le_refl _, hch, by omega, by show (if i + 1 = 0 then c0 else bb (i + 1 - 1)) = j; rw [if_neg (by omega), w]; rfl, by rw [e4]; decide, by rw [e4]; decide, Or.inr (by rw [e4]; rfl)⟩
