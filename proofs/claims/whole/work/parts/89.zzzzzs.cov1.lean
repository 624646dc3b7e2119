def w3 (σ : S5) (i : Nat) : Nat := if xA σ 13 (nI i) = 3 then 1 else 0
/-- uses are counted alike by the reference's names and by the other's leaves -/
def Cu (σ μ : S5) (u u' a b t c : Int32) : Prop := u'.toNatClampNeg + prI (w8 μ) a = prI (w8 μ) b + u.toNatClampNeg ∧ u'.toNatClampNeg + prI (w3 σ) t = prI (w3 σ) c + u.toNatClampNeg
theorem Cu.tr {σ μ : S5} {u u1 u' a a1 b t t1 c : Int32} (h : Cu σ μ u u1 a a1 t t1) (h2 : Cu σ μ u1 u' a1 b t1 c) : Cu σ μ u u' a b t c := by
  unfold Cu at *
  omega
theorem Cu.m {σ μ : S5} {u a t : Int32} (h0 : 0 ≤ a) (h1 : a < 3200) (hk : ¬ xA μ 2 a = 8) : Cu σ μ u u a (a + 1) t t := by
  have e : w8 μ a.toNatClampNeg = 0 := by unfold w8; rw [xA_tn, if_neg hk]
  unfold Cu
  rw [prI_s _ h0 (lt_7 h1), e]
  omega
theorem Cu.c {σ μ : S5} {u a t : Int32} (h0 : 0 ≤ t) (h1 : t < 7000) (hk : ¬ xA σ 13 t = 3) : Cu σ μ u u a a t (t + 1) := by
  have e : w3 σ t.toNatClampNeg = 0 := by unfold w3; rw [xA_tn, if_neg hk]
  unfold Cu
  rw [prI_s _ h0 h1, e]
  omega
theorem TRow.cu {σ μ σ1 μ1 : S5} {P : Nat → Int32 → Int32 → Int32 → Int32 → Int32 → Int32 → Int32 → Int32 → Int32 → Prop} {k : Nat} {s s' u u' a b t c n1 c1 nn : Int32} {gap : Nat → Int32} (h : TRow σ μ P k s s' u u' a b t c n1 c1 nn gap) (hP : ∀ i s1 s1' u1 u1' a1 b1 t1 n1 c1, i < k → P i s1 s1' u1 u1' a1 b1 t1 n1 c1 → Wi s s' u u' a b t c s1 s1' u1 u1' a1 b1 t1 c1 → Cu σ1 μ1 u1 u1' a1 b1 t1 (c1 + 1)) (hg : ∀ i, i < k → gap i = 0 ∨ (gap i = 1 ∧ ¬ xA μ1 2 nn = 8)) (h0 : 0 ≤ nn) (h1 : nn < 3200) : Cu σ1 μ1 u u' a b t c := by
  obtain ⟨g, cc, fs, fu, fn, ft, e1, e2, e3, e4, e5, e6, ⟨e7, e7'⟩, e8, e9, hi⟩ := h
  have key : ∀ j, j ≤ k → Cu σ1 μ1 u (fu j) a (fn j) t (ft j) := by
    intro j
    induction j with
    | zero => intro _; unfold Cu; rw [e3, e5, e7]; omega
    | succ j ih =>
      intro hj
      have q := ih (by omega)
      obtain ⟨d1, d2, d3, d4, d5, d6, d7, d8, d9⟩ := hi j (by omega)
      have q2 := hP _ _ _ _ _ _ _ _ _ _ (by omega) d1 d2
      rw [← d5] at q2
      rcases hg j (by omega) with w | ⟨w, w0⟩
      · rw [w, Int32.add_zero] at q2
        exact q.tr q2
      · have hn := d8 w
        rw [w, hn] at q2
        rw [hn] at q
        exact (q.tr (Cu.m h0 h1 w0)).tr q2
  have := key k (Nat.le_refl _)
  rw [e4, e6, e7'] at this
  exact this
theorem TFun.cu {σ μ : S5} {R : R10} (hR : ∀ h s s' u u' a b t n c, R h s s' u u' a b t n c → Cu σ μ u u' a b t (c + 1)) {h s s' u u' n b t c : Int32} (q : TFun σ μ R h s s' u u' n b t c) (hk : xA μ 2 n = 1 ∨ xA μ 2 n = 2) (hn0 : 0 ≤ n) (hn1 : n < 3200) (hc0 : 0 ≤ c) (hc1 : c < 7000) : Cu σ μ u u' n b t (c + 1) := by
  obtain ⟨e1, e2, e3, e4, e5, e6, e7, e8, e9, c2, e10, e11, e12, e13, e14⟩ := q
  have x := hR _ _ _ _ _ _ _ _ _ _ e12
  rw [← e14] at x
  exact ((Cu.m hn0 hn1 (by rcases hk with w | w <;> rw [w] <;> decide)).tr x).tr (Cu.c hc0 hc1 (by rw [e1]; decide))
theorem TR.cu {σ μ : S5} {h s s' u u' a b t n c : Int32} (q : TR σ μ h s s' u u' a b t n c) : Cu σ μ u u' a b t (c + 1) := by
  refine TR.ind (P := fun h s s' u u' a b t n c => Cu σ μ u u' a b t (c + 1)) ?_ q
  clear q
  intro h s s' u u' a b t n c q
  obtain ⟨hb, q⟩ := q
  unfold Bd at hb
  obtain ⟨b1, b2, b3, b4, b5, b6, b7, b8, b9, b10, b11, b12, b13, b14⟩ := hb
  have hn0 : 0 ≤ n := i_trans b8 b9
  have hn1 : n < 3200 := by clear q; grind
  have hc0 : 0 ≤ c := i_trans b12 b13
  have hc1 : c < 7000 := by clear q; grind
  rcases q with q | q | q | q | q | q | q
  · obtain ⟨e1, e2, e3, e4, e5, e6, e7⟩ := q
    subst e2 e3 e4
    rcases e7 with ⟨f1, f2, f3, f4, f5, f6, f7⟩ | ⟨f1, f2⟩
    · subst f3
      have eu := tn_s b5 (by grind)
      have g8 : w8 μ a.toNatClampNeg = 1 := by unfold w8; rw [xA_tn, if_pos f1]
      have g3 : w3 σ t.toNatClampNeg = 1 := by unfold w3; rw [xA_tn, if_pos f2]
      unfold Cu
      rw [prI_s _ hn0 (lt_7 hn1), prI_s _ hc0 hc1, g8, g3]
      omega
    · subst f1
      have k1 : ¬ xA μ 2 a = 8 := by
        rcases f2 with ⟨w, _⟩ | ⟨w, _⟩ | ⟨w, _⟩ <;> rw [w] <;> decide
      have k2 : ¬ xA σ 13 t = 3 := by
        rcases f2 with ⟨_, w, _⟩ | ⟨_, w, _⟩ | ⟨_, w⟩ <;> rw [w] <;> decide
      exact (Cu.m hn0 hn1 k1).tr (Cu.c hc0 hc1 k2)
  · obtain ⟨e1, e2, e3, e4, e5, c1, c2, s1, u1, e6, e7, e8, e9, e10, -⟩ := q
    have x := e8.2
    rw [← e10] at x
    exact ((e6.2.tr (Cu.m hn0 hn1 (by rw [e1]; decide))).tr x).tr (Cu.c hc0 hc1 (by rw [e3]; decide))
  · obtain ⟨e1, e2, e3, k, e4, e5, e6, e7⟩ := q
    refine (e7.cu (σ1 := σ) (μ1 := μ) (fun i s1 s1' u1 u1' a1 b1 t1 n1 c1 _ w _ => w.2) (fun i _ => ?_) hn0 hn1).tr (Cu.c hc0 hc1 (by rw [e3]; decide))
    unfold appGap
    by_cases h1 : i = 1
    · rw [if_pos h1]; exact Or.inr ⟨rfl, by rw [e1]; decide⟩
    · rw [if_neg h1]; exact Or.inl rfl
  · obtain ⟨e1, e2, e3, e4, e5, e6, e7, k, e8, e9, e10, e11⟩ := q
    subst e4
    exact ((Cu.m hn0 hn1 (by rw [e1]; decide)).tr (e11.cu (σ1 := σ) (μ1 := μ) (fun i s1 s1' u1 u1' a1 b1 t1 n1 c1 _ w _ => w.2) (fun _ _ => Or.inl rfl) hn0 hn1)).tr (Cu.c hc0 hc1 (by rw [e3]; decide))
  · obtain ⟨e1, e2, e3⟩ := q
    subst e2
    exact e3.cu (fun _ _ _ _ _ _ _ _ _ _ w => w.2) (Or.inr e1) hn0 hn1 hc0 hc1
  · obtain ⟨e1, e2, e3, e4, e5, e6, e7, e8, k, s1, u1, a1, t1, c0, e9, e10, e11, e12, e13, e14, e15, e16, e17, e18, e19, e20⟩ := q
    subst e3
    have x := e19.2
    rw [← e13] at x
    unfold Wi at e20
    refine (((Cu.m hn0 hn1 (by rw [e1]; decide)).tr (e14.cu (σ1 := σ) (μ1 := μ) ?_ (fun _ _ => Or.inl rfl) hn0 hn1)).tr x).tr (Cu.c hc0 hc1 (by rw [e4]; decide))
    intro i s2 s2' u2 u2' a2 b2 t2 n2 c2 _ w wi
    unfold Wi at wi
    obtain ⟨d1, d2, d3, d4, d5, c1, d6, d7, d8, d9⟩ := w
    subst d2
    have k0 : 0 ≤ a2 := by clear e14 x d9; grind
    have k1 : a2 < 3200 := by clear e14 x d9; grind
    have k2 : 0 ≤ c2 := by clear e14 x d9; grind
    have k3 : c2 < 7000 := by clear e14 x d9; grind
    rcases d9 with ⟨d9, d10, d11⟩ | d9
    · have y := d10.2
      rw [← d8] at y
      exact ((Cu.m k0 k1 (by rw [d1]; decide)).tr y).tr (Cu.c k2 k3 (by rw [d3]; decide))
    · have k4 : 0 ≤ c1 := by
        obtain ⟨g1, g2, g3, g4, g5, g6, g7, g8, g9, c9, g10, g11, g12, g13, g14⟩ := d9
        unfold Wi at g13
        clear e14 x g12
        grind
      have y := d9.cu (fun _ _ _ _ _ _ _ _ _ _ w => w.2) (Or.inl d1) k0 k1 k4 (by clear e14 x d9; grind)
      rw [← d8] at y
      exact y.tr (Cu.c k2 k3 (by rw [d3]; decide))
  · obtain ⟨e1, e2, e3, e4, k, s1, u1, a1, c0, e9, e10, e11, e12, e13, e14, e15, e16, e17⟩ := q
    subst e3
    unfold Wi at e13
    refine (((Cu.m hn0 hn1 (by rw [e1]; decide)).tr e12.2).tr (e14.cu (σ1 := σ) (μ1 := μ) ?_ (fun _ _ => Or.inl rfl) hn0 hn1)).tr (Cu.c hc0 hc1 (by rw [e4]; decide))
    intro i s2 s2' u2 u2' a2 b2 t2 n2 c2 _ w wi
    unfold Wi at wi
    obtain ⟨d1, d2, c1, d3, d4, d5, d6⟩ := w
    subst d2
    have k0 : 0 ≤ a2 := by clear e14 d6; grind
    have k1 : a2 < 3200 := by clear e14 d6; grind
    have k2 : 0 ≤ c2 := by clear e14 d6; grind
    have k3 : c2 < 7000 := by clear e14 d6; grind
    rcases d6 with ⟨f1, f2, f3, f4, f5, f6, f7, f8, f9, f10, f11, f12, f13⟩ | ⟨f1, f2, f3, f4⟩
    · have y := f12.2
      rw [← d5] at y
      exact ((Cu.m k0 k1 (by rw [d1]; decide)).tr y).tr (Cu.c k2 k3 (by rw [f2]; decide))
    · have y := f3.2
      rw [← d5] at y
      refine ((Cu.m k0 k1 (by rw [d1]; decide)).tr y).tr (Cu.c k2 k3 ?_)
      rcases f2 with ⟨_, w, _⟩ | ⟨_, w⟩ <;> rw [w] <;> decide
