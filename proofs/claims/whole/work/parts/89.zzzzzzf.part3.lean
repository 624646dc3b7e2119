/-- functions and uses are parts; there are not more than two nodes to a part, and x are left -/
def Cw (σ : S5) (x : Nat) (s s' u u' t e : Int32) : Prop := prI (fC σ) s' + u'.toNatClampNeg + prI (wp σ) t ≤ prI (wp σ) e + prI (fC σ) s + u.toNatClampNeg ∧ e.toNatClampNeg + x + 2 * prI (wp σ) t ≤ 2 * prI (wp σ) e + t.toNatClampNeg
theorem Cw.tr {σ : S5} {x y : Nat} {s s1 s' u u1 u' t t1 e : Int32} (h : Cw σ x s s1 u u1 t t1) (h2 : Cw σ y s1 s' u1 u' t1 e) : Cw σ (x + y) s s' u u' t e := by
  unfold Cw at *
  omega
theorem Cw.wk {σ : S5} {x y : Nat} {s s' u u' t e : Int32} (h : Cw σ x s s' u u' t e) (hy : y ≤ x) : Cw σ y s s' u u' t e := by
  unfold Cw at *
  omega
theorem Cw.rf (σ : S5) (s u t : Int32) : Cw σ 0 s s u u t t := by
  unfold Cw
  omega
theorem Cw.n1 {σ : S5} {s u t : Int32} (h0 : 0 ≤ t) (h1 : t < 7000) (hk : ¬ (10 ≤ xA σ 13 t ∧ xA σ 13 t ≤ 13)) : Cw σ 1 s s u u t (t + 1) := by
  have e : wp σ t.toNatClampNeg = 1 := by unfold wp; rw [xA_tn, if_neg hk]
  unfold Cw
  rw [prI_s _ h0 h1, e, tn_s h0 h1]
  omega
theorem Cw.n0 {σ : S5} {x : Nat} {s s' u u' t e : Int32} (h : Cw σ (x + 1) s s' u u' t e) (h0 : 0 ≤ e) (h1 : e < 7000) : Cw σ x s s' u u' t (e + 1) := by
  have e1 := prI_s (wp σ) h0 h1
  have e2 := tn_s h0 h1
  unfold Cw at *
  omega
/-- a scope that is no function's own -/
theorem Cw.s0 {σ : S5} {s u t : Int32} (h0 : 0 ≤ s) (h1 : s < 7000) (hf : fC σ s.toNatClampNeg = 0) : Cw σ 0 s (s + 1) u u t t := by
  unfold Cw
  rw [prI_s _ h0 h1, hf]
  omega
theorem TRow.cw {σ μ σ1 : S5} {P : Nat → Int32 → Int32 → Int32 → Int32 → Int32 → Int32 → Int32 → Int32 → Int32 → Prop} {k : Nat} {s s' u u' a b t c n1 c1 nn : Int32} {gap : Nat → Int32} (h : TRow σ μ P k s s' u u' a b t c n1 c1 nn gap) (hP : ∀ i s1 s1' u1 u1' a1 b1 t1 n1 c1, i < k → P i s1 s1' u1 u1' a1 b1 t1 n1 c1 → Wi s s' u u' a b t c s1 s1' u1 u1' a1 b1 t1 c1 → Cw σ1 0 s1 s1' u1 u1' t1 (c1 + 1)) : Cw σ1 0 s s' u u' t c := by
  obtain ⟨g, cc, fs, fu, fn, ft, e1, e2, e3, e4, e5, e6, ⟨e7, e7'⟩, e8, e9, hi⟩ := h
  have key : ∀ j, j ≤ k → Cw σ1 0 s (fs j) u (fu j) t (ft j) := by
    intro j
    induction j with
    | zero => intro _; rw [e1, e3, e7]; exact Cw.rf _ _ _ _
    | succ j ih =>
      intro hj
      obtain ⟨d1, d2, d3, d4, d5, d6, d7, d8, d9⟩ := hi j (by omega)
      have q2 := hP _ _ _ _ _ _ _ _ _ _ (by omega) d1 d2
      rw [← d5] at q2
      exact (ih (by omega)).tr q2
  have := key k (Nat.le_refl _)
  rw [e2, e4, e7'] at this
  exact this
theorem TFun.cw {σ μ : S5} {R : R10} (hR : ∀ h s s' u u' a b t n c, R h s s' u u' a b t n c → Ow σ h s → Cw σ 1 s s' u u' t (c + 1)) {h s s' u u' n b t c : Int32} (q : TFun σ μ R h s s' u u' n b t c) (hs0 : 0 ≤ s) (hs7 : s' ≤ 700) (hc0 : 0 ≤ c) (hc1 : c < 7000) : Cw σ 1 s s' u u' t (c + 1) := by
  obtain ⟨e1, e2, e3, e4, e5, e6, e7, e8, e9, c2, e10, e11, e12, e13, e14⟩ := q
  unfold Wi at e13
  have s7 : s < 7000 := by clear hR e12; grind
  have x := hR _ _ _ _ _ _ _ _ _ _ e12 (by unfold Ow; rw [e5]; exact ⟨hs0, by clear hR e12; grind⟩)
  rw [← e14] at x
  have e : wp σ c.toNatClampNeg = 1 := by unfold wp; rw [xA_tn, e1, if_neg (by decide)]
  have f1 : fC σ s.toNatClampNeg ≤ 1 := by unfold fC; split <;> omega
  have g1 := prI_s (wp σ) hc0 hc1
  have g2 := prI_s (fC σ) hs0 s7
  have g3 := tn_s hc0 hc1
  unfold Cw at *
  omega
theorem TR.cw {σ μ : S5} {h s s' u u' a b t n c : Int32} (q : TR σ μ h s s' u u' a b t n c) : Ow σ h s → Cw σ 1 s s' u u' t (c + 1) := by
  refine TR.ind (P := fun h s s' u u' a b t n c => Ow σ h s → Cw σ 1 s s' u u' t (c + 1)) ?_ q
  clear q
  intro h s s' u u' a b t n c q ho
  obtain ⟨hb, q⟩ := q
  unfold Bd at hb
  obtain ⟨b1, b2, b3, b4, b5, b6, b7, b8, b9, b10, b11, b12, b13, b14⟩ := hb
  have hc0 : 0 ≤ c := i_trans b12 b13
  have hc1 : c < 7000 := by clear q; grind
  have hs0 : 0 ≤ s := by clear q; grind
  rcases q with q | q | q | q | q | q | q
  · obtain ⟨e1, e2, e3, e4, e5, e6, e7⟩ := q
    subst e1 e4
    rcases e7 with ⟨f1, f2, f3, f4, f5, f6, f7⟩ | ⟨f1, f2⟩
    · subst f3
      have eu := tn_s b5 (by grind)
      have e : wp σ t.toNatClampNeg = 1 := by unfold wp; rw [xA_tn, f2, if_neg (by decide)]
      unfold Cw
      rw [prI_s _ hc0 hc1, e, tn_s hc0 hc1]
      omega
    · subst f1
      refine Cw.n1 hc0 hc1 ?_
      rcases f2 with ⟨_, w, _⟩ | ⟨_, w, _⟩ | ⟨_, w⟩ <;> rw [w] <;> decide
  · obtain ⟨e1, e2, e3, e4, e5, c1, c2, s1, u1, e6, e7, e8, e9, e10, -⟩ := q
    unfold Wi at e7 e9
    unfold Ow at ho
    have x := e8.2 ⟨ho.1, by clear e6 e8; grind⟩
    rw [← e10] at x
    exact (((e6.2 ho).tr x).tr (Cw.n1 hc0 hc1 (by rw [e3]; decide))).wk (by omega)
  · obtain ⟨e1, e2, e3, k, e4, e5, e6, e7⟩ := q
    unfold Ow at ho
    exact ((e7.cw (σ1 := σ) (fun i s1 s1' u1 u1' a1 b1 t1 n1 c1 _ w wi => (w.2 ⟨ho.1, by unfold Wi at wi; clear e7 w; grind⟩).wk (by omega))).tr (Cw.n1 hc0 hc1 (by rw [e3]; decide))).wk (by omega)
  · obtain ⟨e1, e2, e3, e4, e5, e6, e7, k, e8, e9, e10, e11⟩ := q
    unfold Ow at ho
    exact ((e11.cw (σ1 := σ) (fun i s1 s1' u1 u1' a1 b1 t1 n1 c1 _ w wi => (w.2 ⟨ho.1, by unfold Wi at wi; clear e11 w; grind⟩).wk (by omega))).tr (Cw.n1 hc0 hc1 (by rw [e3]; decide))).wk (by omega)
  · obtain ⟨e1, e2, e3⟩ := q
    exact e3.cw (fun _ _ _ _ _ _ _ _ _ _ w => w.2) hs0 b4 hc0 hc1
  · obtain ⟨e1, e2, e3, e4, e5, e6, e7, e8, k, s1, u1, a1, t1, c0, e9, e10, e11, e12, e13, e14, e15, e16, e17, e18, e19, e20⟩ := q
    unfold Ow at ho
    unfold Wi at e20
    have hne : ¬ xA σ 22 s = s := by rw [e7]; clear e14 e19; grind
    have hf : fC σ s.toNatClampNeg = 0 := by unfold fC; rw [xA_tn, ← nI_tn hs0, if_neg (fun w => hne w.1)]
    have os : ∀ x, s + 1 ≤ x → x ≤ 700 → Ow σ s x := fun x hx _ => by unfold Ow; rw [e7]; exact ⟨ho.1, by clear e14 e19; grind⟩
    have x := e19.2 (os s1 e15 (by clear e14 e19; grind))
    rw [← e13] at x
    refine ((((Cw.s0 hs0 (by clear e14 e19; grind) hf).tr (e14.cw (σ1 := σ) ?_)).tr x).tr (Cw.n1 hc0 hc1 (by rw [e4]; decide))).wk (by omega)
    intro i s2 s2' u2 u2' a2 b2 t2 n2 c2 _ w wi
    unfold Wi at wi
    obtain ⟨d1, d2, d3, d4, d5, c1, d6, d7, d8, d9⟩ := w
    have k2 : 0 ≤ c2 := by clear e14 x d9 e19; grind
    have k3 : c2 < 7000 := by clear e14 x d9 e19; grind
    rcases d9 with ⟨d9, d10, d11⟩ | d9
    · have y := d10.2 (os s2 (by clear e14 x d10 e19; grind) (by clear e14 x d10 e19; grind))
      rw [← d8] at y
      exact y.n0 k2 k3
    · have k4 : 0 ≤ c1 := by
        obtain ⟨g1, g2, g3, g4, g5, g6, g7, g8, g9, c9, g10, g11, g12, g13, g14⟩ := d9
        unfold Wi at g13
        clear e14 x g12 e19
        grind
      have y := d9.cw (fun _ _ _ _ _ _ _ _ _ _ w => w.2) (by clear e14 x d9 e19; grind) (by clear e14 x d9 e19; grind) k4 (by clear e14 x d9 e19; grind)
      rw [← d8] at y
      exact y.n0 k2 k3
  · obtain ⟨e1, e2, e3, e4, k, s1, u1, a1, c0, e9, e10, e11, e12, e13, e14, e15, e16, e17⟩ := q
    unfold Ow at ho
    unfold Wi at e13
    refine (((e12.2 ho).tr (e14.cw (σ1 := σ) ?_)).tr (Cw.n1 hc0 hc1 (by rw [e4]; decide))).wk (by omega)
    intro i s2 s2' u2 u2' a2 b2 t2 n2 c2 _ w wi
    unfold Wi at wi
    obtain ⟨d1, d2, c1, d3, d4, d5, d6⟩ := w
    have k2 : 0 ≤ c2 := by clear e14 d6 e12; grind
    have k3 : c2 < 7000 := by clear e14 d6 e12; grind
    rcases d6 with ⟨f1, f2, f3, f4, f5, f6, f7, f8, f9, f10, f11, f12, f13⟩ | ⟨f1, f2, f3, f4⟩
    · have hs2 : 0 ≤ s2 := by clear e14 f12 e12; grind
      have hne : ¬ xA σ 22 s2 = s2 := by rw [f9]; clear e14 f12 e12; grind
      have hf : fC σ s2.toNatClampNeg = 0 := by unfold fC; rw [xA_tn, ← nI_tn hs2, if_neg (fun w => hne w.1)]
      have y := (Cw.s0 (u := u2) (t := t2) hs2 (by clear e14 f12 e12; grind) hf).tr (f12.2 (by unfold Ow; rw [f9]; exact ⟨ho.1, by clear e14 f12 e12; grind⟩))
      rw [← d5] at y
      exact (y.wk (by omega)).n0 k2 k3
    · have y := f3.2 ⟨ho.1, by clear e14 f3 e12; grind⟩
      rw [← d5] at y
      exact y.n0 k2 k3
/-- the program's functions within, uses and nodes are not too many -/
theorem PG.cw {σ μ : S5} {k : Nat} {cc fs fu fn ft : Nat → Int32} (hp : PG σ μ k cc fs fu fn ft) (h9 : gI σ 9 ≤ 630) : prI (fC σ) (gI σ 9) + (gI σ 10).toNatClampNeg ≤ prI (wp σ) (gI σ 8) ∧ (gI σ 8).toNatClampNeg ≤ 2 * prI (wp σ) (gI σ 8) := by
  obtain ⟨⟨p1, p2, p3, p4, p5, p6, p7, p8⟩, hi, -⟩ := hp
  have key : ∀ i, i ≤ k → Cw σ 0 0 (fs i) 0 (fu i) 0 (ft i) := by
    intro i
    induction i with
    | zero => intro _; rw [p1, p3, p7]; exact Cw.rf _ _ _ _
    | succ i ih =>
      intro hik
      obtain ⟨hq, hs, hu, hn, ht, htc⟩ := hi i (by omega)
      have hc : fC σ (fs i).toNatClampNeg = 0 := by unfold fC; rw [xA_tn, xA_tn, ← nI_tn hs.1, if_neg (fun w => w.2 hq.2.2.2.1.1)]
      have x := hq.2.2.2.2.2.2.2.cw ⟨by rw [hq.2.2.2.1.2.1]; exact hs.1, by rw [hq.2.2.2.1.2.1]; grind⟩
      rw [← htc] at x
      exact ((ih (by omega)).tr ((Cw.s0 hs.1 (by grind) hc).tr x)).wk (by omega)
  have := key k (Nat.le_refl _)
  rw [p2, p4, p8] at this
  unfold Cw at this
  have z1 : prI (wp σ) 0 = 0 := rfl
  have z2 : prI (fC σ) 0 = 0 := rfl
  have z3 : Int32.toNatClampNeg 0 = 0 := rfl
  omega
