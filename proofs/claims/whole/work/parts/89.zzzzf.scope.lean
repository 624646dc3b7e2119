/-- a scope within: what is around it -/
def Sc (σ : S5) (x : Int32) : Prop := 0 ≤ xA σ 21 x ∧ xA σ 21 x < x ∧ (xA σ 22 x = x ∨ xA σ 22 x = xA σ 22 (xA σ 21 x))
theorem TRow.cov {σ μ : S5} {Q : Int32 → Prop} {P : Nat → Int32 → Int32 → Int32 → Int32 → Int32 → Int32 → Int32 → Int32 → Int32 → Prop} {k : Nat} {s s' u u' a b t c n1 c1 nn : Int32} {gap : Nat → Int32} (h : TRow σ μ P k s s' u u' a b t c n1 c1 nn gap) (hP : ∀ i s1 s1' u1 u1' a1 b1 t1 n1 c1, i < k → P i s1 s1' u1 u1' a1 b1 t1 n1 c1 → Wi s s' u u' a b t c s1 s1' u1 u1' a1 b1 t1 c1 → ∀ x, s1 ≤ x → x < s1' → Q x) : ∀ x, s ≤ x → x < s' → Q x := by
  obtain ⟨g, cc, fs, fu, fn, ft, e1, e2, e3, e4, e5, e6, e7, e8, e9, hi⟩ := h
  have key : ∀ j, j ≤ k → ∀ x, s ≤ x → x < fs j → Q x := by
    intro j
    induction j with
    | zero => intro _ x h1 h2; rw [e1] at h2; exact absurd h2 (by grind)
    | succ j ih =>
      intro hj x h1 h2
      by_cases hx : x < fs j
      · exact ih (by omega) x h1 hx
      · obtain ⟨d1, d2, _⟩ := hi j (by omega)
        exact hP _ _ _ _ _ _ _ _ _ _ (by omega) d1 d2 x (by grind) h2
  intro x h1 h2
  exact key k (Nat.le_refl _) x h1 (by rw [e2]; exact h2)
theorem TFun.sc {σ μ : S5} {R : R10} (hR : ∀ h s s' u u' a b t n c, R h s s' u u' a b t n c → ∀ x, s ≤ x → x < s' → Sc σ x) {h s s' u u' n b t c : Int32} (q : TFun σ μ R h s s' u u' n b t c) (h0 : 0 ≤ h) (h1 : h < s) : ∀ x, s ≤ x → x < s' → Sc σ x := by
  obtain ⟨e1, e2, e3, e4, e5, e6, e7, e8, e9, c2, e10, e11, e12, e13⟩ := q
  intro x x1 x2
  by_cases hx : x = s
  · subst hx
    exact ⟨by rw [e4]; exact h0, by rw [e4]; exact h1, Or.inl e5⟩
  · exact hR _ _ _ _ _ _ _ _ _ _ e12 x (by grind) x2
theorem TR.sc {σ μ : S5} {h s s' u u' a b t n c : Int32} (q : TR σ μ h s s' u u' a b t n c) : ∀ x, s ≤ x → x < s' → Sc σ x := by
  refine TR.ind (P := fun h s s' u u' a b t n c => ∀ x, s ≤ x → x < s' → Sc σ x) ?_ q
  clear q
  intro h s s' u u' a b t n c q
  obtain ⟨hb, q⟩ := q
  unfold Bd at hb
  obtain ⟨b1, b2, b3, b4, b5, b6, b7, b8, b9, b10, b11, b12, b13, b14⟩ := hb
  rcases q with q | q | q | q | q | q | q
  · obtain ⟨e1, -⟩ := q
    intro x x1 x2
    rw [e1] at x2
    exact absurd x2 (by grind)
  · obtain ⟨e1, e2, e3, e4, e5, c1, c2, s1, u1, e6, e7, e8, e9, e10⟩ := q
    intro x x1 x2
    by_cases hx : x < s1
    · exact e6.2 x x1 hx
    · exact e8.2 x (by grind) x2
  · obtain ⟨e1, e2, e3, k, e4, e5, e6, e7⟩ := q
    exact e7.cov (fun _ _ _ _ _ _ _ _ _ _ _ w _ => w.2)
  · obtain ⟨e1, e2, e3, e4, e5, e6, e7, k, e8, e9, e10, e11⟩ := q
    exact e11.cov (fun _ _ _ _ _ _ _ _ _ _ _ w _ => w.2)
  · obtain ⟨e1, e2, e3⟩ := q
    exact e3.sc (fun _ _ _ _ _ _ _ _ _ _ w => w.2) b1 b2
  · obtain ⟨e1, e2, e3, e4, e5, e6, e7, e8, k, s1, u1, a1, t1, c0, e9, e10, e11, e12, e13, e14, e15, e16, e17, e18, e19, e20⟩ := q
    have hrow : ∀ x, s + 1 ≤ x → x < s1 → Sc σ x := by
      refine e14.cov ?_
      intro i s2 s2' u2 u2' a2 b2 t2 n2 c2 _ w wi
      unfold Wi at wi
      obtain ⟨d1, d2, d3, d4, d5, c1, d6, d7, d8, d9⟩ := w
      rcases d9 with ⟨d9, d10, d11⟩ | d9
      · exact d10.2
      · exact d9.sc (fun _ _ _ _ _ _ _ _ _ _ w => w.2) (by grind) (by grind)
    intro x x1 x2
    by_cases hx : x = s
    · subst hx
      exact ⟨by rw [e6]; exact b1, by rw [e6]; exact b2, Or.inr (by rw [e7, e6])⟩
    · by_cases hx1 : x < s1
      · exact hrow x (by grind) hx1
      · exact e19.2 x (by grind) x2
  · obtain ⟨e1, e2, e3, e4, k, s1, u1, a1, c0, e9, e10, e11, e12, e13, e14, e15, e16, e17⟩ := q
    have w13 := e13
    unfold Wi at w13
    have hrow : ∀ x, s1 ≤ x → x < s' → Sc σ x := by
      refine e14.cov ?_
      intro i s2 s2' u2 u2' a2 b2 t2 n2 c2 _ w wi
      unfold Wi at wi
      obtain ⟨d1, d2, c1, d3, d4, d5, d6⟩ := w
      rcases d6 with ⟨f1, f2, f3, f4, f5, f6, f7, f8, f9, f10, f11, f12, f13⟩ | ⟨f1, f2, f3, f4⟩
      · intro x x1 x2
        by_cases hx : x = s2
        · subst hx
          exact ⟨by rw [f8]; exact b1, by rw [f8]; grind, Or.inr (by rw [f9, f8])⟩
        · exact f12.2 x (by grind) x2
      · exact f3.2
    intro x x1 x2
    by_cases hx : x < s1
    · exact e12.2 x x1 hx
    · exact hrow x (by grind) x2
/-- all scopes -/
def GS (σ : S5) (k : Nat) (fs : Nat → Int32) (S : Int32) : Prop := (∀ x, 0 ≤ x → x < S → (xA σ 21 x = -1 ∧ xA σ 22 x = x ∧ ∃ i, i < k ∧ x = fs i) ∨ Sc σ x) ∧ (∀ i, i < k → 0 ≤ fs i ∧ fs i < S ∧ xA σ 21 (fs i) = -1 ∧ xA σ 22 (fs i) = fs i) ∧ (∀ i j, i < k → j < k → fs i = fs j → i = j)
theorem PG.gs {σ μ : S5} {k : Nat} {cc fs fu fn ft : Nat → Int32} (hp : PG σ μ k cc fs fu fn ft) : GS σ k fs (gI σ 9) := by
  obtain ⟨⟨p1, p2, p3, p4, p5, p6, p7, p8⟩, hi, hdist⟩ := hp
  have hlt : ∀ d i, i + d + 1 ≤ k → fs i < fs (i + d + 1) := by
    intro d
    induction d with
    | zero => intro i hik; exact (hi i (by omega)).2.1.2.1
    | succ d ih =>
      intro i hik
      have a1 := ih i (by omega)
      have a2 := (hi (i + d + 1) (by omega)).2.1.2.1
      show fs i < fs (i + d + 1 + 1)
      grind
  refine ⟨?_, ?_, ?_⟩
  · have key : ∀ j, j ≤ k → ∀ x, 0 ≤ x → x < fs j → (xA σ 21 x = -1 ∧ xA σ 22 x = x ∧ ∃ i, i < k ∧ x = fs i) ∨ Sc σ x := by
      intro j
      induction j with
      | zero => intro _ x h1 h2; rw [p1] at h2; exact absurd h2 (by grind)
      | succ j ih =>
        intro hj x h1 h2
        by_cases hx : x < fs j
        · exact ih (by omega) x h1 hx
        · obtain ⟨hq, hs, _⟩ := hi j (by omega)
          by_cases hxe : x = fs j
          · subst hxe
            exact Or.inl ⟨hq.2.2.2.1.1, hq.2.2.2.1.2.1, j, by omega, rfl⟩
          · exact Or.inr (hq.2.2.2.2.2.2.2.sc x (by grind) h2)
    intro x h1 h2
    exact key k (Nat.le_refl _) x h1 (by rw [p2]; exact h2)
  · intro i hik
    obtain ⟨hq, hs, _⟩ := hi i hik
    exact ⟨hs.1, by grind, hq.2.2.2.1.1, hq.2.2.2.1.2.1⟩
  · intro i j hik hjk he
    by_cases h1 : i < j
    · have := hlt (j - i - 1) i (by omega)
      rw [show i + (j - i - 1) + 1 = j by omega] at this
      exact absurd this (by rw [he]; grind)
    · by_cases h2 : j < i
      · have := hlt (i - j - 1) j (by omega)
        rw [show j + (i - j - 1) + 1 = i by omega] at this
        exact absurd this (by rw [he]; grind)
      · omega
/-- numbers of functions are there, and not the same -/
theorem NU.nij {σ τ : S5} {k : Nat} {fs : Nat → Int32} {S : Int32} (hg : GS σ k fs S) (hS : S ≤ 630) (hk : k ≤ 30) (h : NU σ τ k fs S.toNatClampNeg) (hS0 : 0 ≤ S) (hF : k + pre (fC σ) S.toNatClampNeg ≤ 630) : Nij σ τ S (k + pre (fC σ) S.toNatClampNeg) := by
  obtain ⟨⟨n1, n2, n3, n4, n5⟩, -⟩ := h
  obtain ⟨g1, g2, g3⟩ := hg
  have hx : ∀ x, 0 ≤ x → x < S → xA σ 22 x = x → (∃ i, i < k ∧ x = fs i ∧ xA τ 26 x = nI i) ∨ (fC σ x.toNatClampNeg = 1 ∧ xA τ 26 x = nI (k + pre (fC σ) x.toNatClampNeg) ∧ pre (fC σ) x.toNatClampNeg < pre (fC σ) S.toNatClampNeg) := by
    intro x x0 x1 x2
    have hl : x.toNatClampNeg < S.toNatClampNeg := i_lt (fun w => by grind) x1
    rcases g1 x x0 x1 with ⟨_, _, i, i1, i2⟩ | sc
    · refine Or.inl ⟨i, i1, i2, ?_⟩
      rw [i2]
      exact (n3 i i1).1
    · have f1 : fC σ x.toNatClampNeg = 1 := by
        unfold fC
        have := sc.1
        rw [xA_tn, xA_tn, ← nI_tn x0, if_pos ⟨x2, by grind⟩]
      refine Or.inr ⟨f1, ?_, ?_⟩
      · have := (n4 x.toNatClampNeg hl f1).1
        rw [← nI_tn x0] at this
        exact this
      · have m := pre_mono (w := fC σ) (S.toNatClampNeg - (x.toNatClampNeg + 1)) (x.toNatClampNeg + 1)
        rw [show x.toNatClampNeg + 1 + (S.toNatClampNeg - (x.toNatClampNeg + 1)) = S.toNatClampNeg by omega] at m
        have e : pre (fC σ) (x.toNatClampNeg + 1) = pre (fC σ) x.toNatClampNeg + 1 := by show pre (fC σ) _ + fC σ _ = _; rw [f1]
        omega
  refine ⟨?_, ?_⟩
  · intro x x0 x1 x2
    rcases hx x x0 x1 x2 with ⟨i, i1, i2, i3⟩ | ⟨f1, f2, f3⟩
    · exact ⟨i, by omega, i3⟩
    · exact ⟨_, by omega, f2⟩
  · intro x x' x0 x1 x2 y0 y1 y2 he
    rcases hx x x0 x1 x2 with ⟨i, i1, i2, i3⟩ | ⟨f1, f2, f3⟩
    · rcases hx x' y0 y1 y2 with ⟨j, j1, j2, j3⟩ | ⟨f1', f2', f3'⟩
      · rw [i3, j3] at he
        have := nI_inj (by omega) (by omega) he
        rw [i2, j2, this]
      · rw [i3, f2'] at he
        have := nI_inj (by omega) (by omega) he
        omega
    · rcases hx x' y0 y1 y2 with ⟨j, j1, j2, j3⟩ | ⟨f1', f2', f3'⟩
      · rw [f2, j3] at he
        have := nI_inj (by omega) (by omega) he
        omega
      · rw [f2, f2'] at he
        have := nI_inj (by omega) (by omega) he
        exact (i_inj x0 y0).mp (pre_inj f1 f1' (by omega))
/-- the owner of a scope around is a function around -/
theorem Ich.och {σ : S5} {k : Nat} {fs : Nat → Int32} {S : Int32} (hg : GS σ k fs S) : ∀ (m : Nat) (h s : Int32), Ich σ m h s → h < S → 0 ≤ s → Och σ m (xA σ 22 h) (xA σ 22 s) := by
  intro m
  induction m with
  | zero => intro h s q; exact absurd q (fun w => w)
  | succ m ih =>
    intro h s q hS s0
    rcases q with q | ⟨q1, q2⟩
    · exact Or.inl (by rw [q])
    · have key : ∀ (m : Nat) (o w : Int32), Och σ m o w → Och σ (m + 1) o w := by
        intro m
        induction m with
        | zero => intro o w q; exact absurd q (fun w => w)
        | succ m ih =>
          intro o w q
          rcases q with q | ⟨q1, q2⟩
          · exact Or.inl q
          · exact Or.inr ⟨q1, ih _ _ q2⟩
      rcases hg.1 h q1 hS with ⟨c1, c2, _⟩ | ⟨c1, c2, c3⟩
      · rw [c1] at q2
        match m, q2 with
        | m + 1, Or.inl q => exact absurd s0 (by rw [← q]; decide)
        | m + 1, Or.inr q => exact absurd q.1 (by decide)
      · have r := ih _ _ q2 (by grind) s0
        rcases c3 with c3 | c3
        · refine Or.inr ⟨by rw [c3]; exact c1, ?_⟩
          rw [c3]
          exact r
        · rw [c3]
          exact key m _ _ r
