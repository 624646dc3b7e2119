/-- the scopes within belong to the function around, or to one within -/
def OwS (σ : S5) (h s s' : Int32) : Prop := ∀ x, s ≤ x → x < s' → xA σ 22 x = xA σ 22 h ∨ (s ≤ xA σ 22 x ∧ 0 < xA σ 20 (xA σ 22 x))
theorem OwS.tr {σ : S5} {h s s1 s' : Int32} (h1 : OwS σ h s s1) (h2 : OwS σ h s1 s') (hs : s ≤ s1) : OwS σ h s s' := fun x x0 x1 => by
  by_cases hx : x < s1
  · exact h1 x x0 hx
  · rcases h2 x (by clear h1 h2; grind) x1 with w | w
    · exact Or.inl w
    · exact Or.inr ⟨i_trans hs w.1, w.2⟩
theorem OwS.wd {σ : S5} {h s s1 s1' : Int32} (h1 : OwS σ h s1 s1') (hs : s ≤ s1) (x : Int32) (x0 : s1 ≤ x) (x1 : x < s1') : xA σ 22 x = xA σ 22 h ∨ (s ≤ xA σ 22 x ∧ 0 < xA σ 20 (xA σ 22 x)) := by
  rcases h1 x x0 x1 with w | w
  · exact Or.inl w
  · exact Or.inr ⟨i_trans hs w.1, w.2⟩
theorem OwS.rf (σ : S5) (h s : Int32) : OwS σ h s s := fun x x0 x1 => absurd x1 (by grind)
theorem TFun.ow {σ μ : S5} {R : R10} (hR : ∀ h s s' u u' a b t n c, R h s s' u u' a b t n c → OwS σ h s s') {h s s' u u' n b t c : Int32} (q : TFun σ μ R h s s' u u' n b t c) (hs0 : 0 ≤ s) (hs7 : s < 7000) : ∀ x, s ≤ x → x < s' → s ≤ xA σ 22 x ∧ 0 < xA σ 20 (xA σ 22 x) := by
  obtain ⟨e1, e2, e3, e4, e5, e6, e7, e8, e9, c2, e10, e11, e12, e13, e14⟩ := q
  have h1 := hR _ _ _ _ _ _ _ _ _ _ e12
  intro x x0 x1
  have hp : 0 < xA σ 20 s := by rw [e7.1]; exact e8
  by_cases hx : x = s
  · rw [hx, e5]; exact ⟨Int32.le_refl _, hp⟩
  · rcases h1 x (by clear h1 hR e12; grind) x1 with w | w
    · rw [w, e5]; exact ⟨Int32.le_refl _, hp⟩
    · exact ⟨i_trans e13.1 w.1, w.2⟩
theorem TR.ow {σ μ : S5} {h s s' u u' a b t n c : Int32} (q : TR σ μ h s s' u u' a b t n c) : OwS σ h s s' := by
  refine TR.ind (P := fun h s s' u u' a b t n c => OwS σ h s s') ?_ q
  clear q
  intro h s s' u u' a b t n c q
  obtain ⟨hb, q⟩ := q
  unfold Bd at hb
  obtain ⟨b1, b2, b3, b4, b5, b6, b7, b8, b9, b10, b11, b12, b13, b14⟩ := hb
  have hs0 : 0 ≤ s := i_trans b1 (i_le_of_lt b2)
  have row : ∀ (k : Nat) (fs : Nat → Int32), (∀ i, i < k → OwS σ h (fs i) (fs (i + 1)) ∧ fs 0 ≤ fs i) → ∀ i, i ≤ k → OwS σ h (fs 0) (fs i) := by
    intro k fs hk i
    induction i with
    | zero => intro _; exact OwS.rf _ _ _
    | succ i ih =>
      intro hi
      exact (ih (by omega)).tr (hk i (by omega)).1 (hk i (by omega)).2
  rcases q with q | q | q | q | q | q | q
  · rw [q.1]; exact OwS.rf _ _ _
  · obtain ⟨e1, e2, e3, e4, e5, c1, c2, s1, u1, e6, e7, e8, e9, -⟩ := q
    exact e6.2.tr e8.2 e9.1
  · obtain ⟨e1, e2, e3, k, e4, e5, e6, g, cc, fs, fu, fn, ft, p1, p2, p3, p4, p5, p6, p7, p8, p9, hi⟩ := q
    have := row k fs (fun i hik => ⟨(hi i hik).1.2, by rw [p1]; exact (hi i hik).2.1.1⟩) k (Nat.le_refl _)
    rw [p1, p2] at this
    exact this
  · obtain ⟨e1, e2, e3, e4, e5, e6, e7, k, e8, e9, e10, g, cc, fs, fu, fn, ft, p1, p2, p3, p4, p5, p6, p7, p8, p9, hi⟩ := q
    have := row k fs (fun i hik => ⟨(hi i hik).1.2, by rw [p1]; exact (hi i hik).2.1.1⟩) k (Nat.le_refl _)
    rw [p1, p2] at this
    exact this
  · exact fun x x0 x1 => Or.inr (q.2.2.ow (fun _ _ _ _ _ _ _ _ _ _ w => w.2) hs0 (by clear q row; grind) x x0 x1)
  · obtain ⟨e1, e2, e3, e4, e5, e6, e7, e8, k, s1, u1, a1, t1, c0, e9, e10, e11, e12, e13, e14, e15, e16, e17, e18, e19, e20⟩ := q
    obtain ⟨g, bb, fs, fu, fn, ft, p1, p2, p3, p4, p5, p6, p7, p8, p9, hi⟩ := e14
    have hv1 := e20.1
    have hv2 := e20.2.1
    have hrow : ∀ i, i ≤ k → OwS σ s (fs 0) (fs i) := by
      intro i
      induction i with
      | zero => intro _; exact OwS.rf _ _ _
      | succ i ih =>
        intro hik
        obtain ⟨d1, d2, -⟩ := hi i (by omega)
        have hfs : fs 0 ≤ fs i := by rw [p1]; exact d2.1
        refine (ih (by omega)).tr ?_ hfs
        obtain ⟨f1, f2, f3, f4, f5, c1, f6, f7, f8, f9⟩ := d1
        rcases f9 with ⟨g1, g2, g3⟩ | g1
        · exact g2.2
        · unfold Wi at d2
          exact fun x x0 x1 => Or.inr (g1.ow (fun _ _ _ _ _ _ _ _ _ _ w => w.2) (by clear g1 hi e19 row ih; grind) (by clear g1 hi e19 row ih; grind) x x0 x1)
    have h1 := hrow k (Nat.le_refl _)
    rw [p1, p2] at h1
    intro x x0 x1
    have hss : s ≤ s + 1 := by clear h1 hrow hi e19 row; grind
    by_cases hx : x = s
    · rw [hx, e7]; exact Or.inl rfl
    · have x0' : s + 1 ≤ x := by clear h1 hrow hi e19 row; grind
      rcases (h1.tr e19.2 e15).wd hss x x0' x1 with w | w
      · rw [w, e7]; exact Or.inl rfl
      · exact Or.inr w
  · obtain ⟨e1, e2, e3, e4, k, s1, u1, a1, c0, e9, e10, e11, e12, e13, e14, e15, e16, e17⟩ := q
    obtain ⟨g, bb, fs, fu, fn, ft, p1, p2, p3, p4, p5, p6, p7, p8, p9, hi⟩ := e14
    have h1 := row k fs (fun i hik => by
      obtain ⟨d1, d2, -⟩ := hi i hik
      refine ⟨?_, by rw [p1]; exact d2.1⟩
      unfold Wi at d2
      obtain ⟨f1, f2, c1, f6, f7, f8, f9⟩ := d1
      rcases f9 with ⟨g1, g2, g3, g4, g5, g6, g7, g8, g9, g10, g11, g12, g13⟩ | ⟨g1, g2, g3, g4⟩
      · intro x x0 x1
        have hss : fs i ≤ fs i + 1 := by unfold Wi at e13; clear g12 hi e12 row; grind
        by_cases hx : x = fs i
        · rw [hx, g9]; exact Or.inl rfl
        · have x0' : fs i + 1 ≤ x := by clear g12 hi e12 row; grind
          rcases g12.2.wd hss x x0' x1 with w | w
          · rw [w, g9]; exact Or.inl rfl
          · exact Or.inr w
      · exact g3.2) k (Nat.le_refl _)
    rw [p1, p2] at h1
    exact e12.2.tr h1 e13.2.1
/-- a function within gives the one around no scopes -/
theorem TFun.w0 {σ μ : S5} {h s s' u u' n b t c : Int32} (q : TFun σ μ (TR σ μ) h s s' u u' n b t c) (hs0 : 0 ≤ s) (hs7 : s' ≤ 700) (hss : s ≤ s') {f : Int32} (hf : f < s) : prI (wO σ f) s' = prI (wO σ f) s := by
  have ho := q.ow (fun _ _ _ _ _ _ _ _ _ _ w => w.ow) hs0 (by clear q; grind)
  have key : ∀ d : Nat, s.toNatClampNeg + d ≤ s'.toNatClampNeg → pre (wO σ f) (s.toNatClampNeg + d) = pre (wO σ f) s.toNatClampNeg := by
    intro d
    induction d with
    | zero => intro _; rfl
    | succ d ih =>
      intro hd
      have hb : s'.toNatClampNeg ≤ 700 := i_le (n := 700) hs7
      show pre (wO σ f) (s.toNatClampNeg + d) + wO σ f (s.toNatClampNeg + d) = _
      have e : wO σ f (s.toNatClampNeg + d) = 0 := by
        unfold wO
        rw [if_neg (fun z => ?_)]
        have h1 := ho (nI (s.toNatClampNeg + d)) (by
          have h2 : nI s.toNatClampNeg ≤ nI (s.toNatClampNeg + d) := (nI_le31 (by omega) (by omega)).mpr (by omega)
          rw [← nI_tn hs0] at h2
          exact h2) (by
          have h2 : (nI (s.toNatClampNeg + d)) < nI s'.toNatClampNeg := (nI_lt31 (by omega) (by omega)).mpr (by omega)
          rw [← nI_tn (i_trans hs0 hss)] at h2
          exact h2)
        rw [z] at h1
        clear ho q
        grind
      rw [ih (by omega), e, Nat.add_zero]
  have h2 := key (s'.toNatClampNeg - s.toNatClampNeg) (by have := i_le hss; omega)
  have := i_le hss
  rw [show s.toNatClampNeg + (s'.toNatClampNeg - s.toNatClampNeg) = s'.toNatClampNeg by omega] at h2
  exact h2
