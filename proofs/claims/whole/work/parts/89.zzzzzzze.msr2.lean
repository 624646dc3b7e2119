/-- the measures over a row -/
theorem Ms.row {σ τr τp : S5} {cf : Nat → Nat} {k : Nat} {fs ft cc : Nat → Int32} (h : ∀ i, i < k → Ms σ τr τp cf (fs i) (fs (i + 1)) (ft i) (cc i) ∧ ft (i + 1) = cc i + 1) : ∀ j, j ≤ k → Mb σ τr τp cf (sP τp cc j) (fs 0) (fs j) (ft 0) (ft j)
  | 0, _ => by
    unfold Mb
    show 0 + _ + _ ≤ _
    omega
  | j + 1, hj => by
    have a := Ms.row h j (by omega)
    obtain ⟨b, e⟩ := h j (by omega)
    rw [e]
    exact a.tr b.2.2
/-- what the nodes of a chain keep, by the planted tree -/
theorem PX.ch {σ ν τr τv τu τp : S5} {k U F C : Nat} {S : Int32} {sc : Nat → Int32} {cf : Nat → Nat} (hX : PX σ ν τr τv τu τp k U F C S sc cf) {c : Int32} (hc0 : 0 ≤ c) (hcC : c < nI C) {l : Nat} {cc : Nat → Int32} (h : CHn σ c l cc) (h5 : 5 ≤ xA σ 13 c) (h13 : xA σ 13 c ≤ 13) : MEQ τp c (if xA σ 13 c = 11 then xA σ 2 (xA σ 14 c) else 0) l cc ∧ xA τp 13 c = xA σ 13 c := by
  obtain ⟨hL, hPU, hPN, h8, hC⟩ := hX
  obtain ⟨fr, fm⟩ := hPN.2.2.1 c hc0 hcC
  refine ⟨fm.2.1 l cc h h5 h13, ?_⟩
  rw [(fr.2.1 (fun w => by rw [w] at h13; exact absurd h13 (by decide))).1]
  exact (hPU.2.1 c hc0 (fun w => by rw [w] at h5; exact absurd h5 (by decide))).1
theorem PX.lf {σ ν τr τv τu τp : S5} {k U F C : Nat} {S : Int32} {sc : Nat → Int32} {cf : Nat → Nat} (hX : PX σ ν τr τv τu τp k U F C S sc cf) {c : Int32} (hc0 : 0 ≤ c) (hcC : c < nI C) (h16 : xA σ 16 c = -1) (h13 : ¬ xA σ 13 c = 14) : xA τp 18 c = 1 ∧ xA τp 19 c = 1 := by
  obtain ⟨hL, hPU, hPN, h8, hC⟩ := hX
  obtain ⟨fr, fm⟩ := hPN.2.2.1 c hc0 hcC
  have := fm.1 ((fr.2.1 h13).2.1.trans h16)
  exact ⟨this.1, this.2.1⟩
theorem PX.of {σ ν τr τv τu τp : S5} {k U F C : Nat} {S : Int32} {sc : Nat → Int32} {cf : Nat → Nat} (hX : PX σ ν τr τv τu τp k U F C S sc cf) {s : Int32} (hs0 : 0 ≤ s) (hs : s < S) (h22 : xA σ 22 s = s) : ∃ f, f < F ∧ sc f = s ∧ xA τr 26 s = nI f := by
  obtain ⟨f, f1, f2⟩ := hX.1.2.2.2.1 s hs0 hs
  have e : sc f = s := f2.symm.trans h22
  have := (hX.1.2.2.1 f f1).1.2.2.2
  rw [e] at this
  exact ⟨f, f1, e, this⟩
theorem TFun.ms {σ μ ν τr τv τu τp : S5} {k U F C : Nat} {S : Int32} {sc : Nat → Int32} {cf : Nat → Nat} (hX : PX σ ν τr τv τu τp k U F C S sc cf) {R : R10} (hR : ∀ h s s' u u' a b t n c, R h s s' u u' a b t n c → c < nI C → s' ≤ S → Ow σ h s → Ms σ τr τp cf s s' t c) {h s s' u u' n b t c : Int32} (q : TFun σ μ R h s s' u u' n b t c) (h0 : 0 ≤ h) (hs0 : 0 ≤ s) (hs7 : s' ≤ 700) (hc0 : 0 ≤ c) (hc1 : c < 6200) (hcC : c < nI C) (hS : s' ≤ S) : Ms σ τr τp cf s s' t c := by
  obtain ⟨e1, e2, e3, e4, e5, e6, e7, e8, e9, c2, e10, e11, e12, e13, e14⟩ := q
  unfold Wi at e13
  have sS : s < S := by clear hR e12; grind
  obtain ⟨f, f1, f2, f3⟩ := hX.of hs0 sS e5
  have x := hR _ _ _ _ _ _ _ _ _ _ e12 (by clear hR e12; grind) hS (by unfold Ow; rw [e5]; exact ⟨hs0, by clear hR e12; grind⟩)
  exact Ms.fn hX f1 f2 hc0 hc1 hcC e1 e2 e5 e10 hs0 (by clear hR e12; grind) e9 e14 x
theorem i_lt0 {a b c : Int32} (h : 0 ≤ a) (h1 : a < b) (h2 : b ≤ c) : a < c := by grind
/-- the measures of every subtree -/
theorem TR.ms {σ μ ν τr τv τu τp : S5} {k0 U F C : Nat} {S : Int32} {sc : Nat → Int32} {cf : Nat → Nat} (hX : PX σ ν τr τv τu τp k0 U F C S sc cf) {h s s' u u' a b t n c : Int32} (q : TR σ μ h s s' u u' a b t n c) : c < nI C → s' ≤ S → Ow σ h s → Ms σ τr τp cf s s' t c := by
  refine TR.ind (P := fun h s s' u u' a b t n c => c < nI C → s' ≤ S → Ow σ h s → Ms σ τr τp cf s s' t c) ?_ q
  clear q
  intro h s s' u u' a b t n c q hcC hS ho
  obtain ⟨hb, q⟩ := q
  unfold Bd at hb
  obtain ⟨b1, b2, b3, b4, b5, b6, b7, b8, b9, b10, b11, b12, b13, b14⟩ := hb
  have hc0 : 0 ≤ c := i_trans b12 b13
  have hs0 : 0 ≤ s := by clear q; grind
  rcases q with q | q | q | q | q | q | q
  · obtain ⟨e1, e2, e3, e4, e5, e6, e7⟩ := q
    subst e1 e4
    have := hX.lf hc0 hcC e5 (by rcases e7 with ⟨_, w, _⟩ | ⟨_, ⟨_, w, _⟩ | ⟨_, w, _⟩ | ⟨_, w⟩⟩ <;> rw [w] <;> decide)
    exact Ms.leaf hX hc0 b14 this.1 this.2
  · obtain ⟨e1, e2, e3, e4, e5, c1, c2, s1, u1, e6, e7, e8, e9, e10, e11, e12, e13⟩ := q
    unfold Wi at e7 e9
    unfold Ow at ho
    have x1 := e6.2 (by clear e6 e8; grind) (by clear e6 e8; grind) ho
    have x2 := e8.2 (by clear e6 e8; grind) hS ⟨ho.1, by clear e6 e8; grind⟩
    obtain ⟨hM, h13⟩ := hX.ch hc0 hcC (l := 2) (cc := fun p => if p = 0 then c1 else c2) ⟨by omega, e11, fun p hp => by
      have hp : p = 0 ∨ p = 1 := by omega
      rcases hp with rfl | rfl
      · exact ⟨by show 0 ≤ c1; clear e6 e8; grind, by show c1 < c; clear e6 e8; grind, e12⟩
      · exact ⟨by show 0 ≤ c2; clear e6 e8; grind, by show c2 < c; clear e6 e8; grind, e13⟩⟩ (by rw [e3]; decide) (by rw [e3]; decide)
    refine (Ms.node hX b3 hc0 b14 hcC hM (by rw [h13, e3]; rfl) (fun i hi => ?_) ?_).1
    · have hi : i = 0 ∨ i = 1 := by omega
      rcases hi with rfl | rfl
      · exact x1.1
      · exact x2.1
    · have y := x2.2.2
      rw [← e10] at y
      exact (x1.2.2.tr y).le (by show 0 + Nn τp c1 + Nn τp c2 ≤ _; omega)
  · obtain ⟨e1, e2, e3, k, e4, e5, e6, e7⟩ := q
    unfold Ow at ho
    obtain ⟨g, cc, fs, fu, fn, ft, p1, p2, p3, p4, p5, p6, ⟨p7, p7'⟩, p8, p9, hi⟩ := e7
    have hr : ∀ i, i < k → Ms σ τr τp cf (fs i) (fs (i + 1)) (ft i) (cc i) ∧ ft (i + 1) = cc i + 1 := fun i hik => by
      obtain ⟨d1, d2, d3, d4, d5, d6, d7, d8, d9⟩ := hi i hik
      unfold Wi at d2
      exact ⟨d1.2 (by clear hi d1; grind) (by clear hi d1; grind) ⟨ho.1, by clear hi d1; grind⟩, d5⟩
    obtain ⟨hM, h13⟩ := hX.ch hc0 hcC (l := k) (cc := cc) ⟨by omega, p9.symm, fun p hp => by
      obtain ⟨d1, d2, d3, d4, d5, d6, d7, d8, d9⟩ := hi p hp
      unfold Wi at d2
      exact ⟨by clear hi d1 hr; grind, by clear hi d1 hr; grind, d7⟩⟩ (by rw [e3]; decide) (by rw [e3]; decide)
    have m := Ms.row hr k (Nat.le_refl _)
    rw [p1, p2, p7, p7'] at m
    exact (Ms.node hX b3 hc0 b14 hcC hM (by rw [h13, e3]; rfl) (fun i hik => (hr i hik).1.1) m).1
  · obtain ⟨e1, e2, e3, e4, e5, e6, e7, k, e8, e9, e10, e11⟩ := q
    unfold Ow at ho
    obtain ⟨g, cc, fs, fu, fn, ft, p1, p2, p3, p4, p5, p6, ⟨p7, p7'⟩, p8, p9, hi⟩ := e11
    have hr : ∀ i, i < k → Ms σ τr τp cf (fs i) (fs (i + 1)) (ft i) (cc i) ∧ ft (i + 1) = cc i + 1 := fun i hik => by
      obtain ⟨d1, d2, d3, d4, d5, d6, d7, d8, d9⟩ := hi i hik
      unfold Wi at d2
      exact ⟨d1.2 (by clear hi d1; grind) (by clear hi d1; grind) ⟨ho.1, by clear hi d1; grind⟩, d5⟩
    obtain ⟨hM, h13⟩ := hX.ch hc0 hcC (l := k) (cc := cc) ⟨by omega, p9.symm, fun p hp => by
      obtain ⟨d1, d2, d3, d4, d5, d6, d7, d8, d9⟩ := hi p hp
      unfold Wi at d2
      exact ⟨by clear hi d1 hr; grind, by clear hi d1 hr; grind, d7⟩⟩ (by rw [e3]; decide) (by rw [e3]; decide)
    have m := Ms.row hr k (Nat.le_refl _)
    rw [p1, p2, p7, p7'] at m
    exact (Ms.node hX b3 hc0 b14 hcC hM (by rw [h13, e3]; rfl) (fun i hik => (hr i hik).1.1) m).1
  · obtain ⟨e1, e2, e3⟩ := q
    exact e3.ms hX (fun _ _ _ _ _ _ _ _ _ _ w => w.2) b1 hs0 b4 hc0 b14 hcC hS
  · obtain ⟨e1, e2, e3, e4, e5, e6, e7, e8, k, s1, u1, a1, t1, c0, e9, e10, e11, e12, e13, e14, e15, e16, e17, e18, e19, e20⟩ := q
    unfold Ow at ho
    unfold Wi at e20
    have hne : ¬ xA σ 22 s = s := by rw [e7]; clear e14 e19; grind
    have os : ∀ x, s + 1 ≤ x → x ≤ 700 → Ow σ s x := fun x hx _ => by unfold Ow; rw [e7]; exact ⟨ho.1, by clear e14 e19; grind⟩
    have x := e19.2 (by clear e14 e19; grind) hS (os s1 e15 (by clear e14 e19; grind))
    obtain ⟨g, bb, fs, fu, fn, ft, p1, p2, p3, p4, p5, p6, ⟨p7, p7'⟩, p8, p9, hi⟩ := e14
    have hr : ∀ i, i < k → (Ms σ τr τp cf (fs i) (fs (i + 1)) (ft i) (bb i) ∧ ft (i + 1) = bb i + 1) ∧ (0 ≤ bb i ∧ bb i < c) := fun i hik => by
      obtain ⟨d1, d2, d3, d4, d5, d6, d7, d8, d9⟩ := hi i hik
      unfold Wi at d2
      obtain ⟨f1, f2, f3, f4, f5, c1, f6, f7, f8, f9⟩ := d1
      have kb0 : 0 ≤ bb i := by clear hi f9 e19 x; grind
      have kbc : bb i < c := by clear hi f9 e19 x; grind
      have kb6 : bb i < 6200 := by clear hi f9 e19 x; grind
      have kbC : bb i < nI C := by clear hi f9 e19 x; grind
      have hfs : fs i ≤ fs (i + 1) := by clear hi f9 e19 x; grind
      refine ⟨⟨?_, d5⟩, kb0, kbc⟩
      have hc1 : 0 ≤ c1 ∧ Ms σ τr τp cf (fs i) (fs (i + 1)) (ft i) c1 := by
        rcases f9 with ⟨g1, g2, g3⟩ | g1
        · unfold Wi at g3
          exact ⟨by clear hi g2 e19 x; grind, g2.2 (by clear hi g2 e19 x; grind) (by clear hi g2 e19 x; grind) (os _ (by clear hi g2 e19 x; grind) (by clear hi g2 e19 x; grind))⟩
        · have k4 : 0 ≤ c1 := by
            obtain ⟨g1, g2, g3, g4, g5, g6, g7, g8, g9, c9, g10, g11, g12, g13, g14⟩ := g1
            unfold Wi at g13
            clear hi x g12 e19
            grind
          exact ⟨k4, g1.ms hX (fun _ _ _ _ _ _ _ _ _ _ w => w.2) hs0 (by clear hi g1 e19 x; grind) (by clear hi g1 e19 x; grind) k4 (by clear hi g1 e19 x; grind) (by clear hi g1 e19 x; grind) (by clear hi g1 e19 x; grind)⟩
      obtain ⟨hM, h13⟩ := hX.ch kb0 kbC (l := 1) (cc := fun _ => c1) ⟨by omega, f6, fun p hp => ⟨hc1.1, by show c1 < bb i; clear hi f9 e19 x; grind, by rw [if_neg (by omega)]; exact f7⟩⟩ (by rw [f3]; decide) (by rw [f3]; decide)
      exact Ms.one hX hfs rfl kb0 kb6 f8 hM (by rw [h13, f3]; rfl) hc1.2
    have m := Ms.row (fun i hik => (hr i hik).1) k (Nat.le_refl _)
    rw [p1, p2, p7, p7'] at m
    obtain ⟨hM, h13⟩ := hX.ch hc0 hcC (l := k + 1) (cc := fun p => if p = 0 then c0 else bb (p - 1)) ⟨by omega, e12, fun p hp => by
      by_cases hp0 : p = 0
      · subst hp0
        exact ⟨by show 0 ≤ c0; clear hi e19 x hr; grind, by show c0 < c; clear hi e19 x hr; grind, by show xA σ 17 c0 = if 0 + 1 < k + 1 then bb 0 else -1; rw [if_pos (by omega)]; exact p9.symm⟩
      · obtain ⟨e, rfl⟩ : ∃ e, p = e + 1 := ⟨p - 1, by omega⟩
        have d7 := (hi e (by omega)).2.2.2.2.2.2.1
        obtain ⟨-, r2, r3⟩ := hr e (by omega)
        refine ⟨r2, r3, ?_⟩
        show xA σ 17 (bb e) = if e + 1 + 1 < k + 1 then bb (e + 1) else -1
        rw [d7]
        by_cases hek : e + 1 < k
        · rw [if_pos hek, if_pos (by omega)]
        · rw [if_neg hek, if_neg (by omega)]⟩ (by rw [e4]; decide) (by rw [e4]; decide)
    refine (Ms.node hX b3 hc0 b14 hcC hM (by rw [h13, e4]; rfl) (fun i hik => ?_) ?_).1
    · by_cases hi0 : i = 0
      · subst hi0; exact x.1
      · obtain ⟨e, rfl⟩ : ∃ e, i = e + 1 := ⟨i - 1, by omega⟩
        exact (hr e (by omega)).1.1.1
    · have y := x.2.2
      rw [← e13] at y
      have z := (Mb.s (σ := σ) (τr := τr) (τ := τp) (cf := cf) t hs0 (by clear hi e19 hr; grind) hne).tr (m.tr y)
      refine z.le ?_
      have := pre_f0 (Nn τp c0) (fun i => Nn τp (bb i)) k
      have e1 : sP τp (fun p => if p = 0 then c0 else bb (p - 1)) (k + 1) = pre (fun p => if p = 0 then Nn τp c0 else (fun i => Nn τp (bb i)) (p - 1)) (k + 1) := pre_eq (k + 1) (fun i _ => by by_cases hi0 : i = 0 <;> simp only [hi0, if_true, if_false] <;> rfl)
      rw [e1, this]
      show Nn τp c0 + sP τp bb k ≤ _
      omega
  · obtain ⟨e1, e2, e3, e4, k, s1, u1, a1, c0, e9, e10, e11, e12, e13, e14, e15, e16, e17⟩ := q
    unfold Ow at ho
    unfold Wi at e13
    have x := e12.2 (by clear e14 e12; grind) (by clear e14 e12; grind) ho
    obtain ⟨g, bb, fs, fu, fn, ft, p1, p2, p3, p4, p5, p6, ⟨p7, p7'⟩, p8, p9, hi⟩ := e14
    have hr : ∀ i, i < k → (Ms σ τr τp cf (fs i) (fs (i + 1)) (ft i) (bb i) ∧ ft (i + 1) = bb i + 1) ∧ (0 ≤ bb i ∧ bb i < c) ∧ (xA σ 13 (bb i) = 11 ∨ xA σ 13 (bb i) = 12 ∨ xA σ 13 (bb i) = 13) := fun i hik => by
      obtain ⟨d1, d2, d3, d4, d5, d6, d7, d8, d9⟩ := hi i hik
      unfold Wi at d2
      obtain ⟨f1, f2, c1, f6, f7, f8, f9⟩ := d1
      have kb0 : 0 ≤ bb i := by clear hi f9 e12 x; grind
      have kbc : bb i < c := by clear hi f9 e12 x; grind
      have kb6 : bb i < 6200 := by clear hi f9 e12 x; grind
      have kbC : bb i < nI C := by clear hi f9 e12 x; grind
      have hfs : fs i ≤ fs (i + 1) := by clear hi f9 e12 x; grind
      have hfs0 : 0 ≤ fs i := by clear hi f9 e12 x; grind
      have hc1 : 0 ≤ c1 ∧ Ms σ τr τp cf (fs i) (fs (i + 1)) (ft i) c1 ∧ (xA σ 13 (bb i) = 11 ∨ xA σ 13 (bb i) = 12 ∨ xA σ 13 (bb i) = 13) := by
        rcases f9 with ⟨g1, g2, g3, g4, g5, g6, g7, g8, g9, g10, g11, g12, g13⟩ | ⟨g1, g2, g3, g4⟩
        · unfold Wi at g13
          have hne : ¬ xA σ 22 (fs i) = fs i := by rw [g9]; clear hi g12 e12 x; grind
          have y := g12.2 (by clear hi g12 e12 x; grind) (by clear hi g12 e12 x; grind) (by unfold Ow; rw [g9]; exact ⟨ho.1, by clear hi g12 e12 x; grind⟩)
          refine ⟨by clear hi g12 e12 x; grind, ⟨y.1, y.2.1, ?_⟩, Or.inl g2⟩
          exact ((Mb.s (σ := σ) (τr := τr) (τ := τp) (cf := cf) (ft i) hfs0 (by clear hi g12 e12 x; grind) hne).tr y.2.2).le (by omega)
        · unfold Wi at g4
          refine ⟨by clear hi g3 e12 x; grind, g3.2 (by clear hi g3 e12 x; grind) (by clear hi g3 e12 x; grind) ⟨ho.1, by clear hi g3 e12 x; grind⟩, ?_⟩
          rcases g2 with ⟨_, w, _⟩ | ⟨_, w⟩
          · exact Or.inr (Or.inl w)
          · exact Or.inr (Or.inr w)
      refine ⟨⟨?_, d5⟩, ⟨kb0, kbc⟩, hc1.2.2⟩
      have k5 : 5 ≤ xA σ 13 (bb i) := by rcases hc1.2.2 with w | w | w <;> rw [w] <;> decide
      have k13 : xA σ 13 (bb i) ≤ 13 := by rcases hc1.2.2 with w | w | w <;> rw [w] <;> decide
      obtain ⟨hM, h13⟩ := hX.ch kb0 kbC (l := 1) (cc := fun _ => c1) ⟨by omega, f6, fun p hp => ⟨hc1.1, by show c1 < bb i; clear hi f9 e12 x; grind, by rw [if_neg (by omega)]; exact f7⟩⟩ k5 k13
      exact Ms.one hX hfs rfl kb0 kb6 f8 hM (by rw [h13]; rcases hc1.2.2 with w | w | w <;> rw [w] <;> rfl) hc1.2.1
    have m := Ms.row (fun i hik => (hr i hik).1) k (Nat.le_refl _)
    rw [p1, p2, p7, p7'] at m
    obtain ⟨hM, h13⟩ := hX.ch hc0 hcC (l := k + 1) (cc := fun p => if p = 0 then c0 else bb (p - 1)) ⟨by omega, e11, fun p hp => by
      by_cases hp0 : p = 0
      · subst hp0
        exact ⟨by show 0 ≤ c0; clear hi e12 x hr; grind, by show c0 < c; clear hi e12 x hr; grind, by show xA σ 17 c0 = if 0 + 1 < k + 1 then bb 0 else -1; rw [if_pos (by omega)]; exact p9.symm⟩
      · obtain ⟨e, rfl⟩ : ∃ e, p = e + 1 := ⟨p - 1, by omega⟩
        have d7 := (hi e (by omega)).2.2.2.2.2.2.1
        obtain ⟨-, ⟨r2, r3⟩, -⟩ := hr e (by omega)
        refine ⟨r2, r3, ?_⟩
        show xA σ 17 (bb e) = if e + 1 + 1 < k + 1 then bb (e + 1) else -1
        rw [d7]
        by_cases hek : e + 1 < k
        · rw [if_pos hek, if_pos (by omega)]
        · rw [if_neg hek, if_neg (by omega)]⟩ (by rw [e4]; decide) (by rw [e4]; decide)
    refine (Ms.node hX b3 hc0 b14 hcC hM (by rw [h13, e4]; rfl) (fun i hik => ?_) ?_).1
    · by_cases hi0 : i = 0
      · subst hi0; exact x.1
      · obtain ⟨e, rfl⟩ : ∃ e, i = e + 1 := ⟨i - 1, by omega⟩
        exact (hr e (by omega)).1.1.1
    · refine (x.2.2.tr m).le ?_
      have := pre_f0 (Nn τp c0) (fun i => Nn τp (bb i)) k
      have e1 : sP τp (fun p => if p = 0 then c0 else bb (p - 1)) (k + 1) = pre (fun p => if p = 0 then Nn τp c0 else (fun i => Nn τp (bb i)) (p - 1)) (k + 1) := pre_eq (k + 1) (fun i _ => by by_cases hi0 : i = 0 <;> simp only [hi0, if_true, if_false] <;> rfl)
      rw [e1, this]
      show Nn τp c0 + sP τp bb k ≤ _
      omega
