/-- the children of a node -/
def CHn (σ : S5) (i : Int32) (l : Nat) (cc : Nat → Int32) : Prop := (1 ≤ l ∧ l ≤ 9) ∧ xA σ 16 i = cc 0 ∧ ∀ p, p < l → 0 ≤ cc p ∧ cc p < i ∧ xA σ 17 (cc p) = if p + 1 < l then cc (p + 1) else -1
/-- a node has none, or it has these -/
def Kd2 (σ : S5) (i : Int32) : Prop := (xA σ 16 i = -1 ∧ (xA σ 13 i = 0 ∨ xA σ 13 i = 1 ∨ xA σ 13 i = 3 ∨ xA σ 13 i = 4 ∨ xA σ 13 i = 14)) ∨ (∃ l cc, CHn σ i l cc ∧ 5 ≤ xA σ 13 i ∧ xA σ 13 i ≤ 13)
/-- what lets, bindings, alternatives and functions within say -/
def NK (σ : S5) (S i : Int32) : Prop := (xA σ 13 i = 7 → 0 ≤ xA σ 15 i ∧ xA σ 15 i < S) ∧ (xA σ 13 i = 10 → ∃ (v : Int32) (q : Nat), (0 ≤ v ∧ v < S) ∧ q < 5 ∧ xA σ 14 i = v * 5 + nI q) ∧ (xA σ 13 i = 11 → (0 ≤ xA σ 15 i ∧ xA σ 15 i < S) ∧ 0 ≤ xA σ 14 i ∧ xA σ 14 i < gI σ 4) ∧ (xA σ 13 i = 14 → (0 ≤ xA σ 14 i ∧ xA σ 14 i < S) ∧ xA σ 22 (xA σ 14 i) = xA σ 14 i ∧ 0 ≤ xA σ 21 (xA σ 14 i) ∧ xA σ 21 (xA σ 14 i) < xA σ 14 i)
theorem NK.no {σ : S5} {S i : Int32} (h7 : ¬ xA σ 13 i = 7) (h10 : ¬ xA σ 13 i = 10) (h11 : ¬ xA σ 13 i = 11) (h14 : ¬ xA σ 13 i = 14) : NK σ S i := ⟨fun w => absurd w h7, fun w => absurd w h10, fun w => absurd w h11, fun w => absurd w h14⟩
theorem TRow.chn {σ μ : S5} {P : Nat → Int32 → Int32 → Int32 → Int32 → Int32 → Int32 → Int32 → Int32 → Int32 → Prop} {k : Nat} {s s' u u' a b t c n1 c1 nn : Int32} {gap : Nat → Int32} (h : TRow σ μ P k s s' u u' a b t c n1 c1 nn gap) (ht : 0 ≤ t) : ∃ cc : Nat → Int32, cc 0 = c1 ∧ ∀ p, p < k → 0 ≤ cc p ∧ cc p < c ∧ xA σ 17 (cc p) = if p + 1 < k then cc (p + 1) else -1 := by
  obtain ⟨g, cc, fs, fu, fn, ft, e1, e2, e3, e4, e5, e6, ⟨e7, e7'⟩, e8, e9, hi⟩ := h
  refine ⟨cc, e9, fun p hp => ?_⟩
  obtain ⟨d1, d2, d3, d4, d5, d6, d7, d8, d9⟩ := hi p hp
  unfold Wi at d2
  exact ⟨by clear hi d1; grind, d2.2.2.2.2.2.2.2.2.2.2.2, d7⟩
theorem TFun.nk {σ μ : S5} {R : R10} {S : Int32} {h s s' u u' n b t c : Int32} (q : TFun σ μ R h s s' u u' n b t c) (h0 : 0 ≤ h) (h1 : h < s) (hs : s' ≤ S) (hs7 : s' ≤ 700) : Kd2 σ c ∧ NK σ S c := by
  obtain ⟨e1, e2, e3, e4, e5, e6, e7, e8, e9, c2, e10, e11, e12, e13, e14⟩ := q
  unfold Wi at e13
  refine ⟨Or.inl ⟨e3, Or.inr (Or.inr (Or.inr (Or.inr e1)))⟩, fun w => absurd w (by rw [e1]; decide), fun w => absurd w (by rw [e1]; decide), fun w => absurd w (by rw [e1]; decide), fun _ => ?_⟩
  rw [e2, e4, e5]
  exact ⟨⟨by clear e12; grind, by clear e12; grind⟩, rfl, h0, h1⟩
theorem IT.nk {σ μ : S5} {S i : Int32} (h : IT σ μ S i) : Kd2 σ i ∧ NK σ S i := by
  rcases h with ⟨h, s, s', u, u', a, b, t, n, hS, q, cx⟩ | ⟨v, j, s, s', u, u', a, b, t, n, ⟨j5, hs7, hb, hS⟩, q, cx⟩ | ⟨h, j, s, s', u, u', a, b, t, n, ⟨hs7, hS⟩, q, cx⟩ | ⟨h, s, s', u, u', n, b, t, ⟨hs7, hS, hk⟩, q, cx⟩
  · obtain ⟨hb, q⟩ := q.un
    unfold Bd at hb
    obtain ⟨b1, b2, b3, b4, b5, b6, b7, b8, b9, b10, b11, b12, b13, b14⟩ := hb
    rcases q with q | q | q | q | q | q | q
    · obtain ⟨e1, e2, e3, e4, e5, e6, e7⟩ := q
      have hk : xA σ 13 i = 0 ∨ xA σ 13 i = 1 ∨ xA σ 13 i = 3 ∨ xA σ 13 i = 4 := by
        rcases e7 with ⟨_, w, _⟩ | ⟨_, ⟨_, w, _⟩ | ⟨_, w, _⟩ | ⟨_, w⟩⟩ <;> rw [w] <;> decide
      refine ⟨Or.inl ⟨e5, ?_⟩, NK.no ?_ ?_ ?_ ?_⟩
      · rcases hk with w | w | w | w <;> rw [w] <;> decide
      all_goals rcases hk with w | w | w | w <;> rw [w] <;> decide
    · obtain ⟨e1, e2, e3, e4, e5, c1, c2, s1, u1, e6, e7, e8, e9, e10, e11, e12, e13⟩ := q
      unfold Wi at e7 e9
      refine ⟨Or.inr ⟨2, fun p => if p = 0 then c1 else c2, ⟨⟨by omega, by omega⟩, e11, fun p hp => ?_⟩, by rw [e3]; decide, by rw [e3]; decide⟩, NK.no (by rw [e3]; decide) (by rw [e3]; decide) (by rw [e3]; decide) (by rw [e3]; decide)⟩
      by_cases hp0 : p = 0
      · subst hp0
        show 0 ≤ c1 ∧ c1 < i ∧ xA σ 17 c1 = if 0 + 1 < 2 then c2 else -1
        rw [if_pos (by omega)]
        exact ⟨by clear e6 e8; grind, by clear e6 e8; grind, e12⟩
      · have hp1 : p = 1 := by omega
        subst hp1
        show 0 ≤ c2 ∧ c2 < i ∧ xA σ 17 c2 = if 1 + 1 < 2 then c2 else -1
        rw [if_neg (by omega)]
        exact ⟨by clear e6 e8; grind, by clear e6 e8; grind, e13⟩
    · obtain ⟨e1, e2, e3, k, e4, e5, e6, e7⟩ := q
      obtain ⟨cc, c1, c2⟩ := e7.chn b12
      exact ⟨Or.inr ⟨k, cc, ⟨⟨by omega, by omega⟩, c1.symm, c2⟩, by rw [e3]; decide, by rw [e3]; decide⟩, NK.no (by rw [e3]; decide) (by rw [e3]; decide) (by rw [e3]; decide) (by rw [e3]; decide)⟩
    · obtain ⟨e1, e2, e3, e4, e5, e6, e7, k, e8, e9, e10, e11⟩ := q
      obtain ⟨cc, c1, c2⟩ := e11.chn b12
      exact ⟨Or.inr ⟨k, cc, ⟨⟨by omega, by omega⟩, c1.symm, c2⟩, by rw [e3]; decide, by rw [e3]; decide⟩, NK.no (by rw [e3]; decide) (by rw [e3]; decide) (by rw [e3]; decide) (by rw [e3]; decide)⟩
    · obtain ⟨e1, e2, e3⟩ := q
      exact e3.nk b1 b2 hS b4
    · obtain ⟨e1, e2, e3, e4, e5, e6, e7, e8, k, s1, u1, a1, t1, c0, e9, e10, e11, e12, e13, e14, e15, e16, e17, e18, e19, e20⟩ := q
      unfold Wi at e20
      obtain ⟨cc, c1, c2⟩ := e14.chn b12
      have hs0 : 0 ≤ s := by clear e14 e19 c2; grind
      refine ⟨Or.inr ⟨k + 1, fun p => if p = 0 then c0 else cc (p - 1), ⟨⟨by omega, by omega⟩, e12, fun p hp => ?_⟩, by rw [e4]; decide, by rw [e4]; decide⟩, fun _ => ?_, fun w => absurd w (by rw [e4]; decide), fun w => absurd w (by rw [e4]; decide), fun w => absurd w (by rw [e4]; decide)⟩
      · match p, hp with
        | 0, _ =>
          show 0 ≤ c0 ∧ c0 < i ∧ xA σ 17 c0 = if 0 + 1 < k + 1 then cc 0 else -1
          rw [if_pos (by omega), c1]
          exact ⟨by clear e14 e19 c2; grind, by clear e14 e19 c2; grind, rfl⟩
        | p + 1, hp =>
          obtain ⟨z1, z2, z3⟩ := c2 p (by omega)
          show 0 ≤ cc p ∧ cc p < i ∧ xA σ 17 (cc p) = if p + 1 + 1 < k + 1 then cc (p + 1) else -1
          refine ⟨z1, by clear e14 e19 c2; grind, ?_⟩
          rw [z3]
          by_cases hh : p + 1 < k
          · rw [if_pos hh, if_pos (by omega)]
          · rw [if_neg hh, if_neg (by omega)]
      · rw [e5]
        exact ⟨hs0, by clear e14 e19 c2; grind⟩
    · obtain ⟨e1, e2, e3, e4, k, s1, u1, a1, c0, e9, e10, e11, e12, e13, e14, e15, e16, e17⟩ := q
      unfold Wi at e13
      obtain ⟨cc, c1, c2⟩ := e14.chn (by clear e14 e12; grind)
      refine ⟨Or.inr ⟨k + 1, fun p => if p = 0 then c0 else cc (p - 1), ⟨⟨by omega, by omega⟩, e11, fun p hp => ?_⟩, by rw [e4]; decide, by rw [e4]; decide⟩, NK.no (by rw [e4]; decide) (by rw [e4]; decide) (by rw [e4]; decide) (by rw [e4]; decide)⟩
      match p, hp with
      | 0, _ =>
        show 0 ≤ c0 ∧ c0 < i ∧ xA σ 17 c0 = if 0 + 1 < k + 1 then cc 0 else -1
        rw [if_pos (by omega), c1]
        exact ⟨by clear e14 e12 c2; grind, by clear e14 e12 c2; grind, rfl⟩
      | p + 1, hp =>
        obtain ⟨z1, z2, z3⟩ := c2 p (by omega)
        show 0 ≤ cc p ∧ cc p < i ∧ xA σ 17 (cc p) = if p + 1 + 1 < k + 1 then cc (p + 1) else -1
        refine ⟨z1, z2, ?_⟩
        rw [z3]
        by_cases hh : p + 1 < k
        · rw [if_pos hh, if_pos (by omega)]
        · rw [if_neg hh, if_neg (by omega)]
  · obtain ⟨d1, d2, d3, d4, d5, c1, d6, d7, d8, d9⟩ := q
    have hv := cx.1
    have k4 : 0 ≤ c1 ∧ c1 < i ∧ s ≤ s' := by
      rcases d9 with ⟨d9, d10, d11⟩ | d9
      · have hb := d10.un.1
        unfold Bd at hb
        unfold Wi at d11
        clear d10
        exact ⟨by grind, by grind, by grind⟩
      · obtain ⟨g1, g2, g3, g4, g5, g6, g7, g8, g9, c9, g10, g11, g12, g13, g14⟩ := d9
        have hb := g12.un.1
        unfold Bd at hb
        unfold Wi at g13
        clear g12
        exact ⟨by grind, by grind, by grind⟩
    refine ⟨Or.inr ⟨1, fun _ => c1, ⟨⟨by omega, by omega⟩, d6, fun p hp => ⟨k4.1, k4.2.1, by rw [if_neg (by omega)]; exact d7⟩⟩, by rw [d3]; decide, by rw [d3]; decide⟩, fun w => absurd w (by rw [d3]; decide), fun _ => ⟨v, j, ⟨hv.1, by grind⟩, j5, d4⟩, fun w => absurd w (by rw [d3]; decide), fun w => absurd w (by rw [d3]; decide)⟩
  · obtain ⟨d1, d2, c1, d3, d4, d5, d6⟩ := q
    have hk : xA σ 13 i = 11 ∨ xA σ 13 i = 12 ∨ xA σ 13 i = 13 := by
      rcases d6 with ⟨_, w, _⟩ | ⟨_, ⟨_, w, _⟩ | ⟨_, w⟩, _⟩ <;> rw [w] <;> decide
    have k4 : 0 ≤ c1 ∧ c1 < i := by
      rcases d6 with ⟨f1, f2, f3, f4, f5, f6, f7, f8, f9, f10, f11, f12, f13⟩ | ⟨f1, f2, f3, f4⟩
      · have hb := f12.un.1
        unfold Bd at hb
        unfold Wi at f13
        clear f12
        exact ⟨by grind, by grind⟩
      · have hb := f3.un.1
        unfold Bd at hb
        unfold Wi at f4
        clear f3
        exact ⟨by grind, by grind⟩
    refine ⟨Or.inr ⟨1, fun _ => c1, ⟨⟨by omega, by omega⟩, d3, fun p hp => ⟨k4.1, k4.2, by rw [if_neg (by omega)]; exact d4⟩⟩, by rcases hk with w | w | w <;> rw [w] <;> decide, by rcases hk with w | w | w <;> rw [w] <;> decide⟩, fun w => ?_, fun w => ?_, fun w => ?_, fun w => ?_⟩
    · exact absurd w (by rcases hk with w | w | w <;> rw [w] <;> decide)
    · exact absurd w (by rcases hk with w | w | w <;> rw [w] <;> decide)
    · rcases d6 with ⟨f1, f2, f3, f4, f5, f6, f7, f8, f9, f10, f11, f12, f13⟩ | ⟨_, ⟨_, w2, _⟩ | ⟨_, w2⟩, _⟩
      · rw [f7]
        have := cx.1
        unfold Wi at f13
        exact ⟨⟨by clear f12; grind, by clear f12; grind⟩, f4, f5⟩
      · rw [w2] at w; exact absurd w (by decide)
      · rw [w2] at w; exact absurd w (by decide)
    · exact absurd w (by rcases hk with w | w | w <;> rw [w] <;> decide)
  · exact q.nk cx.1.1 cx.1.2 hS hs7
