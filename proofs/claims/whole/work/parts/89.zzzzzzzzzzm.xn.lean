theorem ch_fn {α : Type} [Inhabited α] {k : Nat} {P : Nat → α → Prop} (h : ∀ i, i < k → ∃ a, P i a) : ∃ f : Nat → α, ∀ i, i < k → P i (f i) := ⟨fun i => if h' : i < k then Classical.choose (h i h') else default, fun i hi => by simp only [dif_pos hi]; exact Classical.choose_spec (h i hi)⟩
/-- children of both, with all that is known -/
def XK (τ μ : S5) (R : R6) (h k ct : Nat) (cc : Nat → Int32) (Sa : Nat → Nat → Prop) (la lb : Nat → Nat) (q p : Nat) : Prop := ∃ (qq pp : Nat → Nat), xA μ 33 (nI p) = nI ct ∧ ct + k ≤ 14000 ∧ xA μ 34 (nI p) = nI k ∧ qq 0 = q ∧ qq k = p ∧ ∀ i, i < k → R (cc i) (qq i) (pp i) (Sa i) (la i) (lb i) ∧ hF τ (cc i) < h ∧ (0 ≤ cc i ∧ cc i < 6200) ∧ qq i ≤ pp i ∧ pp i < p ∧ qq (i + 1) = pp i + 1 ∧ xA μ 39 (nI (ct + i)) = nI (pp i)
def XLeaf (τ μ : S5) (F : Nat) (c : Int32) (q p : Nat) (Sc : Nat → Prop) (lo hi : Nat) : Prop := q = p ∧ lo = hi ∧ xA μ 34 (nI p) = nI 0 ∧ xA τ 16 c = -1 ∧ ((xA τ 13 c = 0 ∧ xA μ 31 (nI p) = 10 ∧ xA μ 32 (nI p) = xA τ 14 c ∧ 0 ≤ xA τ 14 c) ∨ (xA τ 13 c = 1 ∧ xA μ 31 (nI p) = 9 ∧ xA μ 32 (nI p) = xA τ 14 c ∧ 0 ≤ xA τ 14 c ∧ xA τ 14 c < gI τ 4 ∧ xA τ 2 (xA τ 14 c) = 0) ∨ (xA τ 13 c = 2 ∧ xA μ 31 (nI p) = 12 ∧ ∃ f, f < F ∧ xA τ 14 c = nI f ∧ xA μ 32 (nI p) = nI f) ∨ (xA τ 13 c = 3 ∧ xA μ 31 (nI p) = 13 ∧ ∃ x, x < 40 ∧ xA τ 14 c = nI x ∧ xA μ 32 (nI p) = nI x ∧ Sc x) ∨ (xA τ 13 c = 4 ∧ xA μ 31 (nI p) = 11))
def XRow (τ μ : S5) (R : R6) (c : Int32) (q p : Nat) (Sc : Nat → Prop) (lo hi : Nat) : Prop := ∃ (k ct : Nat) (cc : Nat → Int32) (ll : Nat → Nat), ((xA τ 13 c = 5 ∧ xA μ 31 (nI p) = 5 ∧ xA μ 32 (nI p) = kMd (xA τ 14 c) ∧ 0 < rkK (xA τ 14 c) ∧ k = 2) ∨ (xA τ 13 c = 8 ∧ xA μ 31 (nI p) = 6 ∧ 2 ≤ k ∧ xA τ 15 c = nI (k - 1)) ∨ (xA τ 13 c = 9 ∧ xA μ 31 (nI p) = 7 ∧ xA μ 32 (nI p) = xA τ 14 c ∧ 0 ≤ xA τ 14 c ∧ xA τ 14 c < gI τ 4 ∧ k ≤ 4 ∧ xA τ 2 (xA τ 14 c) = nI k)) ∧ (1 ≤ k ∧ k ≤ 9) ∧ Chn τ c k cc ∧ ll 0 = lo ∧ ll k = hi ∧ XK τ μ R (hF τ c) k ct cc (fun _ => Sc) ll (fun i => ll (i + 1)) q p
def XLet (τ μ : S5) (R : R6) (c : Int32) (q p : Nat) (Sc : Nat → Prop) (lo hi : Nat) : Prop := xA τ 13 c = 7 ∧ xA μ 31 (nI p) = 0 ∧ ∃ (l ct : Nat) (bb : Nat → Int32) (ll : Nat → Nat), (1 ≤ l ∧ l ≤ 5) ∧ xA μ 32 (nI p) = nI l ∧ xA μ 35 (nI p) = nI lo ∧ xA τ 17 (xA τ 16 c) = bb 0 ∧ (∀ i, i < l → (0 ≤ bb i ∧ bb i < 6200) ∧ xA τ 13 (bb i) = 10 ∧ xA τ 14 (bb i) = nI (lo + i) ∧ xA τ 17 (xA τ 16 (bb i)) = -1 ∧ xA τ 17 (bb i) = if i + 1 < l then bb (i + 1) else -1) ∧ ll 0 = lo + l ∧ lo + l ≤ hi ∧ XK τ μ R (hF τ c) (l + 1) ct (fun i => if i < l then xA τ 16 (bb i) else xA τ 16 c) (fun _ => Sx Sc lo l) ll (fun i => if i < l then ll (i + 1) else hi) q p
def XAlt (τ μ : S5) (a at0 : Int32) (j x0 : Nat) : Prop := (xA τ 13 a = 11 ∧ xA μ 40 at0 = 0 ∧ xA μ 41 at0 = xA τ 14 a ∧ 0 ≤ xA τ 14 a ∧ xA τ 14 a < gI τ 4 ∧ j ≤ 5 ∧ xA τ 2 (xA τ 14 a) = nI j ∧ xA μ 43 at0 = nI j ∧ xA τ 15 a = nI x0 ∧ (0 < j → xA μ 42 at0 = nI x0) ∧ (j = 0 → xA μ 42 at0 = 0)) ∨ (xA τ 13 a = 12 ∧ xA μ 40 at0 = 1 ∧ xA μ 41 at0 = xA τ 14 a ∧ 0 ≤ xA τ 14 a ∧ xA μ 43 at0 = 0 ∧ j = 0) ∨ (xA τ 13 a = 13 ∧ xA μ 40 at0 = 2 ∧ xA μ 43 at0 = 0 ∧ j = 0)
def XCase (τ μ : S5) (R : R6) (c : Int32) (q p : Nat) (Sc : Nat → Prop) (lo hi : Nat) : Prop := xA τ 13 c = 6 ∧ xA μ 31 (nI p) = 3 ∧ ∃ (l ct : Nat) (aa : Nat → Int32) (jj ll : Nat → Nat), (1 ≤ l ∧ l ≤ 8) ∧ xA μ 32 (nI p) = nI l ∧ xA τ 17 (xA τ 16 c) = aa 0 ∧ (∀ i, i < l → (0 ≤ aa i ∧ aa i < 6200) ∧ xA τ 17 (xA τ 16 (aa i)) = -1 ∧ xA τ 17 (aa i) = if i + 1 < l then aa (i + 1) else -1) ∧ (∀ i, i < l → XAlt τ μ (aa i) (nI (ct + 1 + i)) (jj i) (ll i) ∧ ll i + jj i ≤ ll (i + 1)) ∧ lo ≤ ll 0 ∧ ll l = hi ∧ XK τ μ R (hF τ c) (l + 1) ct (fun i => if i = 0 then xA τ 16 c else xA τ 16 (aa (i - 1))) (fun i => if i = 0 then Sc else Sx Sc (ll (i - 1)) (jj (i - 1))) (fun i => if i = 0 then lo else ll (i - 1) + jj (i - 1)) ll q p
def XF (τ μ : S5) (F : Nat) (R : R6) (c : Int32) (q p : Nat) (Sc : Nat → Prop) (lo hi : Nat) : Prop := (q ≤ p ∧ p < 7000 ∧ (0 ≤ c ∧ c < 6200) ∧ lo ≤ hi ∧ xB μ 5 (nI p) = xB τ 2 c ∧ p + 1 = q + (xA τ 19 c).toNatClampNeg) ∧ ((xA τ 13 c = 7 → xA τ 14 c = xA μ 36 (nI p) ∧ (xA τ 14 c = 0 ∨ xA τ 14 c = 1)) ∧ (¬ xA τ 13 c = 7 → xA μ 36 (nI p) = 0)) ∧ (XLeaf τ μ F c q p Sc lo hi ∨ XRow τ μ R c q p Sc lo hi ∨ XLet τ μ R c q p Sc lo hi ∨ XCase τ μ R c q p Sc lo hi)
/-- both trees, and what is seen -/
def XN (τ μ : S5) (F V T : Nat) (c : Int32) (q p : Nat) (Sc : Nat → Prop) (lo hi : Nat) : Prop := LTN τ μ F V T c q p ∧ VS τ c Sc lo hi ∧ (∀ x, Sc x → x < lo) ∧ hi ≤ 40
theorem Sx0 (Sc : Nat → Prop) (x : Nat) : Sx Sc x 0 = Sc := funext (fun y => propext ⟨fun h => h.elim id (fun w => absurd w.2 (by omega)), Or.inl⟩)
theorem XN.un {τ μ : S5} {F V T : Nat} (hV : V ≤ 40) {c : Int32} {q p : Nat} {Sc : Nat → Prop} {lo hi : Nat} (h : XN τ μ F V T c q p Sc lo hi) : XF τ μ F (XN τ μ F V T) c q p Sc lo hi := by
  obtain ⟨hl, v, hS, h40⟩ := h
  obtain ⟨⟨⟨a1, a1b, a1c, a1d⟩, a2, a3, a4, a5⟩, a6⟩ := hl.un
  have hle := v.le
  refine ⟨⟨a1, a1b, a1d, hle, a4 hV, a3⟩, a6, ?_⟩
  have b6 : ∀ {x : Int32} {q' p' : Nat}, LTN τ μ F V T x q' p' → 0 ≤ x ∧ x < 6200 := fun w => w.un.1.1.2.2.2
  have row : ∀ (k' ct' : Nat) (cc' : Nat → Int32), (xA τ 13 c = 5 ∨ xA τ 13 c = 8 ∨ xA τ 13 c = 9) → 1 ≤ k' → Chn τ c k' cc' → LKids μ (fun c' q' p' => LTN τ μ F V T c' q' p' ∧ hF τ c' < hF τ c) k' cc' T q p → k' ≤ 9 ∧ ∃ (ct : Nat) (ll : Nat → Nat), ll 0 = lo ∧ ll k' = hi ∧ XK τ μ (XN τ μ F V T) (hF τ c) k' ct cc' (fun _ => Sc) ll (fun i => ll (i + 1)) q p := by
    intro k' ct' cc' hk hk' hch hkd
    rcases v.un with ⟨⟨-, q1⟩, -, -⟩ | ⟨q1, k, cc, ll, q2, q3, q4, q5, ⟨q6, q7, q8, q8'⟩, q9⟩ | ⟨q1, -⟩ | ⟨q1, -⟩
    · rcases hk with w | w | w <;> rw [w] at q1 <;> exact absurd q1 (by decide)
    · obtain ⟨e1, e2⟩ := ch_uq (τ := τ) q2 hk' (q4.1.symm.trans hch.1) q4.2 hch.2
      subst e1
      have hm := ll_mo (fun i hi => (q9 i hi).le)
      obtain ⟨qq, pp, ct, k1, k2, k3, k4, k5, k6⟩ := hkd
      refine ⟨q3, ct, ll, q5, q6, qq, pp, k1, by omega, k3, k4, k5, fun i hi' => ?_⟩
      obtain ⟨⟨r1, r1'⟩, r2, r3, r4, r5⟩ := k6 i hi'
      have m1 := hm i 0 (by omega) (by omega)
      have m2 := hm k (i + 1) (by omega) (by omega)
      have hv := q9 i hi'
      rw [e2 i hi'] at hv
      try dsimp only
      exact ⟨⟨r1, hv, fun x w => by have := hS x w; omega, by omega⟩, r1', b6 r1, r2, r3, r4, r5⟩
    · rcases hk with w | w | w <;> rw [w] at q1 <;> exact absurd q1 (by decide)
    · rcases hk with w | w | w <;> rw [w] at q1 <;> exact absurd q1 (by decide)
  rcases a5 with ⟨b1, b2, b3, b4⟩ | ⟨b1, b2, b3, b4, cc, b5, b6'⟩ | ⟨b1, b2, k, cc, b3, b4, b5, b6', b7⟩ | ⟨b1, b2, b3, b4, b5, k, cc, b6', b7, b8, b9, b10⟩ | ⟨b1, b2, l, x0, bb, cc, c0, b3, b4, b5, b6', b7, b8, b9, b10, b11, b12⟩ | ⟨b1, b2, l, ct, aa, cc, c0, b3, b4, b5, b6', b7, b8, b9, b10, b11, b12⟩
  · have hk : xA τ 13 c ≤ 4 := by
      rcases b4 with ⟨w, _⟩ | ⟨w, _⟩ | ⟨w, _⟩ | ⟨w, _⟩ | ⟨w, _⟩ <;> rw [w] <;> decide
    rcases v.un with ⟨⟨e0, q1⟩, q2, q3⟩ | ⟨q1, -⟩ | ⟨q1, -⟩ | ⟨q1, -⟩
    · refine Or.inl ⟨b1, e0, b2, b3, ?_⟩
      rcases b4 with w | w | w | ⟨w, w1, x, w2, w3, w4⟩ | w
      · exact Or.inl w
      · exact Or.inr (Or.inl w)
      · exact Or.inr (Or.inr (Or.inl w))
      · obtain ⟨y, y1, y2⟩ := q3 w
        have hy := hS y y2
        have e : x = y := nI_injL (by omega) (by omega) (w3.symm.trans y1)
        subst e
        exact Or.inr (Or.inr (Or.inr (Or.inl ⟨w, w1, x, by omega, w3, w4, y2⟩)))
      · exact Or.inr (Or.inr (Or.inr (Or.inr w)))
    · rcases q1 with w | w | w <;> rw [w] at hk <;> exact absurd hk (by decide)
    · rw [q1] at hk; exact absurd hk (by decide)
    · rw [q1] at hk; exact absurd hk (by decide)
  · obtain ⟨r0, ct, ll, r1, r2, r3⟩ := row 2 0 cc (Or.inl b1) (by omega) b5 b6'
    exact Or.inr (Or.inl ⟨2, ct, cc, ll, Or.inl ⟨b1, b2, b3, b4, rfl⟩, ⟨by omega, by omega⟩, b5, r1, r2, r3⟩)
  · obtain ⟨r0, ct, ll, r1, r2, r3⟩ := row k 0 cc (Or.inr (Or.inl b1)) (by omega) b6' b7
    exact Or.inr (Or.inl ⟨k, ct, cc, ll, Or.inr (Or.inl ⟨b1, b2, b3, b5⟩), ⟨by omega, by omega⟩, b6', r1, r2, r3⟩)
  · obtain ⟨r0, ct, ll, r1, r2, r3⟩ := row k 0 cc (Or.inr (Or.inr b1)) b6' b9 b10
    exact Or.inr (Or.inl ⟨k, ct, cc, ll, Or.inr (Or.inr ⟨b1, b2, b3, b4, b5, b7, b8⟩), ⟨b6', by omega⟩, b9, r1, r2, r3⟩)
  · rcases v.un with ⟨⟨-, q1⟩, -, -⟩ | ⟨q1, -⟩ | ⟨q1, l', bb', ll, q2, q3, q4, q5, q6, ⟨q7, q8, q9⟩, q10, q11⟩ | ⟨q1, -⟩
    · rw [b1] at q1; exact absurd q1 (by decide)
    · rcases q1 with w | w | w <;> rw [b1] at w <;> exact absurd w (by decide)
    · obtain ⟨e1, e2⟩ := ch_uq (τ := τ) q2 b3 (by rw [← q5, b8, b10]) (fun i hi => ⟨(q6 i hi).1.1, (q6 i hi).2.2⟩) (fun i hi => ⟨(b11 i hi).1, (b11 i hi).2.2.2.2.2.2⟩)
      subst e1
      have hmo := ll_mo (k := l') (ll := ll) (fun i hi => (q11 i hi).le)
      have hhi := q10.le
      have m0 := hmo l' 0 (by omega) (by omega)
      have hSx : ∀ x, Sx Sc lo l' x → x < lo + l' := fun x w => by
        rcases w with w | w
        · have := hS x w; omega
        · omega
      have ex0 : nI x0 = nI lo := by
        have w1 := (b11 0 (by omega)).2.2.1
        have w2 := (q6 0 (by omega)).2.1
        rw [e2 0 (by omega), w1] at w2
        exact w2
      obtain ⟨qq, pp, ct, k1, k2, k3, k4, k5, k6⟩ := b12
      refine Or.inr (Or.inr (Or.inl ⟨b1, b2, l', ct, bb, ll, ⟨b3, b4⟩, b5, by rw [b6', ex0], by rw [b8]; exact b10, fun i hi' => ?_, q7, by omega, qq, pp, k1, by omega, k3, k4, k5, fun i hi' => ?_⟩))
      · obtain ⟨d1, d2, d3, d4, d5, d6, d7⟩ := b11 i hi'
        obtain ⟨f1, f2, f3⟩ := q6 i hi'
        rw [e2 i hi'] at f1 f2
        exact ⟨f1, d2, f2, by rw [d4]; exact d6, d7⟩
      · obtain ⟨⟨r1, r1'⟩, r2, r3, r4, r5⟩ := k6 i hi'
        by_cases hil : i < l'
        · have m1 := hmo i 0 (by omega) (by omega)
          have m2 := hmo l' (i + 1) (by omega) (by omega)
          have hv := q11 i hil
          try dsimp only at r1 r1' ⊢
          rw [if_pos hil] at r1 r1'
          rw [if_pos hil, if_pos hil]
          rw [e2 i hil] at hv
          rw [← (b11 i hil).2.2.2.1] at r1 r1'
          exact ⟨⟨r1, hv, fun x w => by have := hSx x w; omega, by omega⟩, r1', b6 r1, r2, r3, r4, r5⟩
        · try dsimp only at r1 r1' ⊢
          rw [if_neg hil] at r1 r1'
          rw [if_neg hil, if_neg hil]
          obtain rfl : i = l' := by omega
          rw [← b8] at r1 r1'
          exact ⟨⟨r1, q10, fun x w => by have := hSx x w; omega, h40⟩, r1', b6 r1, r2, r3, r4, r5⟩
    · rw [b1] at q1; exact absurd q1 (by decide)
  · rcases v.un with ⟨⟨-, q1⟩, -, -⟩ | ⟨q1, -⟩ | ⟨q1, -⟩ | ⟨q1, l', aa', ll, q2, q3, q4, q5, ⟨q6, q7, q8⟩, q9⟩
    · rw [b1] at q1; exact absurd q1 (by decide)
    · rcases q1 with w | w | w <;> rw [b1] at w <;> exact absurd w (by decide)
    · rw [b1] at q1; exact absurd q1 (by decide)
    · obtain ⟨e1, e2⟩ := ch_uq (τ := τ) q2 b3 (by rw [← q4, b8, b10]) (fun i hi => ⟨(q9 i hi).1.1.1, (q9 i hi).1.2⟩) (fun i hi => ⟨(b11 i hi).1, (b11 i hi).2.2.2.2.2⟩)
      subst e1
      have hmo := ll_mo (k := l') (ll := ll) (fun i hi => by
        rcases (q9 i hi).2 with ⟨-, j, -, -, -, -, r⟩ | ⟨-, r⟩
        · have := r.le; omega
        · exact r.le)
      have hl0 := q5.le
      have m0 := hmo l' 0 (by omega) (by omega)
      have alt : ∀ i, i < l' → ∃ j, (XAlt τ μ (aa i) (nI (ct + 1 + i)) j (ll i) ∧ ll i + j ≤ ll (i + 1)) ∧ VS τ (xA τ 16 (aa i)) (Sx Sc (ll i) j) (ll i + j) (ll (i + 1)) := by
        intro i hi'
        obtain ⟨d1, d2, d3, d4, d5, d6⟩ := b11 i hi'
        have r := (q9 i hi').2
        rw [e2 i hi'] at r
        rcases r with ⟨r5, j, r6, r7, r8, r9, r4⟩ | ⟨r5, r4⟩
        · refine ⟨j, ⟨Or.inl ?_, r4.le⟩, r4⟩
          rcases d2 with ⟨w1, w2, w3, w4, w5, j', x0, w6, w7, w8, w9, w10⟩ | ⟨w, _⟩ | ⟨w, _⟩
          · have ej : j' = j := nI_injL (by omega) (by omega) (w7.symm.trans r8)
            subst ej
            refine ⟨w1, w2, w3, w4, w5, r6, w7, w8, r9, fun z => ?_, w10⟩
            rw [(w9 z).2.1, ← (w9 z).1, r9]
          · rw [w] at r5; exact absurd r5 (by decide)
          · rw [w] at r5; exact absurd r5 (by decide)
        · refine ⟨0, ⟨?_, r4.le⟩, by rw [Sx0]; exact r4⟩
          rcases d2 with ⟨w1, _⟩ | ⟨w1, w2, w3, w4, w5, -⟩ | ⟨w1, w2, w3, -⟩
          · exact absurd w1 r5
          · exact Or.inr (Or.inl ⟨w1, w2, w3, w4, w5, rfl⟩)
          · exact Or.inr (Or.inr ⟨w1, w2, w3, rfl⟩)
      have hjj := ch_fn alt
      obtain ⟨jj, hjj⟩ := hjj
      obtain ⟨qq, pp, ct', k1, k2, k3, k4, k5, k6⟩ := b12
      have ect : nI ct' = nI ct := k1.symm.trans b6'
      have ect' : ct' = ct := nI_injL (by omega) (by omega) ect
      subst ect'
      refine Or.inr (Or.inr (Or.inr ⟨b1, b2, l', ct', aa, jj, ll, ⟨b3, b4⟩, b5, by rw [b8]; exact b10, fun i hi' => ?_, fun i hi' => (hjj i hi').1, hl0, q6, qq, pp, k1, by omega, k3, k4, k5, fun i hi' => ?_⟩))
      · obtain ⟨d1, d2, d3, d4, d5, d6⟩ := b11 i hi'
        have f1 := (q9 i hi').1.1
        rw [e2 i hi'] at f1
        exact ⟨f1, by rw [d3]; exact d5, d6⟩
      · obtain ⟨⟨r1, r1'⟩, r2, r3, r4, r5⟩ := k6 i hi'
        try dsimp only at r1 r1' ⊢
        by_cases hi0 : i = 0
        · rw [if_pos hi0] at r1 r1'
          rw [if_pos hi0, if_pos hi0, if_pos hi0]
          subst hi0
          rw [← b8] at r1 r1'
          exact ⟨⟨r1, q5, hS, by omega⟩, r1', b6 r1, r2, r3, r4, r5⟩
        · obtain ⟨e, rfl⟩ : ∃ e, i = e + 1 := ⟨i - 1, by omega⟩
          rw [if_neg (by omega)] at r1 r1'
          rw [if_neg (by omega), if_neg (by omega), if_neg (by omega)]
          rw [show e + 1 - 1 = e by omega] at r1 r1' ⊢
          rw [← (b11 e (by omega)).2.2.1] at r1 r1'
          have m1 := hmo e 0 (by omega) (by omega)
          have m2 := hmo l' (e + 1) (by omega) (by omega)
          obtain ⟨⟨-, g2⟩, g3⟩ := hjj e (by omega)
          refine ⟨⟨r1, g3, fun x w => ?_, by omega⟩, r1', b6 r1, r2, r3, r4, r5⟩
          rcases w with w | w
          · have := hS x w; omega
          · omega
