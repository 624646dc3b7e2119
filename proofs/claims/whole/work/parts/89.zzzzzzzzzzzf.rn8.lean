/-- a variable is used from outside -/
def UB (τ : S5) (c : Int32) (x : Nat) : Prop := ub (xB τ 2 c) x = true
/-- every part sees what it uses -/
def VT (τ : S5) (c : Int32) (lo hi : Nat) : Prop := ∀ R : Int32 → Nat → Nat → Prop, (∀ c lo hi, VF τ (fun c' Sc' lo' hi' => R c' lo' hi' ∧ ∀ x, UB τ c' x → Sc' x) c (UB τ c) lo hi → R c lo hi) → R c lo hi
theorem VT.fold {τ : S5} {c : Int32} {lo hi : Nat} (q : VF τ (fun c' Sc' lo' hi' => VT τ c' lo' hi' ∧ ∀ x, UB τ c' x → Sc' x) c (UB τ c) lo hi) : VT τ c lo hi := fun R hR => hR _ _ _ (VF_mono (fun _ _ _ _ w => ⟨w.1 R hR, w.2⟩) q)
theorem VT.ind {τ : S5} {P : Int32 → Nat → Nat → Prop} (hP : ∀ c lo hi, VF τ (fun c' Sc' lo' hi' => (VT τ c' lo' hi' ∧ P c' lo' hi') ∧ ∀ x, UB τ c' x → Sc' x) c (UB τ c) lo hi → P c lo hi) {c : Int32} {lo hi : Nat} (q : VT τ c lo hi) : P c lo hi :=
  (q (fun c lo hi => VT τ c lo hi ∧ P c lo hi) (fun c lo hi w => ⟨VT.fold (VF_mono (fun _ _ _ _ z => ⟨z.1.1, z.2⟩) w), hP c lo hi w⟩)).2
theorem VT.un {τ : S5} {c : Int32} {lo hi : Nat} (q : VT τ c lo hi) : VF τ (fun c' Sc' lo' hi' => VT τ c' lo' hi' ∧ ∀ x, UB τ c' x → Sc' x) c (UB τ c) lo hi :=
  VT.ind (P := fun c lo hi => VF τ (fun c' Sc' lo' hi' => VT τ c' lo' hi' ∧ ∀ x, UB τ c' x → Sc' x) c (UB τ c) lo hi) (fun _ _ _ w => VF_mono (fun _ _ _ _ z => ⟨z.1.1, z.2⟩) w) q
theorem VT.le {τ : S5} {c : Int32} {lo hi : Nat} (q : VT τ c lo hi) : lo ≤ hi := by
  refine VT.ind (P := fun _ lo hi => lo ≤ hi) ?_ q
  clear q
  intro c lo hi q
  rcases q with ⟨⟨q0, q1⟩, -, -⟩ | ⟨q1, k, cc, ll, q2, q3, ⟨q4, q4'⟩, q5, ⟨q6, q7, q8, q8'⟩, q9⟩ | ⟨q1, l, bb, ll, q2, q3, q4, q5, q6, ⟨q7, q8, q9⟩, q10, q11⟩ | ⟨q1, l, aa, ll, q2, q3, q4, q5, ⟨q6, q7, q8⟩, q9⟩
  · exact Nat.le_of_eq q0
  · have := ll_mo (fun i hi => (q9 i hi).1.2) k 0 (by omega) (by omega)
    omega
  · have := ll_mo (fun i hi => (q11 i hi).1.2) l 0 (by omega) (by omega)
    have := q10.1.2
    omega
  · have := ll_mo (k := l) (ll := ll) (fun i hi => by
      rcases (q9 i hi).2 with ⟨-, j, -, -, -, -, r⟩ | ⟨-, r⟩
      · have := r.1.2; omega
      · exact r.1.2) l 0 (by omega) (by omega)
    have := q5.1.2
    omega
/-- both trees, and what is seen and used -/
def XM (τ μ : S5) (F V T : Nat) (c : Int32) (q p : Nat) (Sc : Nat → Prop) (lo hi : Nat) : Prop := LTN τ μ F V T c q p ∧ VT τ c lo hi ∧ (∀ x, UB τ c x → Sc x) ∧ (∀ x, Sc x → x < lo) ∧ hi ≤ 40
/-- a suspension sees what it uses -/
theorem XM.sus {τ μ : S5} {F V T : Nat} {c : Int32} {q p : Nat} {Sc : Nat → Prop} {lo hi : Nat} (h : XM τ μ F V T c q p Sc lo hi) : XM τ μ F V T c q p (UB τ c) lo hi := ⟨h.1, h.2.1, fun _ w => w, fun x w => h.2.2.2.1 x (h.2.2.1 x w), h.2.2.2.2⟩
theorem Sx_mo {A B : Nat → Prop} (h : ∀ x, A x → B x) {lo l : Nat} : ∀ x, Sx A lo l x → Sx B lo l x := fun x w => w.elim (fun z => Or.inl (h x z)) Or.inr
theorem XM.un {τ μ : S5} {F V T : Nat} (hV : V ≤ 40) {c : Int32} {q p : Nat} {Sc : Nat → Prop} {lo hi : Nat} (h : XM τ μ F V T c q p Sc lo hi) : XF τ μ F (XM τ μ F V T) c q p Sc lo hi := by
  obtain ⟨hl, v, hUS, hS, h40⟩ := h
  obtain ⟨⟨⟨a1, a1b, a1c, a1d⟩, a2, a3, a4, a5⟩, a6⟩ := hl.un
  have hle := v.le
  refine ⟨⟨a1, a1b, a1d, hle, a4 hV, a3⟩, a6, ?_⟩
  have b6 : ∀ {x : Int32} {q' p' : Nat}, LTN τ μ F V T x q' p' → 0 ≤ x ∧ x < 6200 := fun w => w.un.1.1.2.2.2
  have row : ∀ (k' ct' : Nat) (cc' : Nat → Int32), (xA τ 13 c = 5 ∨ xA τ 13 c = 8 ∨ xA τ 13 c = 9) → 1 ≤ k' → Chn τ c k' cc' → LKids μ (fun c' q' p' => LTN τ μ F V T c' q' p' ∧ hF τ c' < hF τ c) k' cc' T q p → k' ≤ 9 ∧ ∃ (ct : Nat) (ll : Nat → Nat), ll 0 = lo ∧ ll k' = hi ∧ XK τ μ (XM τ μ F V T) (hF τ c) k' ct cc' (fun _ => Sc) ll (fun i => ll (i + 1)) q p := by
    intro k' ct' cc' hk hk' hch hkd
    rcases v.un with ⟨⟨-, q1⟩, -, -⟩ | ⟨q1, k, cc, ll, q2, q3, q4, q5, ⟨q6, q7, q8, q8'⟩, q9⟩ | ⟨q1, -⟩ | ⟨q1, -⟩
    · rcases hk with w | w | w <;> rw [w] at q1 <;> exact absurd q1 (by decide)
    · obtain ⟨e1, e2⟩ := ch_uq (τ := τ) q2 hk' (q4.1.symm.trans hch.1) q4.2 hch.2
      subst e1
      have hm := ll_mo (fun i hi => (q9 i hi).1.le)
      obtain ⟨qq, pp, ct, k1, k2, k3, k4, k5, k6⟩ := hkd
      refine ⟨q3, ct, ll, q5, q6, qq, pp, k1, by omega, k3, k4, k5, fun i hi' => ?_⟩
      obtain ⟨⟨r1, r1'⟩, r2, r3, r4, r5⟩ := k6 i hi'
      have m1 := hm i 0 (by omega) (by omega)
      have m2 := hm k (i + 1) (by omega) (by omega)
      have hv := q9 i hi'
      rw [e2 i hi'] at hv
      try dsimp only
      exact ⟨⟨r1, hv.1, fun x w => hUS x (hv.2 x w), fun x w => by have := hS x w; omega, by omega⟩, r1', b6 r1, r2, r3, r4, r5⟩
    · rcases hk with w | w | w <;> rw [w] at q1 <;> exact absurd q1 (by decide)
    · rcases hk with w | w | w <;> rw [w] at q1 <;> exact absurd q1 (by decide)
  rcases a5 with ⟨b1, b2, b3, b4⟩ | ⟨b1, b2, b3, b4, cc, b5, b6'⟩ | ⟨b1, b2, k, cc, b3, b4, b5, b6', b7⟩ | ⟨b1, b2, b3, b4, b5, k, cc, b6', b7, b8, b9, b10⟩ | ⟨b1, b2, l, x0, bb, cc, c0, b3, b4, b5, b6', b7, b8, b9, b10, b11, b12⟩ | ⟨b1, b2, l, ct, aa, cc, c0, b3, b4, b5, b6', b7, b8, b9, b10, b11, b12⟩
  · have hk : xA τ 13 c ≤ 4 := by
      rcases b4 with ⟨w, _⟩ | ⟨w, _⟩ | ⟨w, _⟩ | ⟨w, _⟩ | ⟨w, _⟩ <;> rw [w] <;> decide
    rcases v.un with ⟨⟨e0, q1⟩, q2, q3⟩ | ⟨q1, -⟩ | ⟨q1, -⟩ | ⟨q1, -⟩
    · refine Or.inl ⟨b1, e0, b2, b3, ?_⟩
      rcases b4 with w | w | w | ⟨w, w1, x, w2, w3, w4⟩ | w
      · exact Or.inl w
      · exact Or.inr (Or.inl w)
      · exact Or.inr (Or.inr (Or.inl w))
      · obtain ⟨y, y1, y2⟩ := q3 w
        have hy := hS y (hUS y y2)
        have e : x = y := nI_injL (by omega) (by omega) (w3.symm.trans y1)
        subst e
        exact Or.inr (Or.inr (Or.inr (Or.inl ⟨w, w1, x, by omega, w3, w4, hUS x y2⟩)))
      · exact Or.inr (Or.inr (Or.inr (Or.inr w)))
    · rcases q1 with w | w | w <;> rw [w] at hk <;> exact absurd hk (by decide)
    · rw [q1] at hk; exact absurd hk (by decide)
    · rw [q1] at hk; exact absurd hk (by decide)
  · obtain ⟨r0, ct, ll, r1, r2, r3⟩ := row 2 0 cc (Or.inl b1) (by omega) b5 b6'
    exact Or.inr (Or.inl ⟨2, ct, cc, ll, Or.inl ⟨b1, b2, b3, b4, rfl⟩, ⟨by omega, by omega⟩, b5, r1, r2, r3⟩)
  · obtain ⟨r0, ct, ll, r1, r2, r3⟩ := row k 0 cc (Or.inr (Or.inl b1)) (by omega) b6' b7
    exact Or.inr (Or.inl ⟨k, ct, cc, ll, Or.inr (Or.inl ⟨b1, b2, b3, b5⟩), ⟨by omega, by omega⟩, b6', r1, r2, r3⟩)
  · obtain ⟨r0, ct, ll, r1, r2, r3⟩ := row k 0 cc (Or.inr (Or.inr b1)) b6' b9 b10
    exact Or.inr (Or.inl ⟨k, ct, cc, ll, Or.inr (Or.inr ⟨b1, b2, b3, b4, b5, b7, b8⟩), ⟨b6', by omega⟩, b9, r1, r2, r3⟩)
  · rcases v.un with ⟨⟨-, q1⟩, -, -⟩ | ⟨q1, -⟩ | ⟨q1, l', bb', ll, q2, q3, q4, q5, q6, ⟨q7, q8, q9⟩, q10, q11⟩ | ⟨q1, -⟩
    · rw [b1] at q1; exact absurd q1 (by decide)
    · rcases q1 with w | w | w <;> rw [b1] at w <;> exact absurd w (by decide)
    · obtain ⟨e1, e2⟩ := ch_uq (τ := τ) q2 b3 (by rw [← q5, b8, b10]) (fun i hi => ⟨(q6 i hi).1.1, (q6 i hi).2.2⟩) (fun i hi => ⟨(b11 i hi).1, (b11 i hi).2.2.2.2.2.2⟩)
      subst e1
      have hmo := ll_mo (k := l') (ll := ll) (fun i hi => (q11 i hi).1.le)
      have hhi := q10.1.le
      have m0 := hmo l' 0 (by omega) (by omega)
      have hSx : ∀ x, Sx Sc lo l' x → x < lo + l' := fun x w => by
        rcases w with w | w
        · have := hS x w; omega
        · omega
      have ex0 : nI x0 = nI lo := by
        have w1 := (b11 0 (by omega)).2.2.1
        have w2 := (q6 0 (by omega)).2.1
        rw [e2 0 (by omega), w1] at w2
        exact w2
      obtain ⟨qq, pp, ct, k1, k2, k3, k4, k5, k6⟩ := b12
      refine Or.inr (Or.inr (Or.inl ⟨b1, b2, l', ct, bb, ll, ⟨b3, b4⟩, b5, by rw [b6', ex0], by rw [b8]; exact b10, fun i hi' => ?_, q7, by omega, qq, pp, k1, by omega, k3, k4, k5, fun i hi' => ?_⟩))
      · obtain ⟨d1, d2, d3, d4, d5, d6, d7⟩ := b11 i hi'
        obtain ⟨f1, f2, f3⟩ := q6 i hi'
        rw [e2 i hi'] at f1 f2
        exact ⟨f1, d2, f2, by rw [d4]; exact d6, d7⟩
      · obtain ⟨⟨r1, r1'⟩, r2, r3, r4, r5⟩ := k6 i hi'
        by_cases hil : i < l'
        · have m1 := hmo i 0 (by omega) (by omega)
          have m2 := hmo l' (i + 1) (by omega) (by omega)
          have hv := q11 i hil
          try dsimp only at r1 r1' ⊢
          rw [if_pos hil] at r1 r1'
          rw [if_pos hil, if_pos hil]
          rw [e2 i hil] at hv
          rw [← (b11 i hil).2.2.2.1] at r1 r1'
          exact ⟨⟨r1, hv.1, fun x w => Sx_mo hUS x (hv.2 x w), fun x w => by have := hSx x w; omega, by omega⟩, r1', b6 r1, r2, r3, r4, r5⟩
        · try dsimp only at r1 r1' ⊢
          rw [if_neg hil] at r1 r1'
          rw [if_neg hil, if_neg hil]
          obtain rfl : i = l' := by omega
          rw [← b8] at r1 r1'
          exact ⟨⟨r1, q10.1, fun x w => Sx_mo hUS x (q10.2 x w), fun x w => by have := hSx x w; omega, h40⟩, r1', b6 r1, r2, r3, r4, r5⟩
    · rw [b1] at q1; exact absurd q1 (by decide)
  · rcases v.un with ⟨⟨-, q1⟩, -, -⟩ | ⟨q1, -⟩ | ⟨q1, -⟩ | ⟨q1, l', aa', ll, q2, q3, q4, q5, ⟨q6, q7, q8⟩, q9⟩
    · rw [b1] at q1; exact absurd q1 (by decide)
    · rcases q1 with w | w | w <;> rw [b1] at w <;> exact absurd w (by decide)
    · rw [b1] at q1; exact absurd q1 (by decide)
    · obtain ⟨e1, e2⟩ := ch_uq (τ := τ) q2 b3 (by rw [← q4, b8, b10]) (fun i hi => ⟨(q9 i hi).1.1.1, (q9 i hi).1.2⟩) (fun i hi => ⟨(b11 i hi).1, (b11 i hi).2.2.2.2.2⟩)
      subst e1
      have hmo := ll_mo (k := l') (ll := ll) (fun i hi => by
        rcases (q9 i hi).2 with ⟨-, j, -, -, -, -, r⟩ | ⟨-, r⟩
        · have := r.1.le; omega
        · exact r.1.le)
      have hl0 := q5.1.le
      have m0 := hmo l' 0 (by omega) (by omega)
      have alt : ∀ i, i < l' → ∃ j, (XAlt τ μ (aa i) (nI (ct + 1 + i)) j (ll i) ∧ ll i + j ≤ ll (i + 1)) ∧ (VT τ (xA τ 16 (aa i)) (ll i + j) (ll (i + 1)) ∧ ∀ x, UB τ (xA τ 16 (aa i)) x → Sx Sc (ll i) j x) := by
        intro i hi'
        obtain ⟨d1, d2, d3, d4, d5, d6⟩ := b11 i hi'
        have r := (q9 i hi').2
        rw [e2 i hi'] at r
        rcases r with ⟨r5, j, r6, r7, r8, r9, r4⟩ | ⟨r5, r4⟩
        · refine ⟨j, ⟨Or.inl ?_, r4.1.le⟩, r4.1, fun x w => Sx_mo hUS x (r4.2 x w)⟩
          rcases d2 with ⟨w1, w2, w3, w4, w5, j', x0, w6, w7, w8, w9, w10⟩ | ⟨w, _⟩ | ⟨w, _⟩
          · have ej : j' = j := nI_injL (by omega) (by omega) (w7.symm.trans r8)
            subst ej
            refine ⟨w1, w2, w3, w4, w5, r6, w7, w8, r9, fun z => ?_, w10⟩
            rw [(w9 z).2.1, ← (w9 z).1, r9]
          · rw [w] at r5; exact absurd r5 (by decide)
          · rw [w] at r5; exact absurd r5 (by decide)
        · refine ⟨0, ⟨?_, r4.1.le⟩, r4.1, fun x w => Or.inl (hUS x (r4.2 x w))⟩
          rcases d2 with ⟨w1, _⟩ | ⟨w1, w2, w3, w4, w5, -⟩ | ⟨w1, w2, w3, -⟩
          · exact absurd w1 r5
          · exact Or.inr (Or.inl ⟨w1, w2, w3, w4, w5, rfl⟩)
          · exact Or.inr (Or.inr ⟨w1, w2, w3, rfl⟩)
      have hjj := ch_fn alt
      obtain ⟨jj, hjj⟩ := hjj
      obtain ⟨qq, pp, ct', k1, k2, k3, k4, k5, k6⟩ := b12
      have ect : nI ct' = nI ct := k1.symm.trans b6'
      have ect' : ct' = ct := nI_injL (by omega) (by omega) ect
      subst ect'
      refine Or.inr (Or.inr (Or.inr ⟨b1, b2, l', ct', aa, jj, ll, ⟨b3, b4⟩, b5, by rw [b8]; exact b10, fun i hi' => ?_, fun i hi' => (hjj i hi').1, hl0, q6, qq, pp, k1, by omega, k3, k4, k5, fun i hi' => ?_⟩))
      · obtain ⟨d1, d2, d3, d4, d5, d6⟩ := b11 i hi'
        have f1 := (q9 i hi').1.1
        rw [e2 i hi'] at f1
        exact ⟨f1, by rw [d3]; exact d5, d6⟩
      · obtain ⟨⟨r1, r1'⟩, r2, r3, r4, r5⟩ := k6 i hi'
        try dsimp only at r1 r1' ⊢
        by_cases hi0 : i = 0
        · rw [if_pos hi0] at r1 r1'
          rw [if_pos hi0, if_pos hi0, if_pos hi0]
          subst hi0
          rw [← b8] at r1 r1'
          exact ⟨⟨r1, q5.1, fun x w => hUS x (q5.2 x w), hS, by omega⟩, r1', b6 r1, r2, r3, r4, r5⟩
        · obtain ⟨e, rfl⟩ : ∃ e, i = e + 1 := ⟨i - 1, by omega⟩
          rw [if_neg (by omega)] at r1 r1'
          rw [if_neg (by omega), if_neg (by omega), if_neg (by omega)]
          rw [show e + 1 - 1 = e by omega] at r1 r1' ⊢
          rw [← (b11 e (by omega)).2.2.1] at r1 r1'
          have m1 := hmo e 0 (by omega) (by omega)
          have m2 := hmo l' (e + 1) (by omega) (by omega)
          obtain ⟨⟨-, g2⟩, g3⟩ := hjj e (by omega)
          refine ⟨⟨r1, g3.1, g3.2, fun x w => ?_, by omega⟩, r1', b6 r1, r2, r3, r4, r5⟩
          rcases w with w | w
          · have := hS x w; omega
          · omega
