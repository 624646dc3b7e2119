/-- LT, and the needs of lets alike -/
def LNF (τ μ : S5) (F V T : Nat) (R : R3) (c : Int32) (q p : Nat) : Prop := LTF τ μ F V T (fun c' q' p' => R c' q' p' ∧ hF τ c' < hF τ c) c q p ∧ ((xA τ 13 c = 7 → xA τ 14 c = xA μ 36 (nI p) ∧ (xA τ 14 c = 0 ∨ xA τ 14 c = 1)) ∧ (¬ xA τ 13 c = 7 → xA μ 36 (nI p) = 0))
def LTN (τ μ : S5) (F V T : Nat) (c : Int32) (q p : Nat) : Prop := ∀ R : R3, (∀ c q p, LNF τ μ F V T R c q p → R c q p) → R c q p
theorem LTN.fold {τ μ : S5} {F V T : Nat} {c : Int32} {q p : Nat} (h : LNF τ μ F V T (LTN τ μ F V T) c q p) : LTN τ μ F V T c q p := fun R hR => hR _ _ _ ⟨h.1.mono (fun _ _ _ w => ⟨w.1 R hR, w.2⟩), h.2⟩
theorem LTN.ind {τ μ : S5} {F V T : Nat} {P : R3} (hP : ∀ c q p, LNF τ μ F V T (fun c q p => LTN τ μ F V T c q p ∧ P c q p) c q p → P c q p) {c : Int32} {q p : Nat} (h : LTN τ μ F V T c q p) : P c q p :=
  (h (fun c q p => LTN τ μ F V T c q p ∧ P c q p) (fun _ _ _ w => ⟨LTN.fold ⟨w.1.mono (fun _ _ _ v => ⟨v.1.1, v.2⟩), w.2⟩, hP _ _ _ w⟩)).2
theorem LTN.un {τ μ : S5} {F V T : Nat} {c : Int32} {q p : Nat} (h : LTN τ μ F V T c q p) : LNF τ μ F V T (LTN τ μ F V T) c q p :=
  LTN.ind (P := fun c q p => LNF τ μ F V T (LTN τ μ F V T) c q p) (fun _ _ _ w => ⟨w.1.mono (fun _ _ _ v => ⟨v.1.1, v.2⟩), w.2⟩) h
/-- the class's rows of a tree are the same but for the needs of lets -/
def TR2 (τ τ2 : S5) : Prop := (∀ j x, j = 13 ∨ j = 15 ∨ j = 16 ∨ j = 17 ∨ j = 18 ∨ j = 19 ∨ j = 2 → xA τ2 j x = xA τ j x) ∧ (∀ x, ¬ xA τ 13 x = 7 → xA τ2 14 x = xA τ 14 x) ∧ gI τ2 4 = gI τ 4 ∧ ∀ x, xB τ2 2 x = xB τ 2 x
/-- the reference's -/
def TR3 (μ μ2 : S5) : Prop := (∀ j x, (31 ≤ j ∧ j ≤ 43 ∧ ¬ j = 36) → xA μ2 j x = xA μ j x) ∧ ∀ x, xB μ2 5 x = xB μ 5 x
theorem LKids.r {μ μ2 : S5} {R R' : R3} {k : Nat} {cc : Nat → Int32} {T q p : Nat} (h : LKids μ R k cc T q p) (h2 : TR3 μ μ2) (hR : ∀ i q' p', i < k → p' < p → R (cc i) q' p' → R' (cc i) q' p') : LKids μ2 R' k cc T q p := by
  obtain ⟨qq, pp, ct, a1, a2, a3, a4, a5, a6⟩ := h
  refine ⟨qq, pp, ct, by rw [h2.1 33 _ (by decide)]; exact a1, a2, by rw [h2.1 34 _ (by decide)]; exact a3, a4, a5, fun i hi => ?_⟩
  obtain ⟨b1, b2, b3, b4, b5⟩ := a6 i hi
  exact ⟨hR i _ _ hi b3 b1, b2, b3, b4, by rw [h2.1 39 _ (by decide)]; exact b5⟩
theorem Chn.r {τ τ2 : S5} {c : Int32} {l : Nat} {cc : Nat → Int32} (h : Chn τ c l cc) (h2 : TR2 τ τ2) : Chn τ2 c l cc := ⟨by rw [h2.1 16 _ (by decide)]; exact h.1, fun i hi => ⟨(h.2 i hi).1, by rw [h2.1 17 _ (by decide)]; exact (h.2 i hi).2⟩⟩
/-- THE TREES, WITH THE NEEDS OF LETS -/
theorem ltn_of {τ μ τ2 μ2 : S5} {F V T M : Nat} (hV : V ≤ 40) (h2 : TR2 τ τ2) (h3 : TR3 μ μ2) (hm : ∀ c q p Sc lo hi, JT τ μ F c q p Sc lo hi → hi ≤ 40 → hF τ c < 41 → 0 ≤ c → p < M → (xA τ 13 c = 7 → xA τ2 14 c = xA μ2 36 (nI p) ∧ (xA τ2 14 c = 0 ∨ xA τ2 14 c = 1)) ∧ (¬ xA τ 13 c = 7 → xA μ2 36 (nI p) = 0)) {c : Int32} {q p : Nat} (h : LT τ μ F V T c q p) : ∀ (Sc : Nat → Prop) (lo hi : Nat), VS τ c Sc lo hi → (∀ x, Sc x → x < lo) → hi ≤ 40 → hF τ c < 41 → p < M → LTN τ2 μ2 F V T c q p := by
  refine LT.ind (P := fun c q p => ∀ (Sc : Nat → Prop) (lo hi : Nat), VS τ c Sc lo hi → (∀ x, Sc x → x < lo) → hi ≤ 40 → hF τ c < 41 → p < M → LTN τ2 μ2 F V T c q p) ?_ h
  clear h
  intro c q p h Sc lo hi v hS h40 h41 hpM
  have ehF : ∀ x, hF τ2 x = hF τ x := fun x => by unfold hF; rw [h2.1 18 x (by decide)]
  have hLT : LT τ μ F V T c q p := LT.fold (h.mono (fun _ _ _ w => w.1))
  have hJ := jt_of hV v q p hLT hS h40
  obtain ⟨a1, a2, a3, a4, a5⟩ := h
  have e13 := h2.1 13 c (by decide)
  have nk : ¬ xA τ 13 c = 7 → xA τ2 14 c = xA τ 14 c := h2.2.1 c
  have row : ∀ (k' : Nat) (cc' : Nat → Int32), (xA τ 13 c = 5 ∨ xA τ 13 c = 8 ∨ xA τ 13 c = 9) → 1 ≤ k' → Chn τ c k' cc' → ∀ i q' p', i < k' → p' < p → (LT τ μ F V T (cc' i) q' p' ∧ ∀ (Sc : Nat → Prop) (lo hi : Nat), VS τ (cc' i) Sc lo hi → (∀ x, Sc x → x < lo) → hi ≤ 40 → hF τ (cc' i) < 41 → p' < M → LTN τ2 μ2 F V T (cc' i) q' p') → LTN τ2 μ2 F V T (cc' i) q' p' ∧ hF τ2 (cc' i) < hF τ2 c := by
    intro k' cc' hk hk' hch i q' p' hi' hpp hP
    rcases v.un with ⟨⟨-, q1⟩, -, -⟩ | ⟨q1, k, cc, ll, q2, q3, q4, q5, ⟨q6, q7, q8, q8'⟩, q9⟩ | ⟨q1, -⟩ | ⟨q1, -⟩
    · rcases hk with w | w | w <;> rw [w] at q1 <;> exact absurd q1 (by decide)
    · obtain ⟨e1, e2⟩ := ch_uq (τ := τ) q2 hk' (q4.1.symm.trans hch.1) q4.2 hch.2
      subst e1
      have hm := ll_mo (fun i hi => (q9 i hi).le)
      have m1 := hm i 0 (by omega) (by omega)
      have m2 := hm k (i + 1) (by omega) (by omega)
      have m3 := q7 i hi'
      have hv := q9 i hi'
      rw [e2 i hi'] at hv m3
      exact ⟨hP.2 Sc _ _ hv (fun x w => by have := hS x w; omega) (by omega) (by omega) (by omega), by rw [ehF, ehF]; exact m3⟩
    · rcases hk with w | w | w <;> rw [w] at q1 <;> exact absurd q1 (by decide)
    · rcases hk with w | w | w <;> rw [w] at q1 <;> exact absurd q1 (by decide)
  refine LTN.fold ⟨⟨a1, by rw [h3.1 37 _ (by decide), h2.1 18 _ (by decide)]; exact a2, by rw [h2.1 19 _ (by decide)]; exact a3, fun w => by rw [h3.2, h2.2.2.2]; exact a4 w, ?_⟩, by rw [e13]; exact hm c q p Sc lo hi hJ h40 h41 a1.2.2.2.1 hpM⟩
  rcases a5 with ⟨b1, b2, b3, b4⟩ | ⟨b1, b2, b3, b4, cc, b5, b6⟩ | ⟨b1, b2, k, cc, b3, b4, b5, b6, b7⟩ | ⟨b1, b2, b3, b4, b5, k, cc, b6, b7, b8, b9, b10⟩ | ⟨b1, b2, l, x0, bb, cc, c0, b3, b4, b5, b6, b7, b8, b9, b10, b11, b12⟩ | ⟨b1, b2, l, ct, aa, cc, c0, b3, b4, b5, b6, b7, b8, b9, b10, b11, b12⟩
  · refine Or.inl ⟨b1, by rw [h3.1 34 _ (by decide)]; exact b2, by rw [h2.1 16 _ (by decide)]; exact b3, ?_⟩
    rw [e13, h3.1 31 _ (by decide), h3.1 32 _ (by decide), h2.2.2.1]
    rcases b4 with ⟨d1, d⟩ | ⟨d1, d2, d3, d4, d5, d6⟩ | ⟨d1, d⟩ | ⟨d1, d⟩ | ⟨d1, d⟩
    · rw [nk (by rw [d1]; decide)]; exact Or.inl ⟨d1, d⟩
    · rw [nk (by rw [d1]; decide), h2.1 2 _ (by decide)]; exact Or.inr (Or.inl ⟨d1, d2, d3, d4, d5, d6⟩)
    · rw [nk (by rw [d1]; decide)]; exact Or.inr (Or.inr (Or.inl ⟨d1, d⟩))
    · rw [nk (by rw [d1]; decide)]; exact Or.inr (Or.inr (Or.inr (Or.inl ⟨d1, d⟩)))
    · exact Or.inr (Or.inr (Or.inr (Or.inr ⟨d1, d⟩)))
  · refine Or.inr (Or.inl ⟨by rw [e13]; exact b1, by rw [h3.1 31 _ (by decide)]; exact b2, ?_, ?_, cc, b5.r h2, b6.r h3 (row 2 cc (Or.inl b1) (by omega) b5)⟩)
    · rw [h3.1 32 _ (by decide), nk (by rw [b1]; decide)]; exact b3
    · rw [nk (by rw [b1]; decide)]; exact b4
  · exact Or.inr (Or.inr (Or.inl ⟨by rw [e13]; exact b1, by rw [h3.1 31 _ (by decide)]; exact b2, k, cc, b3, b4, by rw [h2.1 15 _ (by decide)]; exact b5, b6.r h2, b7.r h3 (row k cc (Or.inr (Or.inl b1)) (by omega) b6)⟩))
  · have e14 := nk (by rw [b1]; decide)
    exact Or.inr (Or.inr (Or.inr (Or.inl ⟨by rw [e13]; exact b1, by rw [h3.1 31 _ (by decide)]; exact b2, by rw [h3.1 32 _ (by decide), e14]; exact b3, by rw [e14]; exact b4, by rw [e14, h2.2.2.1]; exact b5, k, cc, b6, b7, by rw [e14, h2.1 2 _ (by decide)]; exact b8, b9.r h2, b10.r h3 (row k cc (Or.inr (Or.inr b1)) b6 b9)⟩)))
  · have hx16 := h2.1 16
    refine Or.inr (Or.inr (Or.inr (Or.inr (Or.inl ⟨by rw [e13]; exact b1, by rw [h3.1 31 _ (by decide)]; exact b2, l, x0, bb, cc, c0, b3, b4, by rw [h3.1 32 _ (by decide)]; exact b5, by rw [h3.1 35 _ (by decide)]; exact b6, b7, by rw [h2.1 16 _ (by decide)]; exact b8, b9, by rw [h2.1 17 _ (by decide)]; exact b10, fun i hi' => ?_, b12.r h3 (fun i q' p' hi' hpp hP => ?_)⟩))))
    · obtain ⟨d1, d2, d3, d4, d5, d6, d7⟩ := b11 i hi'
      exact ⟨d1, by rw [h2.1 13 _ (by decide)]; exact d2, by rw [h2.2.1 _ (by rw [d2]; decide)]; exact d3, by rw [h2.1 16 _ (by decide)]; exact d4, d5, by rw [h2.1 17 _ (by decide)]; exact d6, by rw [h2.1 17 _ (by decide)]; exact d7⟩
    · rcases v.un with ⟨⟨-, q1⟩, -, -⟩ | ⟨q1, -⟩ | ⟨q1, l', bb', ll, q2, q3, q4, q5, q6, ⟨q7, q8, q9⟩, q10, q11⟩ | ⟨q1, -⟩
      · rw [b1] at q1; exact absurd q1 (by decide)
      · rcases q1 with w | w | w <;> rw [b1] at w <;> exact absurd w (by decide)
      · obtain ⟨e1, e2⟩ := ch_uq (τ := τ) q2 b3 (by rw [← q5, b8, b10]) (fun i hi => ⟨(q6 i hi).1.1, (q6 i hi).2.2⟩) (fun i hi => ⟨(b11 i hi).1, (b11 i hi).2.2.2.2.2.2⟩)
        subst e1
        have hmo := ll_mo (k := l') (ll := ll) (fun i hi => (q11 i hi).le)
        have hhi := q10.le
        have m0 := hmo l' 0 (by omega) (by omega)
        have hSx : ∀ x, Sx Sc lo l' x → x < lo + l' := fun x w => by
          rcases w with w | w
          · have := hS x w; omega
          · omega
        by_cases hil : i < l'
        · have m1 := hmo i 0 (by omega) (by omega)
          have m2 := hmo l' (i + 1) (by omega) (by omega)
          have m3 := q9 i hil
          have hv := q11 i hil
          try dsimp only at hP ⊢
          rw [if_pos hil] at hP ⊢
          rw [e2 i hil, (b11 i hil).2.2.2.1] at hv m3
          exact ⟨hP.2 _ _ _ hv (fun x w => by have := hSx x w; omega) (by omega) (by omega) (by omega), by rw [ehF, ehF]; exact m3⟩
        · try dsimp only at hP ⊢
          rw [if_neg hil] at hP ⊢
          rw [b8] at q10 q8
          exact ⟨hP.2 _ _ _ q10 (fun x w => by have := hSx x w; omega) h40 (by omega) (by omega), by rw [ehF, ehF]; exact q8⟩
      · rw [b1] at q1; exact absurd q1 (by decide)
  · refine Or.inr (Or.inr (Or.inr (Or.inr (Or.inr ⟨by rw [e13]; exact b1, by rw [h3.1 31 _ (by decide)]; exact b2, l, ct, aa, cc, c0, b3, b4, by rw [h3.1 32 _ (by decide)]; exact b5, by rw [h3.1 33 _ (by decide)]; exact b6, b7, by rw [h2.1 16 _ (by decide)]; exact b8, b9, by rw [h2.1 17 _ (by decide)]; exact b10, fun i hi' => ?_, b12.r h3 (fun i q' p' hi' hpp hP => ?_)⟩))))
    · obtain ⟨d1, d2, d3, d4, d5, d6⟩ := b11 i hi'
      refine ⟨d1, ?_, by rw [h2.1 16 _ (by decide)]; exact d3, d4, by rw [h2.1 17 _ (by decide)]; exact d5, by rw [h2.1 17 _ (by decide)]; exact d6⟩
      unfold LAlt at d2 ⊢
      rw [h2.1 13 _ (by decide), h3.1 40 _ (by decide), h3.1 41 _ (by decide), h3.1 42 _ (by decide), h3.1 43 _ (by decide), h2.1 15 _ (by decide), h2.2.2.1]
      have e14 : xA τ2 14 (aa i) = xA τ 14 (aa i) := h2.2.1 _ (by rcases d2 with ⟨w, _⟩ | ⟨w, _⟩ | ⟨w, _⟩ <;> rw [w] <;> decide)
      rw [e14, h2.1 2 _ (by decide)]
      exact d2
    · rcases v.un with ⟨⟨-, q1⟩, -, -⟩ | ⟨q1, -⟩ | ⟨q1, -⟩ | ⟨q1, l', aa', ll, q2, q3, q4, q5, ⟨q6, q7, q8⟩, q9⟩
      · rw [b1] at q1; exact absurd q1 (by decide)
      · rcases q1 with w | w | w <;> rw [b1] at w <;> exact absurd w (by decide)
      · rw [b1] at q1; exact absurd q1 (by decide)
      · obtain ⟨e1, e2⟩ := ch_uq (τ := τ) q2 b3 (by rw [← q4, b8, b10]) (fun i hi => ⟨(q9 i hi).1.1.1, (q9 i hi).1.2⟩) (fun i hi => ⟨(b11 i hi).1, (b11 i hi).2.2.2.2.2⟩)
        subst e1
        have hmo := ll_mo (k := l') (ll := ll) (fun i hi => by
          rcases (q9 i hi).2 with ⟨-, j, -, -, -, -, r⟩ | ⟨-, r⟩
          · have := r.le; omega
          · exact r.le)
        have hl0 := q5.le
        have m0 := hmo l' 0 (by omega) (by omega)
        try dsimp only at hP ⊢
        by_cases hi0 : i = 0
        · rw [if_pos hi0] at hP ⊢
          rw [b8] at q5 q7
          exact ⟨hP.2 _ _ _ q5 hS (by omega) (by omega) (by omega), by rw [ehF, ehF]; exact q7⟩
        · obtain ⟨e, rfl⟩ : ∃ e, i = e + 1 := ⟨i - 1, by omega⟩
          rw [if_neg (by omega)] at hP ⊢
          rw [show e + 1 - 1 = e by omega] at hP ⊢
          have m1 := hmo e 0 (by omega) (by omega)
          have m2 := hmo l' (e + 1) (by omega) (by omega)
          have m3 := q8 e (by omega)
          have ec : xA τ 16 (aa' e) = cc e := by rw [e2 e (by omega)]; exact (b11 e (by omega)).2.2.1
          rw [ec] at m3
          rcases (q9 e (by omega)).2 with ⟨r5, j, r6, r7, r8, r9, r4⟩ | ⟨r5, r4⟩
          · have := r4.le
            rw [ec] at r4
            refine ⟨hP.2 _ _ _ r4 (fun x w => ?_) (by omega) (by omega) (by omega), by rw [ehF, ehF]; exact m3⟩
            rcases w with z | z
            · have := hS x z; omega
            · omega
          · rw [ec] at r4
            exact ⟨hP.2 _ _ _ r4 (fun x w => by have := hS x w; omega) (by omega) (by omega) (by omega), by rw [ehF, ehF]; exact m3⟩
