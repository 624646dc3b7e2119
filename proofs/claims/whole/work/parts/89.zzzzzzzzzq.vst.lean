/-- the children that the lifted tree knows -/
theorem LTF.kids {τ μ : S5} {F V T : Nat} {R : R3} {c : Int32} {q p : Nat} (h : LTF τ μ F V T R c q p) : ((xA τ 13 c = 5 ∨ xA τ 13 c = 8 ∨ xA τ 13 c = 9) → ∃ k cc, 1 ≤ k ∧ Chn τ c k cc ∧ ∀ i, i < k → ∃ q' p', R (cc i) q' p') ∧ (xA τ 13 c = 7 → ∃ (l : Nat) (bb : Nat → Int32), 1 ≤ l ∧ xA τ 17 (xA τ 16 c) = bb 0 ∧ (∀ i, i < l → 0 ≤ bb i ∧ xA τ 17 (bb i) = if i + 1 < l then bb (i + 1) else -1) ∧ (∃ q' p', R (xA τ 16 c) q' p') ∧ ∀ i, i < l → xA τ 13 (bb i) = 10 ∧ ∃ q' p', R (xA τ 16 (bb i)) q' p') ∧ (xA τ 13 c = 6 → ∃ (l : Nat) (aa : Nat → Int32), 1 ≤ l ∧ xA τ 17 (xA τ 16 c) = aa 0 ∧ (∀ i, i < l → 0 ≤ aa i ∧ xA τ 17 (aa i) = if i + 1 < l then aa (i + 1) else -1) ∧ (∃ q' p', R (xA τ 16 c) q' p') ∧ ∀ i, i < l → ¬ xA τ 13 (aa i) = 7 ∧ ∃ q' p', R (xA τ 16 (aa i)) q' p') := by
  obtain ⟨-, -, -, -, h⟩ := h
  rcases h with ⟨b1, b2, b3, b4⟩ | ⟨b1, b2, b3, b4, cc, b5, b6⟩ | ⟨b1, b2, k, cc, b3, b4, b5, b6, b7⟩ | ⟨b1, b2, b3, b4, b5, k, cc, b6, b7, b8, b9, b10⟩ | ⟨b1, b2, l, x0, bb, cc, c0, b3, b4, b5, b6, b7, b8, b9, b10, b11, b12⟩ | ⟨b1, b2, l, ct, aa, cc, c0, b3, b4, b5, b6, b7, b8, b9, b10, b11, b12⟩
  · rcases b4 with ⟨d, _⟩ | ⟨d, _⟩ | ⟨d, _⟩ | ⟨d, _⟩ | ⟨d, _⟩ <;> rw [d] <;> exact ⟨fun w => absurd w (by decide), fun w => absurd w (by decide), fun w => absurd w (by decide)⟩
  · refine ⟨fun _ => ⟨2, cc, by omega, b5, fun i hi => ?_⟩, fun w => absurd (b1.symm.trans w) (by decide), fun w => absurd (b1.symm.trans w) (by decide)⟩
    obtain ⟨qq, pp, ct, -, -, -, -, -, d⟩ := b6
    exact ⟨_, _, (d i hi).1⟩
  · refine ⟨fun _ => ⟨k, cc, by omega, b6, fun i hi => ?_⟩, fun w => absurd (b1.symm.trans w) (by decide), fun w => absurd (b1.symm.trans w) (by decide)⟩
    obtain ⟨qq, pp, ct, -, -, -, -, -, d⟩ := b7
    exact ⟨_, _, (d i hi).1⟩
  · refine ⟨fun _ => ⟨k, cc, by omega, b9, fun i hi => ?_⟩, fun w => absurd (b1.symm.trans w) (by decide), fun w => absurd (b1.symm.trans w) (by decide)⟩
    obtain ⟨qq, pp, ct, -, -, -, -, -, d⟩ := b10
    exact ⟨_, _, (d i hi).1⟩
  · refine ⟨fun w => absurd w (by rw [b1]; decide), fun _ => ⟨l, bb, b3, by rw [b8]; exact b10, fun i hi => ⟨(b11 i hi).1, (b11 i hi).2.2.2.2.2.2⟩, ?_, fun i hi => ⟨(b11 i hi).2.1, ?_⟩⟩, fun w => absurd (b1.symm.trans w) (by decide)⟩
    · obtain ⟨qq, pp, ct, -, -, -, -, -, d⟩ := b12
      have := (d l (by omega)).1
      dsimp only at this
      rw [if_neg (by omega)] at this
      rw [b8]
      exact ⟨_, _, this⟩
    · obtain ⟨qq, pp, ct, -, -, -, -, -, d⟩ := b12
      have := (d i (by omega)).1
      dsimp only at this
      rw [if_pos hi] at this
      rw [(b11 i hi).2.2.2.1]
      exact ⟨_, _, this⟩
  · refine ⟨fun w => absurd w (by rw [b1]; decide), fun w => absurd (b1.symm.trans w) (by decide), fun _ => ⟨l, aa, b3, by rw [b8]; exact b10, fun i hi => ⟨(b11 i hi).1, (b11 i hi).2.2.2.2.2⟩, ?_, fun i hi => ⟨?_, ?_⟩⟩⟩
    · obtain ⟨qq, pp, ct, -, -, -, -, -, d⟩ := b12
      have := (d 0 (by omega)).1
      dsimp only at this
      rw [if_pos rfl] at this
      rw [b8]
      exact ⟨_, _, this⟩
    · rcases (b11 i hi).2.1 with ⟨w, _⟩ | ⟨w, _⟩ | ⟨w, _⟩ <;> rw [w] <;> decide
    · obtain ⟨qq, pp, ct, -, -, -, -, -, d⟩ := b12
      have := (d (i + 1) (by omega)).1
      dsimp only at this
      rw [if_neg (by omega), show i + 1 - 1 = i by omega] at this
      rw [(b11 i hi).2.2.1]
      exact ⟨_, _, this⟩
/-- the scopes stay where the rows stay -/
theorem vs_tr {τ μ τ2 : S5} {F V T : Nat} (h2 : TR2 τ τ2) (h8 : gI τ2 8 = gI τ 8) {c : Int32} {q p : Nat} (h : LT τ μ F V T c q p) : ∀ (Sc : Nat → Prop) (lo hi : Nat), VS τ c Sc lo hi → VS τ2 c Sc lo hi := by
  refine LT.ind (P := fun c q p => ∀ (Sc : Nat → Prop) (lo hi : Nat), VS τ c Sc lo hi → VS τ2 c Sc lo hi) ?_ h
  clear h
  intro c q p h Sc lo hi v
  obtain ⟨k1, k2, k3⟩ := h.kids
  have e13 : ∀ x, xA τ2 13 x = xA τ 13 x := fun x => h2.1 13 x (by decide)
  have e15 : ∀ x, xA τ2 15 x = xA τ 15 x := fun x => h2.1 15 x (by decide)
  have e16 : ∀ x, xA τ2 16 x = xA τ 16 x := fun x => h2.1 16 x (by decide)
  have e17 : ∀ x, xA τ2 17 x = xA τ 17 x := fun x => h2.1 17 x (by decide)
  have e2 : ∀ x, xA τ2 2 x = xA τ 2 x := fun x => h2.1 2 x (by decide)
  have ehF : ∀ x, hF τ2 x = hF τ x := fun x => by unfold hF; rw [h2.1 18 x (by decide)]
  rcases v.un with ⟨⟨q0, q1⟩, q2, q3⟩ | ⟨q1, k, cc, ll, q2, q3, q4, q5, ⟨q6, q7, q8, q8'⟩, q9⟩ | ⟨q1, l, bb, ll, q2, q3, q4, q5, q6, ⟨q7, q8, q9⟩, q10, q11⟩ | ⟨q1, l, aa, ll, q2, q3, q4, q5, ⟨q6, q7, q8⟩, q9⟩
  · refine VS.fold (Or.inl ⟨⟨q0, by rw [e13]; exact q1⟩, by rw [e16]; exact q2, fun w => ?_⟩)
    rw [e13] at w
    rw [h2.2.1 c (by rw [w]; decide)]
    exact q3 w
  · obtain ⟨k', cc', d1, d2, d3⟩ := k1 q1
    obtain ⟨g1, g2⟩ := ch_uq (τ := τ) q2 d1 (q4.1.symm.trans d2.1) q4.2 d2.2
    subst g1
    refine VS.fold (Or.inr (Or.inl ⟨by rw [e13]; exact q1, k, cc, ll, q2, q3, q4.r h2, q5, ⟨q6, fun i hi' => by rw [ehF, ehF]; exact q7 i hi', by rw [e13, e15]; exact q8, by rw [e13]; exact q8'⟩, fun i hi' => ?_⟩))
    obtain ⟨q', p', w⟩ := d3 i hi'
    rw [← g2 i hi'] at w
    exact w.2 _ _ _ (q9 i hi')
  · obtain ⟨l', bb', d1, d2, d3, ⟨q', p', d4⟩, d5⟩ := k2 q1
    obtain ⟨g1, g2⟩ := ch_uq (τ := τ) q2 d1 (q5.symm.trans d2) (fun i hi => ⟨(q6 i hi).1.1, (q6 i hi).2.2⟩) d3
    subst g1
    refine VS.fold (Or.inr (Or.inr (Or.inl ⟨by rw [e13]; exact q1, l, bb, ll, q2, q3, ⟨q4.1, q4.2.1, by rw [h8]; exact q4.2.2⟩, by rw [e16, e17]; exact q5, fun i hi' => ?_, ⟨q7, by rw [e16, ehF, ehF]; exact q8, fun i hi' => by rw [e16, ehF, ehF]; exact q9 i hi'⟩, by rw [e16]; exact d4.2 _ _ _ q10, fun i hi' => ?_⟩)))
    · obtain ⟨w1, w2, w3⟩ := q6 i hi'
      refine ⟨w1, ?_, by rw [e17]; exact w3⟩
      rw [h2.2.1 _ (by rw [g2 i hi', (d5 i hi').1]; decide)]
      exact w2
    · obtain ⟨-, q', p', w⟩ := d5 i hi'
      rw [← g2 i hi'] at w
      rw [e16]
      exact w.2 _ _ _ (q11 i hi')
  · obtain ⟨l', aa', d1, d2, d3, ⟨q', p', d4⟩, d5⟩ := k3 q1
    obtain ⟨g1, g2⟩ := ch_uq (τ := τ) q2 d1 (q4.symm.trans d2) (fun i hi => ⟨(q9 i hi).1.1.1, (q9 i hi).1.2⟩) d3
    subst g1
    refine VS.fold (Or.inr (Or.inr (Or.inr ⟨by rw [e13]; exact q1, l, aa, ll, q2, q3, by rw [e16, e17]; exact q4, by rw [e16]; exact d4.2 _ _ _ q5, ⟨q6, by rw [e16, ehF, ehF]; exact q7, fun i hi' => by rw [e16, ehF, ehF]; exact q8 i hi'⟩, fun i hi' => ?_⟩)))
    obtain ⟨⟨w1, w2⟩, w3⟩ := q9 i hi'
    obtain ⟨w4, q', p', w5⟩ := d5 i hi'
    rw [← g2 i hi'] at w5 w4
    refine ⟨⟨w1, by rw [e17]; exact w2⟩, ?_⟩
    rw [e13, e16, e15, h2.2.1 _ w4]
    rcases w3 with ⟨z1, j, z2, z3, z4, z5, z6⟩ | ⟨z1, z2⟩
    · exact Or.inl ⟨z1, j, z2, z3, by rw [e2]; exact z4, z5, w5.2 _ _ _ z6⟩
    · exact Or.inr ⟨z1, w5.2 _ _ _ z2⟩
