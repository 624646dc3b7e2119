/-- the rows of children, of the lifted tree with its marks -/
theorem LTN.row {τp τ2 μ2 : S5} {F V T : Nat} (h2 : TR2 τp τ2) {c : Int32} {q p : Nat} (h : LTN τ2 μ2 F V T c q p) : (xA τp 13 c ≤ 4 → q = p) ∧ ((xA τp 13 c = 5 ∨ xA τp 13 c = 8 ∨ xA τp 13 c = 9) → ∃ (k : Nat) (cc : Nat → Int32) (qq pp : Nat → Nat), 1 ≤ k ∧ Chn τp c k cc ∧ qq 0 = q ∧ qq k = p ∧ ∀ i, i < k → LTN τ2 μ2 F V T (cc i) (qq i) (pp i) ∧ qq (i + 1) = pp i + 1) ∧ (xA τp 13 c = 7 → ∃ (l : Nat) (bb : Nat → Int32) (qq pp : Nat → Nat), 1 ≤ l ∧ xA τp 17 (xA τp 16 c) = bb 0 ∧ (∀ i, i < l → 0 ≤ bb i ∧ xA τp 17 (bb i) = if i + 1 < l then bb (i + 1) else -1) ∧ qq 0 = q ∧ qq (l + 1) = p ∧ LTN τ2 μ2 F V T (xA τp 16 c) (qq l) (pp l) ∧ qq (l + 1) = pp l + 1 ∧ ∀ i, i < l → LTN τ2 μ2 F V T (xA τp 16 (bb i)) (qq i) (pp i) ∧ qq (i + 1) = pp i + 1) ∧ (xA τp 13 c = 6 → ∃ (l : Nat) (aa : Nat → Int32) (qq pp : Nat → Nat), 1 ≤ l ∧ xA τp 17 (xA τp 16 c) = aa 0 ∧ (∀ i, i < l → 0 ≤ aa i ∧ xA τp 17 (aa i) = if i + 1 < l then aa (i + 1) else -1) ∧ qq 0 = q ∧ qq (l + 1) = p ∧ LTN τ2 μ2 F V T (xA τp 16 c) (qq 0) (pp 0) ∧ qq 1 = pp 0 + 1 ∧ ∀ i, i < l → LTN τ2 μ2 F V T (xA τp 16 (aa i)) (qq (i + 1)) (pp (i + 1)) ∧ qq (i + 1 + 1) = pp (i + 1) + 1) := by
  have e13 : ∀ x, xA τp 13 x = xA τ2 13 x := fun x => (h2.1 13 x (by decide)).symm
  have e16 : ∀ x, xA τp 16 x = xA τ2 16 x := fun x => (h2.1 16 x (by decide)).symm
  have e17 : ∀ x, xA τp 17 x = xA τ2 17 x := fun x => (h2.1 17 x (by decide)).symm
  have ech : ∀ (k : Nat) (cc : Nat → Int32), Chn τ2 c k cc → Chn τp c k cc := fun k cc w => ⟨by rw [e16]; exact w.1, fun i hi => ⟨(w.2 i hi).1, by rw [e17]; exact (w.2 i hi).2⟩⟩
  obtain ⟨⟨-, -, -, -, h⟩, -⟩ := h.un
  rw [e13]
  rcases h with ⟨b1, b2, b3, b4⟩ | ⟨b1, b2, b3, b4, cc, b5, b6⟩ | ⟨b1, b2, k, cc, b3, b4, b5, b6, b7⟩ | ⟨b1, b2, b3, b4, b5, k, cc, b6, b7, b8, b9, b10⟩ | ⟨b1, b2, l, x0, bb, cc, c0, b3, b4, b5, b6, b7, b8, b9, b10, b11, b12⟩ | ⟨b1, b2, l, ct, aa, cc, c0, b3, b4, b5, b6, b7, b8, b9, b10, b11, b12⟩
  · refine ⟨fun _ => b1, ?_⟩
    rcases b4 with ⟨d, _⟩ | ⟨d, _⟩ | ⟨d, _⟩ | ⟨d, _⟩ | ⟨d, _⟩ <;> rw [d] <;> exact ⟨fun w => absurd w (by decide), fun w => absurd w (by decide), fun w => absurd w (by decide)⟩
  · refine ⟨fun w => absurd w (by rw [b1]; decide), fun _ => ?_, fun w => absurd w (by rw [b1]; decide), fun w => absurd w (by rw [b1]; decide)⟩
    obtain ⟨qq, pp, ct, -, -, -, a1, a2, d⟩ := b6
    exact ⟨2, cc, qq, pp, by omega, ech _ _ b5, a1, a2, fun i hi => ⟨(d i hi).1.1, (d i hi).2.2.2.1⟩⟩
  · refine ⟨fun w => absurd w (by rw [b1]; decide), fun _ => ?_, fun w => absurd w (by rw [b1]; decide), fun w => absurd w (by rw [b1]; decide)⟩
    obtain ⟨qq, pp, ct, -, -, -, a1, a2, d⟩ := b7
    exact ⟨k, cc, qq, pp, by omega, ech _ _ b6, a1, a2, fun i hi => ⟨(d i hi).1.1, (d i hi).2.2.2.1⟩⟩
  · refine ⟨fun w => absurd w (by rw [b1]; decide), fun _ => ?_, fun w => absurd w (by rw [b1]; decide), fun w => absurd w (by rw [b1]; decide)⟩
    obtain ⟨qq, pp, ct, -, -, -, a1, a2, d⟩ := b10
    exact ⟨k, cc, qq, pp, by omega, ech _ _ b9, a1, a2, fun i hi => ⟨(d i hi).1.1, (d i hi).2.2.2.1⟩⟩
  · refine ⟨fun w => absurd w (by rw [b1]; decide), fun w => absurd w (by rw [b1]; decide), fun _ => ?_, fun w => absurd w (by rw [b1]; decide)⟩
    obtain ⟨qq, pp, ct, -, -, -, a1, a2, d⟩ := b12
    refine ⟨l, bb, qq, pp, b3, by rw [e16, e17, b8]; exact b10, fun i hi => ⟨(b11 i hi).1, by rw [e17]; exact (b11 i hi).2.2.2.2.2.2⟩, a1, a2, ?_, (d l (by omega)).2.2.2.1, fun i hi => ⟨?_, (d i (by omega)).2.2.2.1⟩⟩
    · have := (d l (by omega)).1.1
      dsimp only at this
      rw [if_neg (by omega)] at this
      rw [e16, b8]
      exact this
    · have := (d i (by omega)).1.1
      dsimp only at this
      rw [if_pos hi] at this
      rw [e16, (b11 i hi).2.2.2.1]
      exact this
  · refine ⟨fun w => absurd w (by rw [b1]; decide), fun w => absurd w (by rw [b1]; decide), fun w => absurd w (by rw [b1]; decide), fun _ => ?_⟩
    obtain ⟨qq, pp, ct, -, -, -, a1, a2, d⟩ := b12
    refine ⟨l, aa, qq, pp, b3, by rw [e16, e17, b8]; exact b10, fun i hi => ⟨(b11 i hi).1, by rw [e17]; exact (b11 i hi).2.2.2.2.2⟩, a1, a2, ?_, (d 0 (by omega)).2.2.2.1, fun i hi => ⟨?_, (d (i + 1) (by omega)).2.2.2.1⟩⟩
    · have := (d 0 (by omega)).1.1
      dsimp only at this
      rw [if_pos rfl] at this
      rw [e16, b8]
      exact this
    · have := (d (i + 1) (by omega)).1.1
      dsimp only at this
      rw [if_neg (by omega), show i + 1 - 1 = i by omega] at this
      rw [e16, (b11 i hi).2.2.1]
      exact this
/-- weights of lets -/
def wCn (τp τ2 : S5) (f i : Nat) : Nat := if xA τp 13 (nI i) = 7 ∧ xA τp 15 (nI i) = nI f ∧ xA τ2 14 (nI i) = 1 then 1 else 0
def wMn (μ : S5) (n : Nat) : Nat := if xA μ 36 (nI n) = 0 then 0 else 1
theorem wC_s {τp τ2 : S5} {f : Nat} {c : Int32} (c0 : 0 ≤ c) (c6 : c < 6200) : prI (wCn τp τ2 f) (c + 1) = prI (wCn τp τ2 f) c + if xA τp 13 c = 7 ∧ xA τp 15 c = nI f ∧ xA τ2 14 c = 1 then 1 else 0 := by
  rw [prI_s _ c0 (i_lt_le c6 (by decide))]
  unfold wCn
  rw [← nI_tn c0]
theorem wM_s (μ : S5) (p : Nat) : pre (wMn μ) (p + 1) = pre (wMn μ) p + if xA μ 36 (nI p) = 0 then 0 else 1 := rfl
/-- a node that is no let weighs nothing -/
theorem nk_w {τp τ2 μ2 : S5} {F V T f : Nat} (h2 : TR2 τp τ2) {c : Int32} {q p : Nat} (c0 : 0 ≤ c) (c6 : c < 6200) (hk : ¬ xA τp 13 c = 7) : prI (wCn τp τ2 f) (c + 1) = prI (wCn τp τ2 f) c ∧ (LTN τ2 μ2 F V T c q p → pre (wMn μ2) (p + 1) = pre (wMn μ2) p) := by
  refine ⟨by rw [wC_s c0 c6, if_neg (fun w => hk w.1)]; rfl, fun h => ?_⟩
  have := h.un.2.2 (by rw [h2.1 13 c (by decide)]; exact hk)
  rw [wM_s, if_pos this]
  rfl
theorem tel_x {X Y : Nat → Nat} {k : Nat} (h : ∀ i, i < k → X (i + 1) + Y i = X i + Y (i + 1)) : X k + Y 0 = X 0 + Y k := by
  have : ∀ i, i ≤ k → X i + Y 0 = X 0 + Y i := by
    intro i
    induction i with
    | zero => intro _; rfl
    | succ i ih =>
      intro hi
      have h1 := ih (by omega)
      have h2 := h i (by omega)
      omega
  exact this k (Nat.le_refl _)
theorem tel_y {Y : Nat → Nat} {k : Nat} (h : ∀ i, i < k → Y (i + 1) = Y i) : Y k = Y 0 := by
  have : ∀ i, i ≤ k → Y i = Y 0 := by
    intro i
    induction i with
    | zero => intro _; rfl
    | succ i ih =>
      intro hi
      rw [h i (by omega)]
      exact ih (by omega)
  exact this k (Nat.le_refl _)
