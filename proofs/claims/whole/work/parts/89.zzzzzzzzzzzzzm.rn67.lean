/-- a weight summed over the lifted subtrees -/
def tbN (w : Nat → Nat) (μ : S5) : Nat → Nat → Nat
  | 0 => fun _ => 0
  | n + 1 => fun p => if p = n then w n + sdN (tbN w μ n) μ n 0 else tbN w μ n p
def wtN (w : Nat → Nat) (μ : S5) (p : Nat) : Nat := tbN w μ (p + 1) p
theorem tbN_st (w : Nat → Nat) (μ : S5) {x : Nat} : ∀ n, x < n → tbN w μ n x = wtN w μ x
  | 0, h => absurd h (Nat.not_lt_zero _)
  | n + 1, h => by
    by_cases e : x = n
    · subst e; rfl
    · show (if x = n then _ else tbN w μ n x) = _
      rw [if_neg e]
      exact tbN_st w μ n (by omega)
theorem wtN_eq (w : Nat → Nat) (μ : S5) {p : Nat} (h : ∀ i, i < cnN μ p → chN μ p i < p) : wtN w μ p = w p + sdN (wtN w μ) μ p 0 := by
  show (if p = p then w p + sdN (tbN w μ p) μ p 0 else _) = _
  rw [if_pos rfl]
  unfold sdN
  rw [pre_cg (w := fun j => tbN w μ p (chN μ p (0 + j))) (w' := fun j => wtN w μ (chN μ p (0 + j))) (cnN μ p - 0) (fun i hi => by
    show tbN w μ p (chN μ p (0 + i)) = wtN w μ (chN μ p (0 + i))
    rw [Nat.zero_add]
    exact tbN_st w μ p (h i (by omega)))]
/-- the children of a lifted node -/
theorem LKids.cn {μ : S5} {R : R3} {k : Nat} {cc : Nat → Int32} {T q p : Nat} (hk : k ≤ 10) (hT : T ≤ 14000) (hp : p < 7000) (h : LKids μ R k cc T q p) : ∃ qq pp : Nat → Nat, cnN μ p = k ∧ qq 0 = q ∧ qq k = p ∧ ∀ i, i < k → R (cc i) (qq i) (pp i) ∧ qq i ≤ pp i ∧ pp i < p ∧ qq (i + 1) = pp i + 1 ∧ chN μ p i = pp i := by
  obtain ⟨qq, pp, ct, k1, k2, k3, k4, k5, k6⟩ := h
  refine ⟨qq, pp, by unfold cnN; rw [k3, nI_clamp (by omega)], k4, k5, fun i hi => ?_⟩
  obtain ⟨r1, r2, r3, r4, r5⟩ := k6 i hi
  refine ⟨r1, r2, r3, r4, ?_⟩
  unfold chN
  rw [k1, nI_add, r5, nI_clamp (by omega)]
/-- every lifted node: its children -/
theorem LTF.cn {τ μ : S5} {F V T : Nat} {R : R3} {c : Int32} {q p : Nat} (h : LTF τ μ F V T R c q p) : (cnN μ p = 0 ∧ q = p ∧ xA τ 13 c ≤ 4) ∨ ∃ (k : Nat) (cc : Nat → Int32) (qq pp : Nat → Nat), (1 ≤ k ∧ k ≤ 10) ∧ cnN μ p = k ∧ qq 0 = q ∧ qq k = p ∧ ∀ i, i < k → R (cc i) (qq i) (pp i) ∧ qq i ≤ pp i ∧ pp i < p ∧ qq (i + 1) = pp i + 1 ∧ chN μ p i = pp i := by
  obtain ⟨⟨h1, h1b, h1c, -⟩, -, -, -, h5⟩ := h
  rcases h5 with ⟨b1, b2, b3, b4⟩ | ⟨b1, b2, b3, b4, cc, b5, b6'⟩ | ⟨b1, b2, k, cc, b3, b4, b5, b6', b7⟩ | ⟨b1, b2, b3, b4, b5, k, cc, b6', b7, b8, b9, b10⟩ | ⟨b1, b2, l, x0, bb, cc, c0, b3, b4, b5, b6', b7, b8, b9, b10, b11, b12⟩ | ⟨b1, b2, l, ct, aa, cc, c0, b3, b4, b5, b6', b7, b8, b9, b10, b11, b12⟩
  · refine Or.inl ⟨by unfold cnN; rw [b2]; rfl, b1, ?_⟩
    rcases b4 with ⟨w, _⟩ | ⟨w, _⟩ | ⟨w, _⟩ | ⟨w, _⟩ | ⟨w, _⟩ <;> rw [w] <;> decide
  · obtain ⟨qq, pp, w⟩ := b6'.cn (by omega) h1c h1b
    exact Or.inr ⟨2, cc, qq, pp, by omega, w⟩
  · obtain ⟨qq, pp, w⟩ := b7.cn (by omega) h1c h1b
    exact Or.inr ⟨k, cc, qq, pp, by omega, w⟩
  · obtain ⟨qq, pp, w⟩ := b10.cn (by omega) h1c h1b
    exact Or.inr ⟨k, cc, qq, pp, by omega, w⟩
  · obtain ⟨qq, pp, w⟩ := b12.cn (by omega) h1c h1b
    exact Or.inr ⟨l + 1, _, qq, pp, by omega, w⟩
  · obtain ⟨qq, pp, w⟩ := b12.cn (by omega) h1c h1b
    exact Or.inr ⟨l + 1, _, qq, pp, by omega, w⟩
theorem LTN.wt {τ μ : S5} {F V T : Nat} {c : Int32} {q p : Nat} (h : LTN τ μ F V T c q p) (w : Nat → Nat) : wtN w μ p = w p + sdN (wtN w μ) μ p 0 := wtN_eq w μ (fun i hi => by
  rcases h.un.1.cn with ⟨e, -⟩ | ⟨k, cc, qq, pp, -, e, -, -, f⟩
  · omega
  · obtain ⟨-, -, f3, -, f5⟩ := f i (by omega)
    omega)
theorem pre_wl {a b : Nat → Nat} : ∀ n, (∀ i, i < n → a i ≤ b i) → pre a n ≤ pre b n
  | 0, _ => Nat.le_refl _
  | n + 1, h => by
    have h1 := pre_wl n (fun i hi => h i (by omega))
    have h2 := h n (by omega)
    show pre a n + a n ≤ pre b n + b n
    omega
/-- the steps' weights are bounded by the nodes -/
def wE (μ : S5) (p : Nat) : Nat := 5 + 2 * cnN μ p
theorem wE_le {τ μ : S5} {F V T : Nat} {c : Int32} {q p : Nat} (h : LTN τ μ F V T c q p) : wtN (wE μ) μ p + 2 ≤ 7 * (p + 1 - q) := by
  refine LTN.ind (P := fun c q p => wtN (wE μ) μ p + 2 ≤ 7 * (p + 1 - q)) ?_ h
  clear h
  intro c q p h
  have hw := LTN.wt (LTN.fold ⟨h.1.mono (fun _ _ _ w => ⟨w.1.1, w.2⟩), h.2⟩) (wE μ)
  rw [hw]
  unfold wE sdN
  rcases h.1.cn with ⟨e, e2, -⟩ | ⟨k, cc, qq, pp, -, e, e2, e3, f⟩
  · rw [e]
    show 5 + 2 * 0 + 0 + 2 ≤ _
    omega
  · rw [e, Nat.sub_zero]
    have key : ∀ j, j ≤ k → q ≤ qq j ∧ pre (fun j => wtN (wE μ) μ (chN μ p (0 + j))) j + 2 * j ≤ 7 * (qq j - q) := by
      intro j
      induction j with
      | zero => intro _; rw [e2]; exact ⟨Nat.le_refl _, Nat.zero_le _⟩
      | succ j ih =>
        intro hj
        obtain ⟨i1, i2⟩ := ih (by omega)
        obtain ⟨⟨⟨-, f1⟩, -⟩, f2, f3, f4, f5⟩ := f j (by omega)
        refine ⟨by omega, ?_⟩
        show pre _ j + wtN (wE μ) μ (chN μ p (0 + j)) + 2 * (j + 1) ≤ _
        rw [Nat.zero_add, f5]
        omega
    obtain ⟨y1, y2⟩ := key k (Nat.le_refl _)
    rw [e3] at y1 y2
    unfold wE at y2
    omega
/-- STEPS -/
theorem est_of {τ μ : S5} {F T : Nat} {nv : Nat → Nat} (hr : ∀ f, f < F → ∃ c q p, xA μ 45 (nI f) = nI p ∧ LTN τ μ F (nv f) T c q p) : ESt τ μ F T nv (wtN (wE μ) μ) := by
  refine ⟨fun f c p Sc hN => ?_, fun f hf => ?_⟩
  · obtain ⟨-, q, lo, hi, ⟨h, -⟩, -⟩ := hN
    exact Nat.le_of_eq (h.wt (wE μ)).symm
  · obtain ⟨c, q, p, e, h⟩ := hr f hf
    have h7 := h.un.1.1.2.1
    have := wE_le h
    rw [e, nI_clamp (by omega)]
    omega
/-- values: what a part may push of its own -/
def PLm (μ : S5) (pa : Nat → Nat) (p : Nat) : Prop := xA μ 31 (nI (chN μ p 0)) = 12 ∧ cnN μ p - 1 < pa (xA μ 32 (nI (chN μ p 0))).toNatClampNeg
noncomputable def wD (μ : S5) (pa : Nat → Nat) (p : Nat) : Nat := if xA μ 31 (nI p) = 5 then 1 else @ite Nat (xA μ 31 (nI p) = 6 ∧ ¬ PLm μ pa p) (Classical.propDecidable _) (cnN μ p - 1) 0
