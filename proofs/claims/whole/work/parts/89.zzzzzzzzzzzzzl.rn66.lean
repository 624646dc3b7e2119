theorem ub_lb (a : Int64) (x : Nat) : ub a x = lb a x := rfl
theorem lb_not (a : Int64) {x : Nat} (hx : x < 64) : lb (a ^^^ (-1)) x = !lb a x := by
  have h1 := lb_m1 hx
  unfold lb at h1 ⊢
  rw [show (a ^^^ (-1)).toBitVec = a.toBitVec ^^^ (-1 : Int64).toBitVec from rfl, BitVec.getLsbD_xor, h1]
  cases a.toBitVec.getLsbD x <;> rfl
theorem lb_lt {a : Int64} {x : Nat} (h : lb a x = true) : x < 64 := by
  rcases Nat.lt_or_ge x 64 with w | w
  · exact w
  · unfold lb at h
    rw [BitVec.getLsbD_of_ge _ _ w] at h
    exact absurd h (by decide)
theorem spj_n : ∀ j, j < 6 → (j_lshl 1 (nI j) - 1 : Int64) = Int64.ofNat (2 ^ j - 1) := by decide
theorem spj {j : Nat} (hj : j ≤ 5) (m : Nat) : lb (j_lshl 1 (nI j) - 1) m = decide (m < j) := by
  rw [spj_n j (by omega)]
  unfold lb
  show (BitVec.ofNat 64 (2 ^ j - 1)).getLsbD m = _
  rw [BitVec.getLsbD_ofNat, Nat.testBit_two_pow_sub_one]
  by_cases h : m < j
  · have : m < 64 := by omega
    simp [h, this]
  · simp [h]
/-- the bits of a stretch of names -/
theorem spn_b {v j x : Nat} (hv : v + j ≤ 40) (hj : j ≤ 5) : lb (spn (nI v) (nI j)) x = true ↔ v ≤ x ∧ x < v + j := by
  unfold spn
  by_cases h : (40 : Int32) ≤ nI v
  · rw [if_pos h, lb_0]
    have : 40 ≤ v := (nI_le31 (a := 40) (by omega) (by omega)).mp h
    exact ⟨fun w => absurd w (by decide), fun w => by omega⟩
  · have : v < 40 := by
      rcases Nat.lt_or_ge v 40 with w | w
      · exact w
      · exact absurd ((nI_le31 (a := 40) (b := v) (by omega) (by omega)).mpr w) h
    rw [if_neg h, lb_shl _ (by omega), spj hj]
    constructor
    · intro w
      simp at w
      omega
    · intro w
      simp
      omega
theorem mU_b {τ : S5} {cc : Nat → Int32} {x : Nat} : ∀ l, lb (mU τ cc l) x = true ↔ ∃ p, p < l ∧ UB τ (cc p) x
  | 0 => by
    show lb 0 x = true ↔ _
    rw [lb_0]
    exact ⟨fun w => absurd w (by decide), fun ⟨p, w, _⟩ => absurd w (Nat.not_lt_zero _)⟩
  | l + 1 => by
    show lb (mU τ cc l ||| xB τ 2 (cc l)) x = true ↔ _
    rw [lb_or, Bool.or_eq_true, mU_b l]
    constructor
    · rintro (⟨p, a, b⟩ | w)
      · exact ⟨p, by omega, b⟩
      · exact ⟨l, by omega, w⟩
    · rintro ⟨p, a, b⟩
      by_cases hp : p = l
      · subst hp; exact Or.inr b
      · exact Or.inl ⟨p, by omega, b⟩
theorem mS_b {τ : S5} {cc : Nat → Int32} {x : Nat} : ∀ l, lb (mS τ cc l) x = true ↔ ∃ p, p < l ∧ xA τ 13 (cc p) = 10 ∧ lb (spn (xA τ 14 (cc p)) 1) x = true
  | 0 => by
    show lb 0 x = true ↔ _
    rw [lb_0]
    exact ⟨fun w => absurd w (by decide), fun ⟨p, w, _⟩ => absurd w (Nat.not_lt_zero _)⟩
  | l + 1 => by
    show lb (mS τ cc l ||| (if xA τ 13 (cc l) = 10 then spn (xA τ 14 (cc l)) 1 else 0)) x = true ↔ _
    rw [lb_or, Bool.or_eq_true, mS_b l]
    constructor
    · rintro (⟨p, a, b⟩ | w)
      · exact ⟨p, by omega, b⟩
      · by_cases h : xA τ 13 (cc l) = 10
        · rw [if_pos h] at w
          exact ⟨l, by omega, h, w⟩
        · rw [if_neg h, lb_0] at w
          exact absurd w (by decide)
    · rintro ⟨p, a, b, b'⟩
      by_cases hp : p = l
      · subst hp; rw [if_pos b]; exact Or.inr b'
      · exact Or.inl ⟨p, by omega, b, b'⟩
/-- what a node uses -/
theorem mB_b {τ : S5} {c a2 : Int32} {l : Nat} {cc : Nat → Int32} {x : Nat} (h : xB τ 2 c = mB τ c a2 l cc) : UB τ c x ↔ (∃ p, p < l ∧ UB τ (cc p) x) ∧ ¬ lb (if xA τ 13 c = 11 then spn (xA τ 15 c) a2 else mS τ cc l) x = true := by
  unfold UB
  rw [h, ub_lb]
  unfold mB
  rw [lb_and, Bool.and_eq_true, mU_b]
  constructor
  · rintro ⟨a, b⟩
    rw [lb_not _ (lb_lt b)] at b
    refine ⟨a, fun w => ?_⟩
    rw [w] at b
    exact absurd b (by decide)
  · rintro ⟨⟨p, a, a'⟩, b⟩
    refine ⟨⟨p, a, a'⟩, ?_⟩
    rw [lb_not _ (lb_lt a')]
    cases hb : lb (if xA τ 13 c = 11 then spn (xA τ 15 c) a2 else mS τ cc l) x
    · rfl
    · exact absurd hb b
theorem lbit_b {v x : Nat} (hv : v < 40) : lb (lbit 3 (nI v)) x = true ↔ x = v := by
  unfold lbit
  rw [if_pos rfl, if_neg (show ¬ (40 : Int32) ≤ nI v from fun w => absurd ((nI_le31 (a := 40) (b := v) (by omega) (by omega)).mp w) (by omega)), lb_shl _ (by omega), lb_1]
  constructor
  · intro w
    simp at w
    omega
  · intro w
    subst w
    simp
    omega
theorem VS.k10 {τ : S5} {c : Int32} {Sc : Nat → Prop} {lo hi : Nat} (v : VS τ c Sc lo hi) : ¬ xA τ 13 c = 10 := fun w => by
  rcases v.un with ⟨⟨-, q1⟩, -⟩ | ⟨q1, -⟩ | ⟨q1, -⟩ | ⟨q1, -⟩
  · rw [w] at q1; exact absurd q1 (by decide)
  · rw [w] at q1; revert q1; decide
  · rw [w] at q1; exact absurd q1 (by decide)
  · rw [w] at q1; exact absurd q1 (by decide)
/-- what is known of the nodes' bits -/
def DmB (τ : S5) (Dom : Int32 → Prop) : Prop := ∀ c, Dom c → (xA τ 16 c = -1 ∧ xB τ 2 c = lbit (xA τ 13 c) (xA τ 14 c)) ∨ ∃ l cc, 1 ≤ l ∧ Chn τ c l cc ∧ xB τ 2 c = mB τ c (if xA τ 13 c = 11 then xA τ 2 (xA τ 14 c) else 0) l cc ∧ ∀ p, p < l → Dom (cc p)
/-- EVERY PART SEES WHAT IT USES -/
theorem vt_of {τ μ : S5} {F V T : Nat} {Dom : Int32 → Prop} (hD : DmB τ Dom) {c : Int32} {q p : Nat} (h : LTN τ μ F V T c q p) : ∀ (Sc : Nat → Prop) (lo hi : Nat), VS τ c Sc lo hi → Dom c → (∀ x, Sc x → x < lo) → hi ≤ 40 → VT τ c lo hi ∧ ∀ x, UB τ c x → Sc x := by
  refine LTN.ind (P := fun c q p => ∀ (Sc : Nat → Prop) (lo hi : Nat), VS τ c Sc lo hi → Dom c → (∀ x, Sc x → x < lo) → hi ≤ 40 → VT τ c lo hi ∧ ∀ x, UB τ c x → Sc x) ?_ h
  clear h
  intro c q p h Sc lo hi v hd hS h40
  obtain ⟨⟨-, -, -, -, h5⟩, -⟩ := h
  have no : ∀ {x : Int32}, 0 ≤ x → x = -1 → False := fun a b => by rw [b] at a; exact absurd a (by decide)
  have big : 0 ≤ xA τ 16 c → ∃ l cc, 1 ≤ l ∧ Chn τ c l cc ∧ xB τ 2 c = mB τ c (if xA τ 13 c = 11 then xA τ 2 (xA τ 14 c) else 0) l cc ∧ ∀ p, p < l → Dom (cc p) := fun w => by
    rcases hD c hd with ⟨w1, -⟩ | ⟨l, cc, a, b, d, e⟩
    · exact (no w w1).elim
    · exact ⟨l, cc, a, b, d, e⟩
  have one : ∀ (a : Int32) (c1 : Int32), Dom a → xA τ 16 a = c1 → 0 ≤ c1 → xA τ 17 c1 = -1 → ¬ xA τ 13 c1 = 10 → Dom c1 ∧ (¬ xA τ 13 a = 11 → ∀ x, UB τ a x ↔ UB τ c1 x) ∧ (xA τ 13 a = 11 → ∀ x, UB τ a x ↔ UB τ c1 x ∧ ¬ lb (spn (xA τ 15 a) (xA τ 2 (xA τ 14 a))) x = true) := by
    intro a c1 ha e16 e0 e17 ne
    rcases hD a ha with ⟨w1, -⟩ | ⟨l, cc, b1, b2, d, e⟩
    · exact (no e0 (e16.symm.trans w1)).elim
    · obtain ⟨g1, g2⟩ := ch_uq (τ := τ) (k := 1) (k' := l) (a := fun _ => c1) (b := cc) (by omega) b1 (e16.symm.trans b2.1) (fun i hi => ⟨e0, by rw [if_neg (by omega)]; exact e17⟩) b2.2
      subst g1
      have g0 : cc 0 = c1 := (g2 0 (by omega)).symm
      refine ⟨by rw [← g0]; exact e 0 (by omega), fun n11 x => ?_, fun y11 x => ?_⟩
      · rw [mB_b d, if_neg n11]
        constructor
        · rintro ⟨⟨p, p1, p2⟩, -⟩
          obtain rfl : p = 0 := by omega
          rw [g0] at p2
          exact p2
        · intro w
          refine ⟨⟨0, by omega, by rw [g0]; exact w⟩, fun z => ?_⟩
          obtain ⟨p, p1, p2, -⟩ := (mS_b 1).mp z
          obtain rfl : p = 0 := by omega
          rw [g0] at p2
          exact ne p2
      · rw [mB_b d, if_pos y11, if_pos y11]
        constructor
        · rintro ⟨⟨p, p1, p2⟩, b⟩
          obtain rfl : p = 0 := by omega
          rw [g0] at p2
          exact ⟨p2, b⟩
        · rintro ⟨w, b⟩
          exact ⟨⟨0, by omega, by rw [g0]; exact w⟩, b⟩
  have row : ∀ (k' : Nat) (cc' : Nat → Int32), (xA τ 13 c = 5 ∨ xA τ 13 c = 8 ∨ xA τ 13 c = 9) → 1 ≤ k' → Chn τ c k' cc' → (∀ i, i < k' → ∃ q' p', (LTN τ μ F V T (cc' i) q' p' ∧ (∀ (Sc : Nat → Prop) (lo hi : Nat), VS τ (cc' i) Sc lo hi → Dom (cc' i) → (∀ x, Sc x → x < lo) → hi ≤ 40 → VT τ (cc' i) lo hi ∧ ∀ x, UB τ (cc' i) x → Sc x))) → VT τ c lo hi ∧ ∀ x, UB τ c x → Sc x := by
    intro k' cc' hk hk' hch ih
    rcases v.un with ⟨⟨-, q1⟩, -, -⟩ | ⟨q1, k, cc, ll, q2, q3, q4, q5, ⟨q6, q7, q8, q8'⟩, q9⟩ | ⟨q1, -⟩ | ⟨q1, -⟩
    · rcases hk with w | w | w <;> rw [w] at q1 <;> exact absurd q1 (by decide)
    · obtain ⟨e1, e2⟩ := ch_uq (τ := τ) q2 hk' (q4.1.symm.trans hch.1) q4.2 hch.2
      subst e1
      have n11 : ¬ xA τ 13 c = 11 := fun w => by rcases hk with z | z | z <;> rw [w] at z <;> exact absurd z (by decide)
      obtain ⟨l, cd, b1, b2, d, e⟩ := big (by rw [q4.1]; exact (q4.2 0 (by omega)).1)
      obtain ⟨f1, f2⟩ := ch_uq (τ := τ) q2 b1 (q4.1.symm.trans b2.1) q4.2 b2.2
      subst f1
      have hmo := ll_mo (k := k) (ll := ll) (fun i hi => (q9 i hi).le)
      have hub : ∀ x, UB τ c x ↔ ∃ i, i < k ∧ UB τ (cc i) x := fun x => by
        rw [mB_b d, if_neg n11]
        constructor
        · rintro ⟨⟨i, i1, i2⟩, -⟩
          exact ⟨i, i1, by rw [f2 i i1]; exact i2⟩
        · rintro ⟨i, i1, i2⟩
          refine ⟨⟨i, i1, by rw [← f2 i i1]; exact i2⟩, fun z => ?_⟩
          obtain ⟨j, j1, j2, -⟩ := (mS_b k).mp z
          rw [← f2 j j1] at j2
          exact (q9 j j1).k10 j2
      have kid : ∀ i, i < k → VT τ (cc i) (ll i) (ll (i + 1)) ∧ ∀ x, UB τ (cc i) x → Sc x := fun i hi' => by
        obtain ⟨-, -, -, w⟩ := ih i hi'
        rw [← e2 i hi'] at w
        have m1 := hmo i 0 (by omega) (by omega)
        have m2 := hmo k (i + 1) (by omega) (by omega)
        exact w _ _ _ (q9 i hi') (by rw [f2 i hi']; exact e i hi') (fun x z => by have := hS x z; omega) (by omega)
      refine ⟨VT.fold (Or.inr (Or.inl ⟨q1, k, cc, ll, q2, q3, q4, q5, ⟨q6, q7, q8, q8'⟩, fun i hi' => ⟨(kid i hi').1, fun x w => (hub x).mpr ⟨i, hi', w⟩⟩⟩)), fun x w => ?_⟩
      obtain ⟨i, i1, i2⟩ := (hub x).mp w
      exact (kid i i1).2 x i2
    · rcases hk with w | w | w <;> rw [w] at q1 <;> exact absurd q1 (by decide)
    · rcases hk with w | w | w <;> rw [w] at q1 <;> exact absurd q1 (by decide)
  have kids : ∀ {k' : Nat} {cc' : Nat → Int32}, LKids μ (fun c' q' p' => (LTN τ μ F V T c' q' p' ∧ (∀ (Sc : Nat → Prop) (lo hi : Nat), VS τ c' Sc lo hi → Dom c' → (∀ x, Sc x → x < lo) → hi ≤ 40 → VT τ c' lo hi ∧ ∀ x, UB τ c' x → Sc x)) ∧ hF τ c' < hF τ c) k' cc' T q p → ∀ i, i < k' → ∃ q' p', (LTN τ μ F V T (cc' i) q' p' ∧ (∀ (Sc : Nat → Prop) (lo hi : Nat), VS τ (cc' i) Sc lo hi → Dom (cc' i) → (∀ x, Sc x → x < lo) → hi ≤ 40 → VT τ (cc' i) lo hi ∧ ∀ x, UB τ (cc' i) x → Sc x)) := fun ⟨qq, pp, ct, k1, k2, k3, k4, k5, k6⟩ i hi => ⟨qq i, pp i, (k6 i hi).1.1⟩
  rcases h5 with ⟨b1, b2, b3, b4⟩ | ⟨b1, b2, b3, b4, cc, b5, b6'⟩ | ⟨b1, b2, k, cc, b3, b4, b5, b6', b7⟩ | ⟨b1, b2, b3, b4, b5, k, cc, b6', b7, b8, b9, b10⟩ | ⟨b1, b2, l, x0, bb, cc, c0, b3, b4, b5, b6', b7, b8, b9, b10, b11, b12⟩ | ⟨b1, b2, l, ct, aa, cc, c0, b3, b4, b5, b6', b7, b8, b9, b10, b11, b12⟩
  · have hk : xA τ 13 c ≤ 4 := by
      rcases b4 with ⟨w, _⟩ | ⟨w, _⟩ | ⟨w, _⟩ | ⟨w, _⟩ | ⟨w, _⟩ <;> rw [w] <;> decide
    have hb : xB τ 2 c = lbit (xA τ 13 c) (xA τ 14 c) := by
      rcases hD c hd with ⟨-, w⟩ | ⟨l, cc, w0, w, -⟩
      · exact w
      · exact (no (w.2 0 (by omega)).1 (w.1.symm.trans b3)).elim
    rcases v.un with ⟨⟨e0, q1⟩, q2, q3⟩ | ⟨q1, -⟩ | ⟨q1, -⟩ | ⟨q1, -⟩
    · have h3 : xA τ 13 c = 3 → ∃ x, xA τ 14 c = nI x ∧ Sc x ∧ ∀ y, UB τ c y ↔ y = x := fun w => by
        obtain ⟨x, x1, x2⟩ := q3 w
        have := hS x x2
        exact ⟨x, x1, x2, fun y => by unfold UB; rw [hb, w, x1]; exact lbit_b (by omega)⟩
      refine ⟨VT.fold (Or.inl ⟨⟨e0, q1⟩, q2, fun w => ?_⟩), fun x w => ?_⟩
      · obtain ⟨x, x1, x2, x3⟩ := h3 w
        exact ⟨x, x1, (x3 x).mpr rfl⟩
      · by_cases w3 : xA τ 13 c = 3
        · obtain ⟨y, x1, x2, x3⟩ := h3 w3
          rw [(x3 x).mp w]
          exact x2
        · unfold UB at w
          rw [hb, ub_lb] at w
          unfold lbit at w
          rw [if_neg w3, lb_0] at w
          exact absurd w (by decide)
    · rcases q1 with w | w | w <;> rw [w] at hk <;> exact absurd hk (by decide)
    · rw [q1] at hk; exact absurd hk (by decide)
    · rw [q1] at hk; exact absurd hk (by decide)
  · exact row 2 cc (Or.inl b1) (by omega) b5 (kids b6')
  · exact row k cc (Or.inr (Or.inl b1)) (by omega) b6' (kids b7)
  · exact row k cc (Or.inr (Or.inr b1)) b6' b9 (kids b10)
  · rcases v.un with ⟨⟨-, q1⟩, -, -⟩ | ⟨q1, -⟩ | ⟨q1, l', bb', ll, q2, q3, q4, q5, q6, ⟨q7, q8, q9⟩, q10, q11⟩ | ⟨q1, -⟩
    · rw [b1] at q1; exact absurd q1 (by decide)
    · rcases q1 with w | w | w <;> rw [b1] at w <;> exact absurd w (by decide)
    · obtain ⟨e1, e2⟩ := ch_uq (τ := τ) q2 b3 (by rw [← q5, b8, b10]) (fun i hi => ⟨(q6 i hi).1.1, (q6 i hi).2.2⟩) (fun i hi => ⟨(b11 i hi).1, (b11 i hi).2.2.2.2.2.2⟩)
      subst e1
      have hmo := ll_mo (k := l') (ll := ll) (fun i hi => (q11 i hi).le)
      have hhi := q10.le
      have m0 := hmo l' 0 (by omega) (by omega)
      obtain ⟨m, cd, g1, g2, d, e⟩ := big (by rw [b8]; exact b9)
      obtain ⟨f1, f2⟩ := ch_uq (τ := τ) (k := l' + 1) (k' := m) (a := fun i => if i = 0 then c0 else bb' (i - 1)) (b := cd) (by omega) g1 (by rw [if_pos rfl, ← b8]; exact g2.1) (fun i hi => by
        by_cases hi0 : i = 0
        · subst hi0
          refine ⟨by rw [if_pos rfl]; exact b9, ?_⟩
          rw [if_pos rfl, if_pos (by omega), if_neg (by omega), show 0 + 1 - 1 = 0 from rfl, ← q5, b8]
        · obtain ⟨j, rfl⟩ : ∃ j, i = j + 1 := ⟨i - 1, by omega⟩
          rw [if_neg (show ¬ j + 1 = 0 by omega), if_neg (show ¬ j + 1 + 1 = 0 by omega), show j + 1 - 1 = j by omega, show j + 1 + 1 - 1 = j + 1 by omega]
          refine ⟨(q6 j (by omega)).1.1, ?_⟩
          rw [(q6 j (by omega)).2.2]
          by_cases hj : j + 1 < l'
          · rw [if_pos hj, if_pos (by omega)]
          · rw [if_neg hj, if_neg (by omega)]) g2.2
      subst f1
      have k0 : c0 = cd 0 := by have := f2 0 (by omega); rw [if_pos rfl] at this; exact this
      have kb : ∀ i, i < l' → bb' i = cd (i + 1) := fun i hi => by
        have := f2 (i + 1) (by omega)
        rw [if_neg (by omega), show i + 1 - 1 = i by omega] at this
        exact this
      have v0 : VS τ c0 (Sx Sc lo l') (ll l') hi := by rw [← b8]; exact q10
      have vb : ∀ i, i < l' → VS τ (cc i) (Sx Sc lo l') (ll i) (ll (i + 1)) := fun i hi => by
        have w := q11 i hi
        rw [e2 i hi, (b11 i hi).2.2.2.1] at w
        exact w
      have k13 : ∀ i, i < l' → xA τ 13 (bb' i) = 10 := fun i hi => by rw [e2 i hi]; exact (b11 i hi).2.1
      have kw : ∀ i, i < l' → Dom (cc i) ∧ ∀ x, UB τ (bb' i) x ↔ UB τ (cc i) x := fun i hi => by
        have w := one (bb' i) (cc i) (by rw [kb i hi]; exact e _ (by omega)) (by rw [e2 i hi]; exact (b11 i hi).2.2.2.1) (b11 i hi).2.2.2.2.1 (b11 i hi).2.2.2.2.2.1 (vb i hi).k10
        exact ⟨w.1, w.2.1 (by rw [k13 i hi]; decide)⟩
      have hms : ∀ x, lb (mS τ cd (l' + 1)) x = true ↔ lo ≤ x ∧ x < lo + l' := fun x => by
        rw [mS_b]
        constructor
        · rintro ⟨i, i1, i2, i3⟩
          by_cases hi0 : i = 0
          · subst hi0
            rw [← k0] at i2
            exact absurd i2 v0.k10
          · obtain ⟨j, rfl⟩ : ∃ j, i = j + 1 := ⟨i - 1, by omega⟩
            rw [← kb j (by omega), (q6 j (by omega)).2.1] at i3
            have := (spn_b (j := 1) (by omega) (by omega)).mp i3
            omega
        · rintro ⟨w1, w2⟩
          refine ⟨x - lo + 1, by omega, ?_, ?_⟩
          · rw [← kb _ (by omega)]; exact k13 _ (by omega)
          · rw [← kb _ (by omega), (q6 _ (by omega)).2.1]
            exact (spn_b (j := 1) (by omega) (by omega)).mpr (by omega)
      have hub : ∀ x, UB τ c x ↔ (UB τ c0 x ∨ ∃ i, i < l' ∧ UB τ (cc i) x) ∧ ¬ (lo ≤ x ∧ x < lo + l') := fun x => by
        rw [mB_b d, if_neg (by rw [b1]; decide), hms]
        constructor
        · rintro ⟨⟨i, i1, i2⟩, w⟩
          refine ⟨?_, w⟩
          by_cases hi0 : i = 0
          · subst hi0
            rw [← k0] at i2
            exact Or.inl i2
          · obtain ⟨j, rfl⟩ : ∃ j, i = j + 1 := ⟨i - 1, by omega⟩
            rw [← kb j (by omega)] at i2
            exact Or.inr ⟨j, by omega, ((kw j (by omega)).2 x).mp i2⟩
        · rintro ⟨z | ⟨j, j1, j2⟩, w⟩
          · exact ⟨⟨0, by omega, by rw [← k0]; exact z⟩, w⟩
          · exact ⟨⟨j + 1, by omega, by rw [← kb j j1]; exact ((kw j j1).2 x).mpr j2⟩, w⟩
      have hSx : ∀ x, Sx Sc lo l' x → x < lo + l' := fun x w => by
        rcases w with w | w
        · have := hS x w; omega
        · omega
      have ih := kids b12
      have r0 : VT τ c0 (ll l') hi ∧ ∀ x, UB τ c0 x → Sx Sc lo l' x := by
        obtain ⟨-, -, -, w⟩ := ih l' (by omega)
        rw [if_neg (by omega)] at w
        exact w _ _ _ v0 (by rw [k0]; exact e 0 (by omega)) (fun x z => by have := hSx x z; omega) h40
      have rb : ∀ i, i < l' → VT τ (cc i) (ll i) (ll (i + 1)) ∧ ∀ x, UB τ (cc i) x → Sx Sc lo l' x := fun i hi' => by
        obtain ⟨-, -, -, w⟩ := ih i (by omega)
        rw [if_pos hi'] at w
        have m1 := hmo i 0 (by omega) (by omega)
        have m2 := hmo l' (i + 1) (by omega) (by omega)
        exact w _ _ _ (vb i hi') (kw i hi').1 (fun x z => by have := hSx x z; omega) (by omega)
      have hin : ∀ x, UB τ c x → Sc x := fun x w => by
        obtain ⟨w1, w2⟩ := (hub x).mp w
        have : Sx Sc lo l' x := by
          rcases w1 with z | ⟨i, i1, i2⟩
          · exact r0.2 x z
          · exact (rb i i1).2 x i2
        exact this.resolve_right w2
      have up : ∀ x, (UB τ c0 x ∨ ∃ i, i < l' ∧ UB τ (cc i) x) → Sx (UB τ c) lo l' x := fun x w => by
        by_cases z : lo ≤ x ∧ x < lo + l'
        · exact Or.inr z
        · exact Or.inl ((hub x).mpr ⟨w, z⟩)
      refine ⟨VT.fold (Or.inr (Or.inr (Or.inl ⟨b1, l', bb', ll, q2, q3, ⟨q4.1, fun y w => hS y (hin y w), q4.2.2⟩, q5, q6, ⟨q7, q8, q9⟩, ?_, fun i hi' => ?_⟩))), hin⟩
      · rw [b8]
        exact ⟨r0.1, fun x w => up x (Or.inl w)⟩
      · rw [e2 i hi', (b11 i hi').2.2.2.1]
        exact ⟨(rb i hi').1, fun x w => up x (Or.inr ⟨i, hi', w⟩)⟩
    · rw [b1] at q1; exact absurd q1 (by decide)
  · rcases v.un with ⟨⟨-, q1⟩, -, -⟩ | ⟨q1, -⟩ | ⟨q1, -⟩ | ⟨q1, l', aa', ll, q2, q3, q4, q5, ⟨q6, q7, q8⟩, q9⟩
    · rw [b1] at q1; exact absurd q1 (by decide)
    · rcases q1 with w | w | w <;> rw [b1] at w <;> exact absurd w (by decide)
    · rw [b1] at q1; exact absurd q1 (by decide)
    · obtain ⟨e1, e2⟩ := ch_uq (τ := τ) q2 b3 (by rw [← q4, b8, b10]) (fun i hi => ⟨(q9 i hi).1.1.1, (q9 i hi).1.2⟩) (fun i hi => ⟨(b11 i hi).1, (b11 i hi).2.2.2.2.2⟩)
      subst e1
      have hmo := ll_mo (k := l') (ll := ll) (fun i hi => by
        rcases (q9 i hi).2 with ⟨-, j, -, -, -, -, r⟩ | ⟨-, r⟩
        · have := r.le; omega
        · exact r.le)
      have hl0 := q5.le
      obtain ⟨m, cd, g1, g2, d, e⟩ := big (by rw [b8]; exact b9)
      obtain ⟨f1, f2⟩ := ch_uq (τ := τ) (k := l' + 1) (k' := m) (a := fun i => if i = 0 then c0 else aa' (i - 1)) (b := cd) (by omega) g1 (by rw [if_pos rfl, ← b8]; exact g2.1) (fun i hi => by
        by_cases hi0 : i = 0
        · subst hi0
          refine ⟨by rw [if_pos rfl]; exact b9, ?_⟩
          rw [if_pos rfl, if_pos (by omega), if_neg (by omega), show 0 + 1 - 1 = 0 from rfl, ← q4, b8]
        · obtain ⟨j, rfl⟩ : ∃ j, i = j + 1 := ⟨i - 1, by omega⟩
          rw [if_neg (show ¬ j + 1 = 0 by omega), if_neg (show ¬ j + 1 + 1 = 0 by omega), show j + 1 - 1 = j by omega, show j + 1 + 1 - 1 = j + 1 by omega]
          refine ⟨(q9 j (by omega)).1.1.1, ?_⟩
          rw [(q9 j (by omega)).1.2]
          by_cases hj : j + 1 < l'
          · rw [if_pos hj, if_pos (by omega)]
          · rw [if_neg hj, if_neg (by omega)]) g2.2
      subst f1
      have k0 : c0 = cd 0 := by have := f2 0 (by omega); rw [if_pos rfl] at this; exact this
      have kb : ∀ i, i < l' → aa' i = cd (i + 1) := fun i hi => by
        have := f2 (i + 1) (by omega)
        rw [if_neg (by omega), show i + 1 - 1 = i by omega] at this
        exact this
      have v0 : VS τ c0 Sc lo (ll 0) := by rw [← b8]; exact q5
      have ea : ∀ i, i < l' → xA τ 16 (aa' i) = cc i := fun i hi => by rw [e2 i hi]; exact (b11 i hi).2.2.1
      have k13 : ∀ i, i < l' → xA τ 13 (aa' i) = 11 ∨ xA τ 13 (aa' i) = 12 ∨ xA τ 13 (aa' i) = 13 := fun i hi => by
        rw [e2 i hi]
        rcases (b11 i hi).2.1 with ⟨w, _⟩ | ⟨w, _⟩ | ⟨w, _⟩
        · exact Or.inl w
        · exact Or.inr (Or.inl w)
        · exact Or.inr (Or.inr w)
      have vk : ∀ i, i < l' → ¬ xA τ 13 (cc i) = 10 := fun i hi => by
        rcases (q9 i hi).2 with ⟨-, j, -, -, -, -, r⟩ | ⟨-, r⟩ <;> rw [ea i hi] at r <;> exact r.k10
      have kw := fun i (hi : i < l') => one (aa' i) (cc i) (by rw [kb i hi]; exact e _ (by omega)) (ea i hi) (b11 i hi).2.2.2.1 (b11 i hi).2.2.2.2.1 (vk i hi)
      have hms : ∀ x, ¬ lb (mS τ cd (l' + 1)) x = true := fun x => by
        rw [mS_b]
        rintro ⟨i, i1, i2, i3⟩
        by_cases hi0 : i = 0
        · subst hi0
          rw [← k0] at i2
          exact absurd i2 v0.k10
        · obtain ⟨j, rfl⟩ : ∃ j, i = j + 1 := ⟨i - 1, by omega⟩
          rw [← kb j (by omega)] at i2
          rcases k13 j (by omega) with w | w | w <;> rw [w] at i2 <;> exact absurd i2 (by decide)
      have hub : ∀ x, UB τ c x ↔ (UB τ c0 x ∨ ∃ i, i < l' ∧ UB τ (aa' i) x) := fun x => by
        rw [mB_b d, if_neg (by rw [b1]; decide)]
        constructor
        · rintro ⟨⟨i, i1, i2⟩, w⟩
          by_cases hi0 : i = 0
          · subst hi0
            rw [← k0] at i2
            exact Or.inl i2
          · obtain ⟨j, rfl⟩ : ∃ j, i = j + 1 := ⟨i - 1, by omega⟩
            rw [← kb j (by omega)] at i2
            exact Or.inr ⟨j, by omega, i2⟩
        · rintro (z | ⟨j, j1, j2⟩)
          · exact ⟨⟨0, by omega, by rw [← k0]; exact z⟩, hms x⟩
          · exact ⟨⟨j + 1, by omega, by rw [← kb j j1]; exact j2⟩, hms x⟩
      have m0 := hmo l' 0 (by omega) (by omega)
      have ih := kids b12
      have r0 : VT τ c0 lo (ll 0) ∧ ∀ x, UB τ c0 x → Sc x := by
        obtain ⟨-, -, -, w⟩ := ih 0 (by omega)
        rw [if_pos rfl] at w
        exact w _ _ _ v0 (by rw [k0]; exact e 0 (by omega)) hS (by omega)
      have rb : ∀ i, i < l' → (xA τ 13 (aa' i) = 11 ∧ ∃ j, j ≤ 5 ∧ (ll i ≤ 4000 ∧ ∀ y, Sc y → y < ll i) ∧ xA τ 2 (xA τ 14 (aa' i)) = nI j ∧ xA τ 15 (aa' i) = nI (ll i) ∧ (ll i + j ≤ 40) ∧ VT τ (cc i) (ll i + j) (ll (i + 1)) ∧ ∀ x, UB τ (cc i) x → Sx Sc (ll i) j x) ∨ (¬ xA τ 13 (aa' i) = 11 ∧ VT τ (cc i) (ll i) (ll (i + 1)) ∧ ∀ x, UB τ (cc i) x → Sc x) := fun i hi' => by
        obtain ⟨-, -, -, w⟩ := ih (i + 1) (by omega)
        rw [if_neg (by omega), show i + 1 - 1 = i by omega] at w
        have m1 := hmo i 0 (by omega) (by omega)
        have m2 := hmo l' (i + 1) (by omega) (by omega)
        rcases (q9 i hi').2 with ⟨r1, j, r2, r3, r4, r5, r⟩ | ⟨r1, r⟩
        · rw [ea i hi'] at r
          have := r.le
          refine Or.inl ⟨r1, j, r2, r3, r4, r5, by omega, w _ _ _ r (kw i hi').1 (fun x z => ?_) (by omega)⟩
          rcases z with z | z
          · have := r3.2 x z; omega
          · omega
        · rw [ea i hi'] at r
          exact Or.inr ⟨r1, w _ _ _ r (kw i hi').1 (fun x z => by have := hS x z; omega) (by omega)⟩
      have hin : ∀ x, UB τ c x → Sc x := fun x w => by
        rcases (hub x).mp w with z | ⟨i, i1, i2⟩
        · exact r0.2 x z
        · rcases rb i i1 with ⟨r1, j, r2, r3, r4, r5, r6, r7, r8⟩ | ⟨r1, r2, r3⟩
          · obtain ⟨y1, y2⟩ := ((kw i i1).2.2 r1 x).mp i2
            rw [r4, r5] at y2
            exact (r8 x y1).resolve_right (fun z => y2 ((spn_b r6 r2).mpr z))
          · exact r3 x (((kw i i1).2.1 r1 x).mp i2)
      refine ⟨VT.fold (Or.inr (Or.inr (Or.inr ⟨b1, l', aa', ll, q2, q3, q4, ?_, ⟨q6, q7, q8⟩, fun i hi' => ⟨(q9 i hi').1, ?_⟩⟩))), hin⟩
      · rw [b8]
        exact ⟨r0.1, fun x w => (hub x).mpr (Or.inl w)⟩
      · rw [ea i hi']
        rcases rb i hi' with ⟨r1, j, r2, r3, r4, r5, r6, r7, r8⟩ | ⟨r1, r2, r3⟩
        · refine Or.inl ⟨r1, j, r2, ⟨r3.1, fun y w => r3.2 y (hin y w)⟩, r4, r5, r7, fun x w => ?_⟩
          by_cases z : ll i ≤ x ∧ x < ll i + j
          · exact Or.inr z
          · refine Or.inl ((hub x).mpr (Or.inr ⟨i, hi', ((kw i hi').2.2 r1 x).mpr ⟨w, fun y => z ?_⟩⟩))
            rw [r4, r5] at y
            exact (spn_b r6 r2).mp y
        · exact Or.inr ⟨r1, r2, fun x w => (hub x).mpr (Or.inr ⟨i, hi', ((kw i hi').2.1 r1 x).mpr w⟩)⟩
