theorem ch_uq {τ : S5} {k k' : Nat} {a b : Nat → Int32} (hk : 1 ≤ k) (hk' : 1 ≤ k') (h0 : a 0 = b 0) (ha : ∀ i, i < k → 0 ≤ a i ∧ xA τ 17 (a i) = if i + 1 < k then a (i + 1) else -1) (hb : ∀ i, i < k' → 0 ≤ b i ∧ xA τ 17 (b i) = if i + 1 < k' then b (i + 1) else -1) : k = k' ∧ ∀ i, i < k → a i = b i := by
  have key : ∀ i, i < k → i < k' ∧ a i = b i := by
    intro i
    induction i with
    | zero => intro _; exact ⟨by omega, h0⟩
    | succ i ih =>
      intro hi
      obtain ⟨h1, h2⟩ := ih (by omega)
      have e1 := (ha i (by omega)).2
      have e2 := (hb i h1).2
      rw [if_pos hi, h2] at e1
      rw [e1] at e2
      by_cases hk2 : i + 1 < k'
      · rw [if_pos hk2] at e2
        exact ⟨hk2, e2⟩
      · rw [if_neg hk2] at e2
        have := (ha (i + 1) hi).1
        rw [e2] at this
        exact absurd this (by decide)
  refine ⟨?_, fun i hi => (key i hi).2⟩
  have h1 := (key (k - 1) (by omega)).1
  by_cases hlt : k < k'
  · have e1 := (ha (k - 1) (by omega)).2
    have e2 := (hb (k - 1) (by omega)).2
    rw [if_neg (by omega), (key (k - 1) (by omega)).2] at e1
    rw [e1, if_pos (by omega), show k - 1 + 1 = k by omega] at e2
    have := (hb k hlt).1
    rw [← e2] at this
    exact absurd this (by decide)
  · omega
abbrev R6 : Type := Int32 → Nat → Nat → (Nat → Prop) → Nat → Nat → Prop
/-- children of both -/
def JK (μ : S5) (R : R6) (k ct : Nat) (cc : Nat → Int32) (Sa : Nat → Nat → Prop) (la lb : Nat → Nat) (q p : Nat) : Prop := ∃ (qq pp : Nat → Nat), xA μ 33 (nI p) = nI ct ∧ ct + k ≤ 14000 ∧ xA μ 34 (nI p) = nI k ∧ qq 0 = q ∧ qq k = p ∧ ∀ i, i < k → R (cc i) (qq i) (pp i) (Sa i) (la i) (lb i) ∧ qq i ≤ pp i ∧ pp i < p ∧ qq (i + 1) = pp i + 1 ∧ xA μ 39 (nI (ct + i)) = nI (pp i)
def JLeaf (τ μ : S5) (F : Nat) (c : Int32) (q p : Nat) (Sc : Nat → Prop) : Prop := q = p ∧ xA μ 34 (nI p) = nI 0 ∧ ((xA τ 13 c = 0 ∧ xA μ 31 (nI p) = 10) ∨ (xA τ 13 c = 1 ∧ xA μ 31 (nI p) = 9) ∨ (xA τ 13 c = 2 ∧ xA μ 31 (nI p) = 12 ∧ ∃ f, f < F ∧ xA τ 14 c = nI f ∧ xA μ 32 (nI p) = nI f) ∨ (xA τ 13 c = 3 ∧ xA μ 31 (nI p) = 13 ∧ ∃ x, xA τ 14 c = nI x ∧ xA μ 32 (nI p) = nI x ∧ Sc x) ∨ (xA τ 13 c = 4 ∧ xA μ 31 (nI p) = 11))
def JRow (τ μ : S5) (R : R6) (c : Int32) (q p : Nat) (Sc : Nat → Prop) (lo hi : Nat) : Prop := ∃ (k ct : Nat) (cc : Nat → Int32) (ll : Nat → Nat), ((xA τ 13 c = 5 ∧ xA μ 31 (nI p) = 5 ∧ k = 2) ∨ (xA τ 13 c = 8 ∧ xA μ 31 (nI p) = 6 ∧ xA τ 15 c = nI (k - 1)) ∨ (xA τ 13 c = 9 ∧ xA μ 31 (nI p) = 7)) ∧ (1 ≤ k ∧ k ≤ 9) ∧ Chn τ c k cc ∧ ll 0 = lo ∧ ll k = hi ∧ (∀ i, i < k → hF τ (cc i) < hF τ c ∧ ll i ≤ ll (i + 1)) ∧ JK μ R k ct cc (fun _ => Sc) ll (fun i => ll (i + 1)) q p
def JLet (τ μ : S5) (R : R6) (c : Int32) (q p : Nat) (Sc : Nat → Prop) (lo hi : Nat) : Prop := xA τ 13 c = 7 ∧ xA μ 31 (nI p) = 0 ∧ ∃ (l ct : Nat) (bb : Nat → Int32) (ll : Nat → Nat), (1 ≤ l ∧ l ≤ 5) ∧ xA τ 17 (xA τ 16 c) = bb 0 ∧ (∀ i, i < l → 0 ≤ bb i ∧ xA τ 14 (bb i) = nI (lo + i) ∧ xA τ 17 (bb i) = if i + 1 < l then bb (i + 1) else -1) ∧ xA μ 32 (nI p) = nI l ∧ xA μ 35 (nI p) = nI lo ∧ ll 0 = lo + l ∧ hF τ (xA τ 16 c) < hF τ c ∧ ll l ≤ hi ∧ (∀ i, i < l → hF τ (xA τ 16 (bb i)) < hF τ c ∧ ll i ≤ ll (i + 1)) ∧ JK μ R (l + 1) ct (fun i => if i < l then xA τ 16 (bb i) else xA τ 16 c) (fun _ => Sx Sc lo l) ll (fun i => if i < l then ll (i + 1) else hi) q p
def JCase (τ μ : S5) (R : R6) (c : Int32) (q p : Nat) (Sc : Nat → Prop) (lo hi : Nat) : Prop := xA τ 13 c = 6 ∧ xA μ 31 (nI p) = 3 ∧ ∃ (l ct : Nat) (aa : Nat → Int32) (jj ll : Nat → Nat) (Sa : Nat → Nat → Prop), (1 ≤ l ∧ l ≤ 8) ∧ xA τ 17 (xA τ 16 c) = aa 0 ∧ (∀ i, i < l → 0 ≤ aa i ∧ xA τ 17 (aa i) = if i + 1 < l then aa (i + 1) else -1) ∧ (∀ i, i < l → xA μ 43 (nI (ct + 1 + i)) = nI (jj i) ∧ (0 < jj i → xA μ 42 (nI (ct + 1 + i)) = nI (ll i)) ∧ ((xA τ 13 (aa i) = 11 ∧ xA τ 2 (xA τ 14 (aa i)) = nI (jj i) ∧ xA τ 15 (aa i) = nI (ll i)) ∨ (¬ xA τ 13 (aa i) = 11 ∧ jj i = 0))) ∧ (∀ i, i < l → ∀ x, Sa i x → Sc x ∨ (ll i ≤ x ∧ x < ll i + jj i)) ∧ lo ≤ ll 0 ∧ ll l = hi ∧ hF τ (xA τ 16 c) < hF τ c ∧ (∀ i, i < l → hF τ (xA τ 16 (aa i)) < hF τ c ∧ ll i + jj i ≤ ll (i + 1)) ∧ JK μ R (l + 1) ct (fun i => if i = 0 then xA τ 16 c else xA τ 16 (aa (i - 1))) (fun i => if i = 0 then Sc else Sa (i - 1)) (fun i => if i = 0 then lo else ll (i - 1) + jj (i - 1)) ll q p
def JF (τ μ : S5) (F : Nat) (R : R6) (c : Int32) (q p : Nat) (Sc : Nat → Prop) (lo hi : Nat) : Prop := ((q ≤ p ∧ xB μ 5 (nI p) = xB τ 2 c) ∧ p < 7000 ∧ lo ≤ hi ∧ VS τ c Sc lo hi ∧ ∀ x, Sc x → x < lo) ∧ ((lo = hi ∧ JLeaf τ μ F c q p Sc) ∨ JRow τ μ R c q p Sc lo hi ∨ JLet τ μ R c q p Sc lo hi ∨ JCase τ μ R c q p Sc lo hi)
theorem JK.mono {μ : S5} {R R' : R6} (hR : ∀ c q p Sc lo hi, R c q p Sc lo hi → R' c q p Sc lo hi) {k ct : Nat} {cc : Nat → Int32} {Sa : Nat → Nat → Prop} {la lb : Nat → Nat} {q p : Nat} (h : JK μ R k ct cc Sa la lb q p) : JK μ R' k ct cc Sa la lb q p := by
  obtain ⟨qq, pp, a1, a2, a3, a4, a5, a6⟩ := h
  exact ⟨qq, pp, a1, a2, a3, a4, a5, fun i hi => ⟨hR _ _ _ _ _ _ (a6 i hi).1, (a6 i hi).2⟩⟩
theorem JF.mono {τ μ : S5} {F : Nat} {R R' : R6} (hR : ∀ c q p Sc lo hi, R c q p Sc lo hi → R' c q p Sc lo hi) {c : Int32} {q p : Nat} {Sc : Nat → Prop} {lo hi : Nat} (h : JF τ μ F R c q p Sc lo hi) : JF τ μ F R' c q p Sc lo hi := by
  obtain ⟨h1, h2⟩ := h
  refine ⟨h1, ?_⟩
  rcases h2 with h | ⟨k, ct, cc, ll, a, b, c1, d, e, f, g⟩ | ⟨a, b, l, ct, bb, ll, d, e, f, g, i, j, m, n, o, r⟩ | ⟨a, b, l, ct, aa, jj, ll, Sa, d, e, f, g, i, j, m, n, o, r⟩
  · exact Or.inl h
  · exact Or.inr (Or.inl ⟨k, ct, cc, ll, a, b, c1, d, e, f, g.mono hR⟩)
  · exact Or.inr (Or.inr (Or.inl ⟨a, b, l, ct, bb, ll, d, e, f, g, i, j, m, n, o, r.mono hR⟩))
  · exact Or.inr (Or.inr (Or.inr ⟨a, b, l, ct, aa, jj, ll, Sa, d, e, f, g, i, j, m, n, o, r.mono hR⟩))
/-- both trees, and what is seen -/
def JT (τ μ : S5) (F : Nat) (c : Int32) (q p : Nat) (Sc : Nat → Prop) (lo hi : Nat) : Prop := ∀ R : R6, (∀ c q p Sc lo hi, JF τ μ F R c q p Sc lo hi → R c q p Sc lo hi) → R c q p Sc lo hi
theorem JT.fold {τ μ : S5} {F : Nat} {c : Int32} {q p : Nat} {Sc : Nat → Prop} {lo hi : Nat} (h : JF τ μ F (JT τ μ F) c q p Sc lo hi) : JT τ μ F c q p Sc lo hi := fun R hR => hR _ _ _ _ _ _ (h.mono (fun _ _ _ _ _ _ w => w R hR))
theorem JT.ind {τ μ : S5} {F : Nat} {P : R6} (hP : ∀ c q p Sc lo hi, JF τ μ F (fun c q p Sc lo hi => JT τ μ F c q p Sc lo hi ∧ P c q p Sc lo hi) c q p Sc lo hi → P c q p Sc lo hi) {c : Int32} {q p : Nat} {Sc : Nat → Prop} {lo hi : Nat} (h : JT τ μ F c q p Sc lo hi) : P c q p Sc lo hi :=
  (h (fun c q p Sc lo hi => JT τ μ F c q p Sc lo hi ∧ P c q p Sc lo hi) (fun _ _ _ _ _ _ w => ⟨JT.fold (w.mono (fun _ _ _ _ _ _ v => v.1)), hP _ _ _ _ _ _ w⟩)).2
theorem JT.un {τ μ : S5} {F : Nat} {c : Int32} {q p : Nat} {Sc : Nat → Prop} {lo hi : Nat} (h : JT τ μ F c q p Sc lo hi) : JF τ μ F (JT τ μ F) c q p Sc lo hi :=
  JT.ind (P := fun c q p Sc lo hi => JF τ μ F (JT τ μ F) c q p Sc lo hi) (fun _ _ _ _ _ _ w => w.mono (fun _ _ _ _ _ _ v => v.1)) h
/-- BOTH TREES TOGETHER -/
theorem jt_of {τ μ : S5} {F V T : Nat} (hV : V ≤ 40) {c : Int32} {Sc : Nat → Prop} {lo hi : Nat} (h : VS τ c Sc lo hi) : ∀ q p, LT τ μ F V T c q p → (∀ x, Sc x → x < lo) → hi ≤ 40 → JT τ μ F c q p Sc lo hi := by
  refine VS.ind (P := fun c Sc lo hi => ∀ q p, LT τ μ F V T c q p → (∀ x, Sc x → x < lo) → hi ≤ 40 → JT τ μ F c q p Sc lo hi) ?_ h
  clear h
  intro c Sc lo hi v q p ht hS h40
  have qv : VS τ c Sc lo hi := VS.fold (VF_mono (fun _ _ _ _ z => z.1) v)
  have hle := qv.le
  obtain ⟨⟨h1, h1b, h1c, -⟩, -, -, hb5, h5⟩ := ht.un
  have kd : ∀ {x y : Int32}, xA τ 13 c = x → xA τ 13 c = y → ¬ x = y → False := fun a b e => e (a.symm.trans b)
  rcases v with ⟨⟨q0, q1⟩, q16, q2⟩ | ⟨q1, k, cc, ll, q2, q3, q4, q5, ⟨q6, q7, q8, q8'⟩, q9⟩ | ⟨q1, l, bb, ll, q2, q3, q4, q5, q6, ⟨q7, q8, q9⟩, q10, q11⟩ | ⟨q1, l, aa, ll, q2, q3, q4, q5, ⟨q6, q7, q8⟩, q9⟩
  · refine JT.fold ⟨⟨⟨h1, hb5 hV⟩, h1b, hle, qv, hS⟩, Or.inl ?_⟩
    rcases h5 with ⟨a, b, c1, d⟩ | ⟨a, -⟩ | ⟨a, -⟩ | ⟨a, -⟩ | ⟨a, -⟩ | ⟨a, -⟩
    · refine ⟨q0, a, b, ?_⟩
      rcases d with ⟨d1, d2, -⟩ | ⟨d1, d2, -⟩ | ⟨d1, d2, d3⟩ | ⟨d1, d2, x, d3, d4, d5⟩ | ⟨d1, d2⟩
      · exact Or.inl ⟨d1, d2⟩
      · exact Or.inr (Or.inl ⟨d1, d2⟩)
      · exact Or.inr (Or.inr (Or.inl ⟨d1, d2, d3⟩))
      · obtain ⟨y, y1, y2⟩ := q2 d1
        have hy := hS y y2
        have : x = y := nI_injL (by omega) (by omega) (d4.symm.trans y1)
        exact Or.inr (Or.inr (Or.inr (Or.inl ⟨d1, d2, x, d4, d5, by rw [this]; exact y2⟩)))
      · exact Or.inr (Or.inr (Or.inr (Or.inr ⟨d1, d2⟩)))
    all_goals (rw [a] at q1; exact absurd q1 (by decide))
  · have hm := ll_mo (fun i hi => (q9 i hi).1.le)
    have row : ∀ (k' : Nat) (cc' : Nat → Int32), 1 ≤ k' → Chn τ c k' cc' → LKids μ (LT τ μ F V T) k' cc' T q p → ((xA τ 13 c = 5 ∧ xA μ 31 (nI p) = 5 ∧ k = 2) ∨ (xA τ 13 c = 8 ∧ xA μ 31 (nI p) = 6 ∧ xA τ 15 c = nI (k - 1)) ∨ (xA τ 13 c = 9 ∧ xA μ 31 (nI p) = 7)) → JT τ μ F c q p Sc lo hi := by
      intro k' cc' hk' hch hK hkd
      obtain ⟨e1, e2⟩ := ch_uq (τ := τ) q2 hk' (q4.1.symm.trans hch.1) q4.2 hch.2
      subst e1
      obtain ⟨qq, pp, ct, a1, a2, a3, a4, a5, a6⟩ := hK
      refine JT.fold ⟨⟨⟨h1, hb5 hV⟩, h1b, hle, qv, hS⟩, Or.inr (Or.inl ⟨k, ct, cc, ll, hkd, ⟨q2, q3⟩, q4, q5, q6, fun i hi => ⟨q7 i hi, (q9 i hi).1.le⟩, qq, pp, a1, by omega, a3, a4, a5, fun i hi => ?_⟩)⟩
      obtain ⟨b1, b2, b3, b4, b5⟩ := a6 i hi
      have m1 := hm i 0 (by omega) (by omega)
      have m2 := hm k (i + 1) (by omega) (by omega)
      rw [← e2 i hi] at b1
      exact ⟨(q9 i hi).2 _ _ b1 (fun x w => by have := hS x w; omega) (by omega), b2, b3, b4, b5⟩
    rcases h5 with ⟨a, b, c1, d⟩ | ⟨a, b, c1, d, cc', e, f⟩ | ⟨a, b, k', cc', d, e, f, g, i⟩ | ⟨a, b, c1, d, e, k', cc', f, g, i, j, m⟩ | ⟨a, -⟩ | ⟨a, -⟩
    · exfalso
      rcases q1 with w | w | w <;> rcases d with ⟨d1, -⟩ | ⟨d1, -⟩ | ⟨d1, -⟩ | ⟨d1, -⟩ | ⟨d1, -⟩ <;> exact kd w d1 (by decide)
    · exact row 2 cc' (by omega) e f (Or.inl ⟨a, b, q8' a⟩)
    · exact row k' cc' (by omega) g i (Or.inr (Or.inl ⟨a, b, q8 a⟩))
    · exact row k' cc' (by omega) j m (Or.inr (Or.inr ⟨a, b⟩))
    · exfalso
      rcases q1 with w | w | w <;> exact kd w a (by decide)
    · exfalso
      rcases q1 with w | w | w <;> exact kd w a (by decide)
  · have hm := ll_mo (fun i hi => (q11 i hi).1.le)
    have hmk := hm l 0 (by omega) (by omega)
    have hhi := q10.1.le
    have hSx : ∀ x, Sx Sc lo l x → x < lo + l := fun x w => by
      rcases w with w | w
      · have := hS x w; omega
      · omega
    rcases h5 with ⟨a, b, c1, d⟩ | ⟨a, -⟩ | ⟨a, -⟩ | ⟨a, -⟩ | ⟨a, b, l', x0, bb', cc', c0, d, e, f, g, i, j, m, n, o, r⟩ | ⟨a, -⟩
    · exfalso
      rcases d with ⟨d1, -⟩ | ⟨d1, -⟩ | ⟨d1, -⟩ | ⟨d1, -⟩ | ⟨d1, -⟩ <;> exact kd q1 d1 (by decide)
    · exact (kd q1 a (by decide)).elim
    · exact (kd q1 a (by decide)).elim
    · exact (kd q1 a (by decide)).elim
    · obtain ⟨e1, e2⟩ := ch_uq (τ := τ) q2 d (by rw [← q5, j, n]) (fun i hi => ⟨(q6 i hi).1.1, (q6 i hi).2.2⟩) (fun i hi => ⟨(o i hi).1, (o i hi).2.2.2.2.2.2⟩)
      subst e1
      have ex : x0 = lo := by
        have z1 := (q6 0 (by omega)).2.1
        have z2 := (o 0 (by omega)).2.2.1
        rw [← e2 0 (by omega)] at z2
        have := nI_injL (by omega) (by omega) (z1.symm.trans z2)
        omega
      subst ex
      obtain ⟨qq, pp, ct, a1, a2, a3, a4, a5, a6⟩ := r
      refine JT.fold ⟨⟨⟨h1, hb5 hV⟩, h1b, hle, qv, hS⟩, Or.inr (Or.inr (Or.inl ⟨q1, b, l, ct, bb, ll, ⟨q2, q3⟩, q5, fun i hi => ⟨(q6 i hi).1.1, (q6 i hi).2⟩, f, g, q7, q8, hhi, fun i hi => ⟨q9 i hi, (q11 i hi).1.le⟩, qq, pp, a1, by omega, a3, a4, a5, fun i' hi' => ?_⟩))⟩
      obtain ⟨b1, b2, b3, b4, b5⟩ := a6 i' hi'
      refine ⟨?_, b2, b3, b4, b5⟩
      dsimp only at b1 ⊢
      by_cases hil : i' < l
      · have m1 := hm i' 0 (by omega) (by omega)
        have m2 := hm l (i' + 1) (by omega) (by omega)
        rw [if_pos hil] at b1
        rw [if_pos hil, if_pos hil]
        rw [← (o i' hil).2.2.2.1, ← e2 i' hil] at b1
        exact (q11 i' hil).2 _ _ b1 (fun x w => by have := hSx x w; omega) (by omega)
      · have hil' : i' = l := by omega
        subst hil'
        rw [if_neg (by omega)] at b1
        rw [if_neg (by omega), if_neg (by omega)]
        rw [← j] at b1
        exact q10.2 _ _ b1 (fun x w => by have := hSx x w; omega) h40
    · exact (kd q1 a (by decide)).elim
  · rcases h5 with ⟨a, b, c1, d⟩ | ⟨a, -⟩ | ⟨a, -⟩ | ⟨a, -⟩ | ⟨a, -⟩ | ⟨a, b, l', ct, aa', cc', c0, d, e, f, g, i, j, m, n, o, r⟩
    · exfalso
      rcases d with ⟨d1, -⟩ | ⟨d1, -⟩ | ⟨d1, -⟩ | ⟨d1, -⟩ | ⟨d1, -⟩ <;> exact kd q1 d1 (by decide)
    · exact (kd q1 a (by decide)).elim
    · exact (kd q1 a (by decide)).elim
    · exact (kd q1 a (by decide)).elim
    · exact (kd q1 a (by decide)).elim
    · obtain ⟨e1, e2⟩ := ch_uq (τ := τ) q2 d (by rw [← q4, j, n]) (fun i hi => ⟨(q9 i hi).1.1.1, (q9 i hi).1.2⟩) (fun i hi => ⟨(o i hi).1, (o i hi).2.2.2.2.2⟩)
      subst e1
      obtain ⟨jj, hjj⟩ : ∃ jj : Nat → Nat, jj = fun i => if xA τ 13 (aa i) = 11 then (xA τ 2 (xA τ 14 (aa i))).toNatClampNeg else 0 := ⟨_, rfl⟩
      have hj11 : ∀ i, xA τ 13 (aa i) = 11 → jj i = (xA τ 2 (xA τ 14 (aa i))).toNatClampNeg := fun i w => by rw [hjj]; exact if_pos w
      have hjn : ∀ i, ¬ xA τ 13 (aa i) = 11 → jj i = 0 := fun i w => by rw [hjj]; exact if_neg w
      have hal : ∀ i, i < l → ∃ Sci : Nat → Prop, (VS τ (xA τ 16 (aa i)) Sci (ll i + jj i) (ll (i + 1)) ∧ (∀ q p, LT τ μ F V T (xA τ 16 (aa i)) q p → (∀ x, Sci x → x < ll i + jj i) → ll (i + 1) ≤ 40 → JT τ μ F (xA τ 16 (aa i)) q p Sci (ll i + jj i) (ll (i + 1)))) ∧ (∀ x, Sci x → Sc x ∨ (ll i ≤ x ∧ x < ll i + jj i)) ∧ ((xA τ 13 (aa i) = 11 ∧ xA τ 2 (xA τ 14 (aa i)) = nI (jj i) ∧ xA τ 15 (aa i) = nI (ll i)) ∨ (¬ xA τ 13 (aa i) = 11 ∧ jj i = 0)) := fun i hi => by
        rcases (q9 i hi).2 with ⟨r5, j, r6, r7, r8, r9, r4⟩ | ⟨r5, r4⟩
        · have e : jj i = j := by rw [hj11 i r5, r8, nI_clamp (by omega)]
          rw [e]
          exact ⟨_, r4, fun x w => w, Or.inl ⟨r5, r8, r9⟩⟩
        · rw [hjn i r5]
          exact ⟨_, r4, fun x w => Or.inl w, Or.inr ⟨r5, rfl⟩⟩
      obtain ⟨Sa, hSa⟩ := ch_fin (fun _ => True) (P := fun i (Sci : Nat → Prop) => (VS τ (xA τ 16 (aa i)) Sci (ll i + jj i) (ll (i + 1)) ∧ (∀ q p, LT τ μ F V T (xA τ 16 (aa i)) q p → (∀ x, Sci x → x < ll i + jj i) → ll (i + 1) ≤ 40 → JT τ μ F (xA τ 16 (aa i)) q p Sci (ll i + jj i) (ll (i + 1)))) ∧ (∀ x, Sci x → Sc x ∨ (ll i ≤ x ∧ x < ll i + jj i)) ∧ ((xA τ 13 (aa i) = 11 ∧ xA τ 2 (xA τ 14 (aa i)) = nI (jj i) ∧ xA τ 15 (aa i) = nI (ll i)) ∨ (¬ xA τ 13 (aa i) = 11 ∧ jj i = 0))) l hal
      have hmj : ∀ i, i < l → ll i + jj i ≤ ll (i + 1) := fun i hi => (hSa i hi).1.1.le
      have hm := ll_mo (k := l) (ll := ll) (fun i hi => by have := hmj i hi; omega)
      have hmk := hm l 0 (by omega) (by omega)
      have hl0 := q5.1.le
      obtain ⟨qq, pp, ct', a1, a2, a3, a4, a5, a6⟩ := r
      have ect : ct' = ct := nI_injL (by omega) (by omega) (a1.symm.trans g)
      subst ect
      refine JT.fold ⟨⟨⟨h1, hb5 hV⟩, h1b, hle, qv, hS⟩, Or.inr (Or.inr (Or.inr ⟨q1, b, l, ct', aa, jj, ll, Sa, ⟨q2, q3⟩, q4, fun i hi => ⟨(q9 i hi).1.1.1, (q9 i hi).1.2⟩, fun i' hi' => ?_, fun i hi => (hSa i hi).2.1, hl0, q6, q7, fun i hi => ⟨q8 i hi, hmj i hi⟩, qq, pp, a1, by omega, a3, a4, a5, fun i' hi' => ?_⟩))⟩
      · have hla := (o i' hi').2.1
        rw [← e2 i' hi'] at hla
        have m2 := hm l (i' + 1) (by omega) (by omega)
        have m3 := hmj i' hi'
        rcases hla with ⟨k1, k2, k3, k4, k5, j, x0, k6, k7, k8, k9, k10⟩ | ⟨k1, k2, k3, k4, k5, k6⟩ | ⟨k1, k2, k3, k4⟩
        · have e : jj i' = j := by rw [hj11 i' k1, k7, nI_clamp (by omega)]
          refine ⟨by rw [e]; exact k8, fun hj0 => ?_, (hSa i' hi').2.2⟩
          rcases (hSa i' hi').2.2 with ⟨z1, z2, z3⟩ | ⟨z1, z2⟩
          · obtain ⟨y1, y2, y3⟩ := k9 (by omega)
            rw [y2, ← y1, z3]
          · omega
        · have e : jj i' = 0 := hjn i' (by rw [k1]; decide)
          exact ⟨by rw [e]; exact k5, fun hj0 => absurd hj0 (by omega), (hSa i' hi').2.2⟩
        · have e : jj i' = 0 := hjn i' (by rw [k1]; decide)
          exact ⟨by rw [e]; exact k3, fun hj0 => absurd hj0 (by omega), (hSa i' hi').2.2⟩
      · obtain ⟨b1, b2, b3, b4, b5⟩ := a6 i' hi'
        refine ⟨?_, b2, b3, b4, b5⟩
        dsimp only at b1 ⊢
        by_cases hi0 : i' = 0
        · subst hi0
          have b1' : LT τ μ F V T c0 (qq 0) (pp 0) := b1
          rw [← j] at b1'
          exact q5.2 _ _ b1' hS (by omega)
        · obtain ⟨e, rfl⟩ : ∃ e, i' = e + 1 := ⟨i' - 1, by omega⟩
          have m1 := hm e 0 (by omega) (by omega)
          have m2 := hm l (e + 1) (by omega) (by omega)
          rw [if_neg (by omega)] at b1
          rw [if_neg (by omega), if_neg (by omega), if_neg (by omega)]
          rw [show e + 1 - 1 = e by omega] at b1 ⊢
          rw [← (o e (by omega)).2.2.1, ← e2 e (by omega)] at b1
          refine (hSa e (by omega)).1.2 _ _ b1 (fun x w => ?_) (by omega)
          rcases (hSa e (by omega)).2.1 x w with z | z
          · have := hS x z; omega
          · omega
