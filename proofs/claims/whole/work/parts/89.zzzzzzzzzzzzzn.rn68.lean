/-- a partial application, on both sides -/
theorem pls_iff {τ μ : S5} {F V T : Nat} {pa : Nat → Nat} (hF : F ≤ 630) {c : Int32} {q p : Nat} (h : LTN τ μ F V T c q p) (h8 : xA τ 13 c = 8) : PLs τ pa c ↔ PLm μ pa p := by
  obtain ⟨⟨⟨h1, h1b, h1c, -⟩, -, -, -, h5⟩, -⟩ := h.un
  rcases h5 with ⟨b1, b2, b3, b4⟩ | ⟨b1, -⟩ | ⟨b1, b2, k, cc, b3, b4, b5, b6', b7⟩ | ⟨b1, -⟩ | ⟨b1, -⟩ | ⟨b1, -⟩
  · rcases b4 with ⟨w, _⟩ | ⟨w, _⟩ | ⟨w, _⟩ | ⟨w, _⟩ | ⟨w, _⟩ <;> rw [w] at h8 <;> exact absurd h8 (by decide)
  · rw [b1] at h8; exact absurd h8 (by decide)
  · obtain ⟨qq, pp, e1, -, -, f⟩ := b7.cn (by omega) h1c h1b
    obtain ⟨⟨f1, -⟩, f2, f3, f4, f5⟩ := f 0 (by omega)
    have u := f1.un.1.2.2.2.2
    unfold PLs PLm
    rw [f5, e1, b6'.1, b5]
    constructor
    · rintro ⟨g, m, g1, g2, g3, g4, g5, g6⟩
      rcases u with ⟨-, -, -, w⟩ | ⟨w, -⟩ | ⟨w, -⟩ | ⟨w, -⟩ | ⟨w, -⟩ | ⟨w, -⟩
      · rcases w with ⟨w, _⟩ | ⟨w, _⟩ | ⟨w, w1, x, w2, w3, w4⟩ | ⟨w, _⟩ | ⟨w, _⟩
        · rw [w] at g3; exact absurd g3 (by decide)
        · rw [w] at g3; exact absurd g3 (by decide)
        · have ex : x = g := nI_injL (by omega) (by omega) (w3.symm.trans g4)
          have em : k - 1 = m := nI_injL (by omega) (by omega) g5
          refine ⟨w1, ?_⟩
          rw [w4, nI_clamp (by omega), ex, em]
          exact g6
        · rw [w] at g3; exact absurd g3 (by decide)
        · rw [w] at g3; exact absurd g3 (by decide)
      all_goals rw [w] at g3; exact absurd g3 (by decide)
    · rintro ⟨g1, g2⟩
      rcases u with ⟨-, -, -, w⟩ | ⟨-, w, -⟩ | ⟨-, w, -⟩ | ⟨-, w, -⟩ | ⟨-, w, -⟩ | ⟨-, w, -⟩
      · rcases w with ⟨_, w, _⟩ | ⟨_, w, _⟩ | ⟨w, w1, x, w2, w3, w4⟩ | ⟨_, w, _⟩ | ⟨_, w⟩
        · rw [w] at g1; exact absurd g1 (by decide)
        · rw [w] at g1; exact absurd g1 (by decide)
        · rw [w4, nI_clamp (by omega)] at g2
          exact ⟨x, k - 1, by omega, by omega, w, w3, rfl, g2⟩
        · rw [w] at g1; exact absurd g1 (by decide)
        · rw [w] at g1; exact absurd g1 (by decide)
      all_goals rw [w] at g1; exact absurd g1 (by decide)
  · rw [b1] at h8; exact absurd h8 (by decide)
  · rw [b1] at h8; exact absurd h8 (by decide)
  · rw [b1] at h8; exact absurd h8 (by decide)
/-- what the lifted subtrees' weights are -/
theorem LTN.dr {τ μ : S5} {F V T : Nat} {pa : Nat → Nat} (hF : F ≤ 630) {c : Int32} {q p : Nat} (h : LTN τ μ F V T c q p) : (xA τ 16 c = -1 → wtN (wD μ pa) μ p = 0) ∧ ((xA τ 13 c = 5 ∨ xA τ 13 c = 8 ∨ xA τ 13 c = 9) → ∃ (k : Nat) (cc : Nat → Int32) (qq pp : Nat → Nat), 1 ≤ k ∧ Chn τ c k cc ∧ (∀ i, i < k → LTN τ μ F V T (cc i) (qq i) (pp i)) ∧ wtN (wD μ pa) μ p ≤ k - 1 + pre (fun i => wtN (wD μ pa) μ (pp i)) k ∧ (xA τ 13 c = 8 → PLs τ pa c → wtN (wD μ pa) μ p = pre (fun i => wtN (wD μ pa) μ (pp i)) k)) ∧ (xA τ 13 c = 7 → ∃ (l : Nat) (bb : Nat → Int32) (qq pp : Nat → Nat), 1 ≤ l ∧ xA τ 17 (xA τ 16 c) = bb 0 ∧ (∀ i, i < l → 0 ≤ bb i ∧ xA τ 17 (bb i) = if i + 1 < l then bb (i + 1) else -1) ∧ LTN τ μ F V T (xA τ 16 c) (qq l) (pp l) ∧ (∀ i, i < l → LTN τ μ F V T (xA τ 16 (bb i)) (qq i) (pp i)) ∧ wtN (wD μ pa) μ p = pre (fun i => wtN (wD μ pa) μ (pp i)) (l + 1)) ∧ (xA τ 13 c = 6 → ∃ (l : Nat) (aa : Nat → Int32) (qq pp : Nat → Nat), 1 ≤ l ∧ xA τ 17 (xA τ 16 c) = aa 0 ∧ (∀ i, i < l → 0 ≤ aa i ∧ xA τ 17 (aa i) = if i + 1 < l then aa (i + 1) else -1) ∧ LTN τ μ F V T (xA τ 16 c) (qq 0) (pp 0) ∧ (∀ i, i < l → LTN τ μ F V T (xA τ 16 (aa i)) (qq (i + 1)) (pp (i + 1))) ∧ wtN (wD μ pa) μ p = wtN (wD μ pa) μ (pp 0) + pre (fun i => wtN (wD μ pa) μ (pp (i + 1))) l) := by
  have hw := h.wt (wD μ pa)
  have hpl := fun w => pls_iff (pa := pa) hF h w
  have sd : ∀ (k : Nat) (pp : Nat → Nat), cnN μ p = k → (∀ i, i < k → chN μ p i = pp i) → sdN (wtN (wD μ pa) μ) μ p 0 = pre (fun i => wtN (wD μ pa) μ (pp i)) k := fun k pp e f => by
    unfold sdN
    rw [e, Nat.sub_zero]
    exact pre_cg k (fun i hi => by rw [Nat.zero_add, f i hi])
  obtain ⟨⟨⟨h1, h1b, h1c, -⟩, -, -, -, h5⟩, -⟩ := h.un
  have no : ∀ {x : Int32}, 0 ≤ x → x = -1 → False := fun a b => by rw [b] at a; exact absurd a (by decide)
  rcases h5 with ⟨b1, b2, b3, b4⟩ | ⟨b1, b2, b3, b4, cc, b5, b6⟩ | ⟨b1, b2, k, cc, b3, b4, b5, b6, b7⟩ | ⟨b1, b2, b3, b4, b5, k, cc, b6, b7, b8, b9, b10⟩ | ⟨b1, b2, l, x0, bb, cc, c0, b3, b4, b5, b6, b7, b8, b9, b10, b11, b12⟩ | ⟨b1, b2, l, ct, aa, cc, c0, b3, b4, b5, b6, b7, b8, b9, b10, b11, b12⟩
  · refine ⟨fun _ => ?_, ?_⟩
    · have e0 : cnN μ p = 0 := by unfold cnN; rw [b2]; rfl
      have ew : wD μ pa p = 0 := by
        unfold wD
        rcases b4 with ⟨_, d, _⟩ | ⟨_, d, _⟩ | ⟨_, d, _⟩ | ⟨_, d, _⟩ | ⟨_, d⟩ <;> rw [d, if_neg (by decide), if_neg (fun w => absurd w.1 (by decide))]
      rw [hw, ew]
      unfold sdN
      rw [e0]
      rfl
    · rcases b4 with ⟨d, _⟩ | ⟨d, _⟩ | ⟨d, _⟩ | ⟨d, _⟩ | ⟨d, _⟩ <;> rw [d] <;> exact ⟨fun w => absurd w (by decide), fun w => absurd w (by decide), fun w => absurd w (by decide)⟩
  · refine ⟨fun w => (no (b5.2 0 (by omega)).1 (b5.1.symm.trans w)).elim, fun _ => ?_, fun w => absurd w (by rw [b1]; decide), fun w => absurd w (by rw [b1]; decide)⟩
    obtain ⟨qq, pp, e1, -, -, f⟩ := b6.cn (by omega) h1c h1b
    refine ⟨2, cc, qq, pp, by omega, b5, fun i hi => (f i hi).1.1, ?_, fun w => absurd w (by rw [b1]; decide)⟩
    rw [hw, sd 2 pp e1 (fun i hi => (f i hi).2.2.2.2)]
    unfold wD
    rw [if_pos b2]
    omega
  · refine ⟨fun w => (no (b6.2 0 (by omega)).1 (b6.1.symm.trans w)).elim, fun _ => ?_, fun w => absurd w (by rw [b1]; decide), fun w => absurd w (by rw [b1]; decide)⟩
    obtain ⟨qq, pp, e1, -, -, f⟩ := b7.cn (by omega) h1c h1b
    refine ⟨k, cc, qq, pp, by omega, b6, fun i hi => (f i hi).1.1, ?_, fun w w2 => ?_⟩
    · rw [hw, sd k pp e1 (fun i hi => (f i hi).2.2.2.2)]
      have : wD μ pa p ≤ k - 1 := by
        unfold wD
        rw [if_neg (by rw [b2]; decide)]
        split
        · omega
        · omega
      omega
    · rw [hw, sd k pp e1 (fun i hi => (f i hi).2.2.2.2)]
      have : wD μ pa p = 0 := by
        unfold wD
        rw [if_neg (by rw [b2]; decide), if_neg (fun z => z.2 ((hpl w).mp w2))]
      omega
  · refine ⟨fun w => (no (b9.2 0 (by omega)).1 (b9.1.symm.trans w)).elim, fun _ => ?_, fun w => absurd w (by rw [b1]; decide), fun w => absurd w (by rw [b1]; decide)⟩
    obtain ⟨qq, pp, e1, -, -, f⟩ := b10.cn (by omega) h1c h1b
    refine ⟨k, cc, qq, pp, by omega, b9, fun i hi => (f i hi).1.1, ?_, fun w => absurd w (by rw [b1]; decide)⟩
    rw [hw, sd k pp e1 (fun i hi => (f i hi).2.2.2.2)]
    unfold wD
    rw [if_neg (by rw [b2]; decide), if_neg (fun z => by rw [b2] at z; exact absurd z.1 (by decide))]
    omega
  · refine ⟨fun w => (no b9 (b8.symm.trans w)).elim, fun w => absurd w (by rw [b1]; decide), fun _ => ?_, fun w => absurd w (by rw [b1]; decide)⟩
    obtain ⟨qq, pp, e1, -, -, d⟩ := b12.cn (by omega) h1c h1b
    refine ⟨l, bb, qq, pp, b3, by rw [b8]; exact b10, fun i hi => ⟨(b11 i hi).1, (b11 i hi).2.2.2.2.2.2⟩, ?_, fun i hi => ?_, ?_⟩
    · have := (d l (by omega)).1.1
      rw [if_neg (by omega)] at this
      rw [b8]
      exact this
    · have := (d i (by omega)).1.1
      rw [if_pos hi] at this
      rw [(b11 i hi).2.2.2.1]
      exact this
    · rw [hw, sd _ pp e1 (fun i hi => (d i hi).2.2.2.2)]
      unfold wD
      rw [if_neg (by rw [b2]; decide), if_neg (fun z => by rw [b2] at z; exact absurd z.1 (by decide)), Nat.zero_add]
  · refine ⟨fun w => (no b9 (b8.symm.trans w)).elim, fun w => absurd w (by rw [b1]; decide), fun w => absurd w (by rw [b1]; decide), fun _ => ?_⟩
    obtain ⟨qq, pp, e1, -, -, d⟩ := b12.cn (by omega) h1c h1b
    refine ⟨l, aa, qq, pp, b3, by rw [b8]; exact b10, fun i hi => ⟨(b11 i hi).1, (b11 i hi).2.2.2.2.2⟩, ?_, fun i hi => ?_, ?_⟩
    · have := (d 0 (by omega)).1.1
      rw [if_pos rfl] at this
      rw [b8]
      exact this
    · have := (d (i + 1) (by omega)).1.1
      rw [if_neg (by omega), show i + 1 - 1 = i by omega] at this
      rw [(b11 i hi).2.2.1]
      exact this
    · rw [hw, sd _ pp e1 (fun i hi => (d i hi).2.2.2.2), pre_l]
      unfold wD
      rw [if_neg (by rw [b2]; decide), if_neg (fun z => by rw [b2] at z; exact absurd z.1 (by decide)), Nat.zero_add]
      congr 1
      exact pre_cg l (fun i _ => by rw [Nat.add_comm])
theorem wp_s {σ : S5} {c : Int32} (c0 : 0 ≤ c) (c6 : c < 6200) : prI (wp σ) (c + 1) = prI (wp σ) c + if 10 ≤ xA σ 13 c ∧ xA σ 13 c ≤ 13 then 0 else 1 := by
  rw [prI_s _ c0 (i_lt_le c6 (by decide))]
  unfold wp
  rw [← nI_tn c0]
theorem pre_00 : ∀ n, pre (fun _ => 0) n = 0
  | 0 => rfl
  | n + 1 => by
    show pre _ n + 0 = 0
    rw [pre_00 n]
theorem tel_d {X : Nat → Nat} {Y : Nat → Nat} {k : Nat} (h : ∀ i, i < k → Y i + X i + 1 ≤ Y (i + 1)) : Y 0 + pre X k + k ≤ Y k := by
  have : ∀ i, i ≤ k → Y 0 + pre X i + i ≤ Y i := by
    intro i
    induction i with
    | zero => intro _; exact Nat.le_refl _
    | succ i ih =>
      intro hi
      have h1 := ih (by omega)
      have h2 := h i (by omega)
      show Y 0 + (pre X i + X i) + (i + 1) ≤ _
      omega
  exact this k (Nat.le_refl _)
/-- a function within pushes nothing -/
theorem TFun.dt {σ ν τr τv τu τp τ2 μ2 : S5} {k U F C V T : Nat} {S : Int32} {sc : Nat → Int32} {cf pa : Nat → Nat} (hX : PX σ ν τr τv τu τp k U F C S sc cf) (h2 : TR2 τp τ2) (hpa : ∀ f, f < F → pa f = paF σ sc cf f) {R : R10} {h s s' u u' n b t c : Int32} (q : TFun σ ν R h s s' u u' n b t c) (hc0 : 0 ≤ c) (hc6 : c < 6200) (hcC : c < nI C) (hs0 : 0 ≤ s) (hs7 : s' ≤ 700) (hs : s' ≤ S) (htc : t ≤ c) : ∀ q p, LTN τ2 μ2 F V T c q p → prI (wp σ) t + wtN (wD μ2 pa) μ2 p + 1 ≤ prI (wp σ) (c + 1) := by
  obtain ⟨hL, hPU, hPN, h8, hC⟩ := id hX
  obtain ⟨fr, fm⟩ := hPN.2.2.1 c hc0 hcC
  obtain ⟨e1, e2, e3, e4, e5, e6, e7, e8, e9, c2, e10, e11, e12, e13, e14⟩ := q
  have hle : s ≤ s' := i_trans e13.1 e13.2.1
  have hsS : s < S := su_lt e9 hle hs7 hs
  obtain ⟨g, g1, g2, g3⟩ := hX.of hs0 hsS e5
  have hF6 : F ≤ 630 := hL.1.2.2.2.1
  have qF := fr.2.2.2.2.2 e1 g g1 (by rw [e2, g2])
  intro q p hl
  have hm := prM (w := wp σ) htc
  rw [wp_s hc0 hc6, if_neg (fun w => by rw [e1] at w; exact absurd w.2 (by decide))]
  have key : wtN (wD μ2 pa) μ2 p = 0 := by
    by_cases hz : cf g = 0
    · obtain ⟨q1, q2, q3⟩ := qF.1 hz
      exact (hl.dr hF6).1 (by rw [h2.1 16 c (by decide)]; exact q3)
    · obtain ⟨n0, g', ⟨q1, q2⟩, q3, q4, q5, q6, q7, q8, q9⟩ := qF.2 hz
      have hc8 : cf g ≤ 8 := (hL.2.2.1 g g1).2.2.2.2.1
      have hn0' : n0 + cf g + 1 ≤ 6100 := by
        have w1 := hL.2.2.2.2.2.2.2.2.2.2.2
        rw [h8, nI_clamp (by omega)] at w1
        have w2 : pre (wlN σ τr cf) (c.toNatClampNeg + 1) ≤ prI (wlN σ τr cf) (nI C) := by
          have := prM (w := wlN σ τr cf) (x := c + 1) (y := nI C) (i_su hcC)
          unfold prI at this
          rw [tn_s hc0 (i_lt_le hc6 (by decide))] at this
          exact this
        omega
      have k8 : xA τ2 13 c = 8 := by rw [h2.1 13 c (by decide)]; exact q5
      have e16 : xA τ2 16 c = nI n0 := by rw [h2.1 16 c (by decide)]; exact q8
      have l0 := q9 0 (by omega)
      rw [Nat.add_zero] at l0
      have lpa : cf g < pa g := by
        rw [hpa g g1]
        unfold paF
        rw [g2, e7.1]
        have h1 := i_lt (a := 0) (by decide) e8
        have h0 : (0 : Int32).toNatClampNeg = 0 := rfl
        omega
      have hpl : PLs τ2 pa c := by
        refine ⟨g, cf g, by omega, hc8, ?_, ?_, by rw [h2.1 15 c (by decide)]; exact q7, lpa⟩
        · rw [e16, h2.1 13 _ (by decide), l0.1]
          rfl
        · rw [e16, h2.2.1 _ (by rw [l0.1]; decide), l0.2.1]
          rfl
      obtain ⟨k', cc, qq, pp, r1, r2, r3, -, r4⟩ := (hl.dr (pa := pa) hF6).2.1 (Or.inr (Or.inl k8))
      rw [r4 k8 hpl]
      obtain ⟨u1, u2⟩ := ch_uq (τ := τ2) (k := cf g + 1) (a := fun p => nI (n0 + p)) (by omega) r1 (by rw [← r2.1, e16]; rfl) (fun i hi => ⟨i_le0 (nI_nneg (by omega)), by
        rw [h2.1 17 _ (by decide), (q9 i (by omega)).2.2.2.1]
        by_cases hi2 : i < cf g
        · rw [if_pos hi2, if_pos (by omega)]
          rfl
        · rw [if_neg hi2, if_neg (by omega)]⟩) r2.2
      have := pre_cg (w := fun i => wtN (wD μ2 pa) μ2 (pp i)) (w' := fun _ => 0) k' (fun i hi => by
        refine ((r3 i hi).dr hF6).1 ?_
        rw [h2.1 16 _ (by decide), ← u2 i (by omega)]
        exact (q9 i (by omega)).2.2.1)
      rw [this]
      exact pre_00 k'
  omega
/-- THE VALUES THAT A SUBTREE MAY PUSH ARE FEWER THAN ITS PARTS -/
theorem TR.dt {σ ν τr τv τu τp τ2 μ2 : S5} {k0 U F C V T : Nat} {S : Int32} {sc : Nat → Int32} {cf pa : Nat → Nat} (hX : PX σ ν τr τv τu τp k0 U F C S sc cf) (h2 : TR2 τp τ2) (hpa : ∀ f, f < F → pa f = paF σ sc cf f) {h s s' u u' a b t n c : Int32} (q : TR σ ν h s s' u u' a b t n c) : c < nI C → s' ≤ S → ∀ q p, LTN τ2 μ2 F V T c q p → prI (wp σ) t + wtN (wD μ2 pa) μ2 p + 1 ≤ prI (wp σ) (c + 1) := by
  refine TR.ind (P := fun h s s' u u' a b t n c => c < nI C → s' ≤ S → ∀ q p, LTN τ2 μ2 F V T c q p → prI (wp σ) t + wtN (wD μ2 pa) μ2 p + 1 ≤ prI (wp σ) (c + 1)) ?_ q
  clear q
  intro h s s' u u' a b t n c q hcC hS
  obtain ⟨hb, q⟩ := q
  unfold Bd at hb
  obtain ⟨b1, b2, b3, b4, b5, b6, b7, b8, b9, b10, b11, b12, b13, b14⟩ := hb
  have hL := hX.1
  have hc0 : 0 ≤ c := i_trans b12 b13
  have hs0 : 0 ≤ s := i_trans b1 (i_le_of_lt b2)
  have h17 : ∀ x, 0 ≤ x → x < nI C → xA τ2 17 x = xA σ 17 x := fun x x0 x1 => (h2.1 17 x (by decide)).trans (hX.2.2.1.2.2.1 x x0 x1).1.1
  have fr := @PX.fr σ ν τr τv τu τp k0 U F C S sc cf hX c hc0 hcC
  have hF6 : F ≤ 630 := hL.1.2.2.2.1
  have e13 : ∀ x, xA τ2 13 x = xA τp 13 x := fun x => h2.1 13 x (by decide)
  have e16 : ∀ x, xA τ2 16 x = xA τp 16 x := fun x => h2.1 16 x (by decide)
  have up : prI (wp σ) c ≤ prI (wp σ) (c + 1) := by rw [wp_s hc0 b14]; omega
  -- a row of children
  have row : ∀ (k : Nat) (cc ft : Nat → Int32), (xA τ2 13 c = 5 ∨ xA τ2 13 c = 8 ∨ xA τ2 13 c = 9) → 1 ≤ k → Chn τ2 c k cc → ft 0 = t → ft k = c → (∀ i, i < k → (∀ q p, LTN τ2 μ2 F V T (cc i) q p → prI (wp σ) (ft i) + wtN (wD μ2 pa) μ2 p + 1 ≤ prI (wp σ) (cc i + 1)) ∧ ft (i + 1) = cc i + 1) → ∀ q p, LTN τ2 μ2 F V T c q p → prI (wp σ) t + wtN (wD μ2 pa) μ2 p + 1 ≤ prI (wp σ) (c + 1) := by
    intro k cc ft hk k1 hch f0 fk hi q p hl
    obtain ⟨k', cc', qq, pp, r1, r2, r3, r4, -⟩ := (hl.dr (pa := pa) hF6).2.1 hk
    obtain ⟨u1, u2⟩ := ch_uq (τ := τ2) k1 r1 (hch.1.symm.trans r2.1) hch.2 r2.2
    subst u1
    have := tel_d (X := fun i => wtN (wD μ2 pa) μ2 (pp i)) (Y := fun i => prI (wp σ) (ft i)) (k := k) (fun i hik => by
      obtain ⟨y1, y2⟩ := hi i hik
      have s1 := r3 i hik
      rw [← u2 i hik] at s1
      show prI (wp σ) (ft i) + wtN (wD μ2 pa) μ2 (pp i) + 1 ≤ prI (wp σ) (ft (i + 1))
      rw [y2]
      exact y1 _ _ s1)
    rw [f0, fk] at this
    omega
  rcases q with q | q | q | q | q | q | q
  · obtain ⟨e1, e2, e3, e4, e5, e6, e7⟩ := q
    have hn14 : ¬ xA σ 13 c = 14 := by rcases e7 with ⟨_, w, _⟩ | ⟨_, ⟨_, w, _⟩ | ⟨_, w, _⟩ | ⟨_, w⟩⟩ <;> rw [w] <;> decide
    have hn10 : ¬ 10 ≤ xA σ 13 c := by rcases e7 with ⟨_, w, _⟩ | ⟨_, ⟨_, w, _⟩ | ⟨_, w, _⟩ | ⟨_, w⟩⟩ <;> rw [w] <;> decide
    intro q p hl
    have h0 := (hl.dr (pa := pa) hF6).1 (by rw [e16, ((hX.2.2.1.2.2.1 c hc0 hcC).1.2.1 hn14).2.1]; exact e5)
    rw [h0, wp_s hc0 b14, if_neg (fun w => hn10 w.1), e4]
    exact Nat.le_refl _
  · obtain ⟨e1, e2, e3, e4, e5, c1, c2, s1, u1, e6, e7, e8, e9, e10, e11, e12, e13'⟩ := q
    unfold Wi at e7 e9
    obtain ⟨t13, -, -, t16, -⟩ := fr (by rw [e3]; decide) (by rw [e3]; decide)
    have kC1 : c1 < nI C := by clear e6 e8 hX fr row; grind
    have k01 : 0 ≤ c1 := by clear e6 e8 hX fr row; grind
    have kC2 : c2 < nI C := by clear e6 e8 hX fr row; grind
    have k02 : 0 ≤ c2 := by clear e6 e8 hX fr row; grind
    refine row 2 (fun i => if i = 0 then c1 else c2) (fun i => if i = 0 then t else if i = 1 then c1 + 1 else c) (Or.inl (by rw [e13, t13]; exact e3)) (by omega) ⟨by rw [e16, t16]; exact e11, fun i hi => ?_⟩ rfl rfl (fun i hi => ?_)
    · have hi : i = 0 ∨ i = 1 := by omega
      rcases hi with rfl | rfl
      · exact ⟨k01, (h17 c1 k01 kC1).trans e12⟩
      · exact ⟨k02, (h17 c2 k02 kC2).trans e13'⟩
    · have hi : i = 0 ∨ i = 1 := by omega
      rcases hi with rfl | rfl
      · exact ⟨e6.2 kC1 (i_trans e7.2.2.1 hS), rfl⟩
      · exact ⟨e8.2 kC2 hS, e10⟩
  · obtain ⟨e1, e2, e3, k, e4, e5, e6, e7⟩ := q
    obtain ⟨g, cc, fs, fu, fn, ft, p1, p2, p3, p4, p5, p6, ⟨p7, p7'⟩, p8, p9, hi⟩ := e7
    obtain ⟨t13, -, t15, t16, -⟩ := fr (by rw [e3]; decide) (by rw [e3]; decide)
    refine row k cc ft (Or.inr (Or.inl (by rw [e13, t13]; exact e3))) (by omega) ⟨by rw [e16, t16]; exact p9.symm, fun i hik => ?_⟩ p7 p7' (fun i hik => ?_)
    · obtain ⟨d1, d2, d3, d4, d5, d6, d7, d8, d9⟩ := hi i hik
      unfold Wi at d2
      have k0 : 0 ≤ cc i := by clear hi d1 hX fr row; grind
      have kC : cc i < nI C := by clear hi d1 hX fr row; grind
      exact ⟨k0, (h17 _ k0 kC).trans d7⟩
    · obtain ⟨d1, d2, d3, d4, d5, d6, d7, d8, d9⟩ := hi i hik
      unfold Wi at d2
      exact ⟨d1.2 (by clear hi d1 hX fr row; grind) (i_trans d2.2.2.1 hS), d5⟩
  · obtain ⟨e1, e2, e3, e4, e5, e6, e7, k, e8, e9, e10, e11⟩ := q
    obtain ⟨g, cc, fs, fu, fn, ft, p1, p2, p3, p4, p5, p6, ⟨p7, p7'⟩, p8, p9, hi⟩ := e11
    obtain ⟨t13, -, -, t16, -⟩ := fr (by rw [e3]; decide) (by rw [e3]; decide)
    refine row k cc ft (Or.inr (Or.inr (by rw [e13, t13]; exact e3))) (by omega) ⟨by rw [e16, t16]; exact p9.symm, fun i hik => ?_⟩ p7 p7' (fun i hik => ?_)
    · obtain ⟨d1, d2, d3, d4, d5, d6, d7, d8, d9⟩ := hi i hik
      unfold Wi at d2
      have k0 : 0 ≤ cc i := by clear hi d1 hX fr row; grind
      have kC : cc i < nI C := by clear hi d1 hX fr row; grind
      exact ⟨k0, (h17 _ k0 kC).trans d7⟩
    · obtain ⟨d1, d2, d3, d4, d5, d6, d7, d8, d9⟩ := hi i hik
      unfold Wi at d2
      exact ⟨d1.2 (by clear hi d1 hX fr row; grind) (i_trans d2.2.2.1 hS), d5⟩
  · exact q.2.2.dt hX h2 hpa hc0 b14 hcC hs0 b4 hS b13
  · obtain ⟨e1, e2, e3, e4, e5, e6, e7, e8, k, s1, u1, a1, t1, c0, e9, e10, e11, e12, e13', e14, e15, e16', e17, e18, e19, e20⟩ := q
    unfold Wi at e20
    obtain ⟨v1, v2, v3, v4, v5, v6, v7, v8, v9, v10, v11, v12⟩ := e20
    obtain ⟨g, bb, fs, fu, fn, ft, p1, p2, p3, p4, p5, p6, ⟨p7, p7'⟩, p8, p9, hi⟩ := e14
    have kC0 : c0 < nI C := by clear e19 hi hX fr row; grind
    have k00 : 0 ≤ c0 := by clear e19 hi hX fr row; grind
    obtain ⟨t13, -, -, t16, -⟩ := fr (by rw [e4]; decide) (by rw [e4]; decide)
    have ec : xA τ2 16 c = c0 := (e16 c).trans (t16.trans e12)
    have hk7 : xA τ2 13 c = 7 := (e13 c).trans (t13.trans e4)
    -- a binding
    have bd1 : ∀ i, i < k → (0 ≤ bb i ∧ xA τ2 17 (bb i) = if i + 1 < k then bb (i + 1) else -1) ∧ (∀ q p, LTN τ2 μ2 F V T (xA τ2 16 (bb i)) q p → prI (wp σ) (ft i) + wtN (wD μ2 pa) μ2 p + 1 ≤ prI (wp σ) (ft (i + 1))) := fun i hik => by
      obtain ⟨d1, d2, d3, d4, d5, d6, d7, d8, d9⟩ := hi i hik
      unfold Wi at d2
      obtain ⟨w1, w2, w3, w4, w5, w6, w7, w8, w9, w10, w11, w12⟩ := d2
      obtain ⟨f1, f2, f3, f4, f5, c1, f6, f7, f8, f9⟩ := d1
      clear hi
      have kb0 : 0 ≤ bb i := by clear f9 e19 hX fr row; grind
      have kbC : bb i < nI C := by clear f9 e19 hX fr row; grind
      have kb6 : bb i < 6200 := by clear f9 e19 hX fr row; grind
      obtain ⟨tb13, -, -, tb16, -⟩ := hX.fr kb0 kbC (by rw [f3]; decide) (by rw [f3]; decide)
      have y4 : fs (i + 1) ≤ S := i_trans (i_trans w3 v2) hS
      have y5 : fs (i + 1) ≤ 700 := i_trans (i_trans w3 v2) b4
      have y7 : 0 ≤ fs i := by clear f9 e19 hX fr row; grind
      have hwb : prI (wp σ) (bb i + 1) = prI (wp σ) (bb i) := by rw [wp_s kb0 kb6, if_pos (by rw [f3]; decide)]; rfl
      refine ⟨⟨kb0, (h17 _ kb0 kbC).trans d7⟩, ?_⟩
      rw [e16, tb16, f6, d5, hwb, f8]
      rcases f9 with ⟨g1, g2, g3⟩ | g1
      · have kc : c1 < nI C := by
          have := g2.1.c
          clear g2 e19 hX fr row
          grind
        exact g2.2 kc y4
      · have k4 : (0 ≤ c1 ∧ c1 < bb i) ∧ ft i ≤ c1 := by
          obtain ⟨g1, g2, g3, g4, g5, g6, g7, g8, g9, c9, g10, g11, g12, g13, g14⟩ := g1
          have := g12.1.c
          unfold Wi at g13
          clear e19 hX fr row g12
          grind
        exact g1.dt hX h2 hpa k4.1.1 (i_lt_le k4.1.2 (i_le_of_lt kb6)) (i_lt_le k4.1.2 (i_le_of_lt kbC)) y7 y5 y4 k4.2
    have hb1 := e19.2 kC0 hS
    intro q p hl
    obtain ⟨l, bb', qq, pp, r1, r2, r3, r4, r5, r6⟩ := (hl.dr (pa := pa) hF6).2.2.1 hk7
    obtain ⟨m1, m2⟩ := ch_uq (τ := τ2) e9 r1 (by rw [← r2, ec, h17 c0 k00 kC0, p9]) (fun i hik => (bd1 i hik).1) r3
    subst m1
    have T1 := tel_d (X := fun i => wtN (wD μ2 pa) μ2 (pp i)) (Y := fun i => prI (wp σ) (ft i)) (k := k) (fun i hik => by
      have x1 := r5 i hik
      rw [← m2 i hik] at x1
      exact (bd1 i hik).2 _ _ x1)
    rw [p7, p7'] at T1
    rw [ec] at r4
    have T2 := hb1 _ _ r4
    rw [← e13'] at T2
    rw [r6]
    show _ + (pre (fun i => wtN (wD μ2 pa) μ2 (pp i)) k + wtN (wD μ2 pa) μ2 (pp k)) + 1 ≤ _
    omega
  · obtain ⟨e1, e2, e3, e4, k, s1, u1, a1, c0, e9, e10, e11, e12, e13', e14, e15, e16', e17⟩ := q
    unfold Wi at e13'
    obtain ⟨v1, v2, v3, v4, v5, v6, v7, v8, v9, v10, v11, v12⟩ := e13'
    obtain ⟨g, bb, fs, fu, fn, ft, p1, p2, p3, p4, p5, p6, ⟨p7, p7'⟩, p8, p9, hi⟩ := e14
    have kC0 : c0 < nI C := by clear e12 hi hX fr row; grind
    have k00 : 0 ≤ c0 := by clear e12 hi hX fr row; grind
    obtain ⟨t13, -, -, t16, -⟩ := fr (by rw [e4]; decide) (by rw [e4]; decide)
    have ec : xA τ2 16 c = c0 := (e16 c).trans (t16.trans e11)
    have hk6 : xA τ2 13 c = 6 := (e13 c).trans (t13.trans e4)
    have bd1 : ∀ i, i < k → (0 ≤ bb i ∧ xA τ2 17 (bb i) = if i + 1 < k then bb (i + 1) else -1) ∧ (∀ q p, LTN τ2 μ2 F V T (xA τ2 16 (bb i)) q p → prI (wp σ) (ft i) + wtN (wD μ2 pa) μ2 p + 1 ≤ prI (wp σ) (ft (i + 1))) := fun i hik => by
      obtain ⟨d1, d2, d3, d4, d5, d6, d7, d8, d9⟩ := hi i hik
      unfold Wi at d2
      obtain ⟨w1, w2, w3, w4, w5, w6, w7, w8, w9, w10, w11, w12⟩ := d2
      obtain ⟨f1, f2, c1, f6, f7, f8, f9⟩ := d1
      clear hi
      have kb0 : 0 ≤ bb i := by clear f9 e12 hX fr row; grind
      have kbC : bb i < nI C := by clear f9 e12 hX fr row; grind
      have kb6 : bb i < 6200 := by clear f9 e12 hX fr row; grind
      have y4 : fs (i + 1) ≤ S := i_trans w3 hS
      have kd : xA σ 13 (bb i) = 11 ∨ xA σ 13 (bb i) = 12 ∨ xA σ 13 (bb i) = 13 := by
        rcases f9 with ⟨g1, g2, -⟩ | ⟨g1, g2, g3, g4⟩
        · exact Or.inl g2
        · rcases g2 with ⟨_, w, _⟩ | ⟨_, w⟩
          · exact Or.inr (Or.inl w)
          · exact Or.inr (Or.inr w)
      obtain ⟨tb13, -, -, tb16, -⟩ := hX.fr kb0 kbC (by rcases kd with w | w | w <;> rw [w] <;> decide) (by rcases kd with w | w | w <;> rw [w] <;> decide)
      have hwb : prI (wp σ) (bb i + 1) = prI (wp σ) (bb i) := by rw [wp_s kb0 kb6, if_pos (by rcases kd with w | w | w <;> rw [w] <;> decide)]; rfl
      refine ⟨⟨kb0, (h17 _ kb0 kbC).trans d7⟩, ?_⟩
      rw [e16, tb16, f6, d5, hwb, f8]
      rcases f9 with ⟨g1, g2, g3, g4, g5, g6, g7, g8, g9, g10, g11, g12, g13⟩ | ⟨g1, g2, g3, g4⟩
      · have kc : c1 < nI C := by
          have := g12.1.c
          clear g12 e12 hX fr row
          grind
        exact g12.2 kc y4
      · have kc : c1 < nI C := by
          have := g3.1.c
          clear g3 e12 hX fr row
          grind
        exact g3.2 kc y4
    have hb1 := e12.2 kC0 (i_trans v3 hS)
    intro q p hl
    obtain ⟨l, bb', qq, pp, r1, r2, r3, r4, r5, r6⟩ := (hl.dr (pa := pa) hF6).2.2.2 hk6
    obtain ⟨m1, m2⟩ := ch_uq (τ := τ2) e9 r1 (by rw [← r2, ec, h17 c0 k00 kC0, p9]) (fun i hik => (bd1 i hik).1) r3
    subst m1
    have T1 := tel_d (X := fun i => wtN (wD μ2 pa) μ2 (pp (i + 1))) (Y := fun i => prI (wp σ) (ft i)) (k := k) (fun i hik => by
      have x1 := r5 i hik
      rw [← m2 i hik] at x1
      exact (bd1 i hik).2 _ _ x1)
    rw [p7, p7'] at T1
    rw [ec] at r4
    have T2 := hb1 _ _ r4
    rw [r6]
    omega
/-- VALUES -/
theorem dst_of {τ μ : S5} {F T : Nat} {pa nv : Nat → Nat} (hF : F ≤ 630) (hr : ∀ f, f < F → wtN (wD μ pa) μ (xA μ 45 (nI f)).toNatClampNeg ≤ 600) : DSt τ μ F T pa nv (wtN (wD μ pa) μ) := by
  refine ⟨fun f c p Sc hN => ?_, hr⟩
  obtain ⟨-, q, lo, hi, ⟨h, -⟩, -⟩ := hN
  have hw := h.wt (wD μ pa)
  have hpl := fun w => pls_iff (pa := pa) hF h w
  have u := h.un.1.2.2.2.2
  refine ⟨fun h5 => ?_, fun h8 hn => ?_, by omega⟩
  · have : xA μ 31 (nI p) = 5 := by
      rcases u with ⟨-, -, -, w⟩ | ⟨-, w, -⟩ | ⟨w, -⟩ | ⟨w, -⟩ | ⟨w, -⟩ | ⟨w, -⟩
      · rcases w with ⟨w, _⟩ | ⟨w, _⟩ | ⟨w, _⟩ | ⟨w, _⟩ | ⟨w, _⟩ <;> rw [w] at h5 <;> exact absurd h5 (by decide)
      · exact w
      all_goals rw [w] at h5; exact absurd h5 (by decide)
    have e : wD μ pa p = 1 := by unfold wD; rw [if_pos this]
    omega
  · have : xA μ 31 (nI p) = 6 := by
      rcases u with ⟨-, -, -, w⟩ | ⟨w, -⟩ | ⟨-, w, -⟩ | ⟨w, -⟩ | ⟨w, -⟩ | ⟨w, -⟩
      · rcases w with ⟨w, _⟩ | ⟨w, _⟩ | ⟨w, _⟩ | ⟨w, _⟩ | ⟨w, _⟩ <;> rw [w] at h8 <;> exact absurd h8 (by decide)
      · rw [w] at h8; exact absurd h8 (by decide)
      · exact w
      all_goals rw [w] at h8; exact absurd h8 (by decide)
    have e : wD μ pa p = cnN μ p - 1 := by unfold wD; rw [if_neg (by rw [this]; decide), if_pos ⟨this, fun z => hn ((hpl h8).mpr z)⟩]
    omega
