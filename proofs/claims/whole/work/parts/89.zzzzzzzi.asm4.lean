theorem ch_fin {α : Type} (x0 : α) {P : Nat → α → Prop} : ∀ k, (∀ i, i < k → ∃ x, P i x) → ∃ f : Nat → α, ∀ i, i < k → P i (f i)
  | 0, _ => ⟨fun _ => x0, fun i hi => absurd hi (by omega)⟩
  | k + 1, h => by
    obtain ⟨f, hf⟩ := ch_fin x0 k (fun i hi => h i (by omega))
    obtain ⟨x, hx⟩ := h k (by omega)
    refine ⟨fun i => if i = k then x else f i, fun i hi => ?_⟩
    by_cases e : i = k
    · subst e
      show P i (if i = i then x else f i)
      rw [if_pos rfl]
      exact hx
    · show P i (if i = k then x else f i)
      rw [if_neg e]
      exact hf i (by omega)
theorem tn_mono {a b : Int32} (h : a ≤ b) : a.toNatClampNeg ≤ b.toNatClampNeg := by
  have := Int32.le_iff_toInt_le.mp h
  unfold Int32.toNatClampNeg
  omega
theorem nvF_le {σ ν τr τv : S5} {k U F : Nat} {S : Int32} {sc : Nat → Int32} {cf : Nat → Nat} (hL : LXc σ ν τr τv k U F S sc cf) {f : Nat} (hf : f < F) : nvF σ S sc cf f ≤ 4000 := by
  have hS : S ≤ 630 := hL.1.2.1.2
  have hc8 : cf f ≤ 8 := (hL.2.2.1 f hf).2.2.2.2.1
  have h1 : ∀ n, pre (wO σ (sc f)) n ≤ pre (vC σ) n := by
    intro n
    induction n with
    | zero => exact Nat.le_refl _
    | succ n ih =>
      show pre _ n + wO σ (sc f) n ≤ pre _ n + vC σ n
      have : wO σ (sc f) n ≤ vC σ n := by unfold wO; split <;> omega
      omega
  have h2 : S.toNatClampNeg ≤ 630 := tn_mono hS
  have h3 := vC_le hL.1.1 S.toNatClampNeg (by omega)
  have h4 := h1 S.toNatClampNeg
  unfold nvF prI
  omega
/-- the sizes of a row's items -/
theorem TRow.sz {σ μ : S5} {P : Nat → Int32 → Int32 → Int32 → Int32 → Int32 → Int32 → Int32 → Int32 → Int32 → Prop} {k : Nat} {s s' u u' a b t c : Int32} {gap fs fu fn ft g cc : Nat → Int32} (hi : ∀ i, i < k → Wi s s' u u' a b t c (fs i) (fs (i + 1)) (fu i) (fu (i + 1)) (fn i + gap i) (fn (i + 1)) (ft i) (cc i)) (h0 : fn 0 = a) (hk : fn k = b) (ha : 0 ≤ a) (hab : a ≤ b) (hb : b ≤ 3200) (hgap : ∀ i, gap i = 0 ∨ gap i = 1) : pre (fun i => (fn (i + 1)).toNatClampNeg - (fn i + gap i).toNatClampNeg) k + pre (fun i => (gap i).toNatClampNeg) k + a.toNatClampNeg = b.toNatClampNeg := by
  have := row_sz (gap := gap) (fn := fn) (k := k) (fun i hik => by
    have d := hi i hik
    unfold Wi at d
    have hf : 0 ≤ fn i ∧ fn i ≤ 3200 := by
      by_cases hz : i = 0
      · subst hz; rw [h0]; exact ⟨ha, i_trans hab hb⟩
      · obtain ⟨e, rfl⟩ : ∃ e, i = e + 1 := ⟨i - 1, by omega⟩
        have d' := hi e (by omega)
        unfold Wi at d'
        obtain ⟨-, -, -, -, -, -, y1, y2, y3, -⟩ := d'
        clear d hi
        grind
    obtain ⟨-, -, -, -, -, -, y1, y2, y3, -⟩ := d
    refine ⟨hf.1, ?_, ?_, hgap i⟩
    · clear hi hgap; grind
    · have := hf.2; clear hi hgap; grind) k (Nat.le_refl _)
  rw [h0, hk] at this
  exact this
/-- a row of subtrees -/
theorem TRow.gc {σ ν τr τv τu τp μm : S5} {k0 U F C V : Nat} {S : Int32} {sc : Nat → Int32} {cf : Nat → Nat} (hX : PX σ ν τr τv τu τp k0 U F C S sc cf) {f k : Nat} {h s s' u u' a b t c n1 c1 nn : Int32} {gap : Nat → Int32} (r : TRow σ ν (fun _ s1 s1' u1 u1' a1 b1 t1 n1 c1 => (TR σ ν h s1 s1' u1 u1' a1 b1 t1 n1 c1 ∧ PGc σ ν τp μm U F V C f S sc h s1 s1' u1 u1' a1 b1 t1 n1 c1) ∧ Cx σ ν h s1 u1 a1 t1) k s s' u u' a b t c n1 c1 nn gap) (hgap : ∀ i, gap i = 0 ∨ gap i = 1) (ha0 : 0 ≤ a) (hab : a ≤ b) (hb : b ≤ 3200) (hb9 : b ≤ gI ν 9) (hS : s' ≤ S) (hU : u'.toNatClampNeg ≤ U) (ht0 : 0 ≤ t) (hcC : c < nI C) (hh : xA σ 22 h = sc f) : ∃ (g cc : Nat → Int32) (sz : Nat → Nat), g 0 = n1 ∧ cc 0 = c1 ∧ (∀ i, i < k → GoC τp μm F V f (g i) (cc i) (sz i) ∧ ((0 ≤ g i ∧ g i < 3200) ∧ xA ν 5 (g i) = if i + 1 < k then g (i + 1) else -1) ∧ (0 ≤ cc i ∧ cc i < c ∧ xA σ 17 (cc i) = if i + 1 < k then cc (i + 1) else -1) ∧ xA τp 17 (cc i) = xA σ 17 (cc i) ∧ (xA τp 19 (cc i)).toNatClampNeg ≤ 7000 ∧ ¬ xA τp 13 (cc i) = 10) ∧ pre sz k + pre (fun i => (gap i).toNatClampNeg) k + a.toNatClampNeg = b.toNatClampNeg := by
  obtain ⟨g, cc, fs, fu, fn, ft, p1, p2, p3, p4, p5, p6, ⟨p7, p7'⟩, p8, p9, hi⟩ := r
  refine ⟨g, cc, fun i => (fn (i + 1)).toNatClampNeg - (fn i + gap i).toNatClampNeg, p8, p9, fun i hik => ?_, TRow.sz (σ := σ) (μ := ν) (P := fun _ _ _ _ _ _ _ _ _ _ => True) (g := g) (fun i hik => (hi i hik).2.1) p5 p6 ha0 hab hb hgap⟩
  obtain ⟨⟨⟨d1, d1'⟩, d1''⟩, d2, d3, d4, d5, d6, d7, d8, d9⟩ := hi i hik
  unfold Wi at d2
  obtain ⟨w1, w2, w3, w4, w5, w6, w7, w8, w9, w10, w11, w12⟩ := d2
  clear hi
  have k0 : 0 ≤ cc i := i_trans (i_trans ht0 w10) w11
  have kC : cc i < nI C := by clear d1 d1' d1'' hX; grind
  have kS : fs (i + 1) ≤ S := i_trans w3 hS
  have kU : (fu (i + 1)).toNatClampNeg ≤ U := Nat.le_trans (tn_mono w6) hU
  obtain ⟨fr, -⟩ := hX.2.2.1.2.2.1 (cc i) k0 kC
  have ms := d1.ms hX kC kS d1''.2.1
  refine ⟨d1' kC kS (i_trans w9 hb9) kU d1'' hh, ⟨⟨i_trans (i_trans ha0 w7) d3, by clear d1 d1' d1'' hX; grind⟩, d6⟩, ⟨k0, w12, d7⟩, fr.1, ?_, d1.n10 hX kC kS kU⟩
  have := ms.2.1
  unfold Nn at this
  omega
