/-- an application -/
theorem gt_app {σ τr μ0 : S5} {k F : Nat} {S : Int32} {D : Int32 → Nat} {h s s' u u' a b t c n c1 : Int32} (hn0 : 0 ≤ n) (hn1 : n < 3200) (h19 : xA μ0 19 n = -1) (h10 : xA μ0 10 n = 0) (hk : xA μ0 2 n = 6) (ha0 : 0 ≤ a) (ha : a ≤ n) (hb0 : n < b) (hb : b ≤ 3200) (hu : 0 ≤ u) {l : Nat} (hl1 : 2 ≤ l) (hl : l ≤ 6) {P : Nat → Int32 → Int32 → Int32 → Int32 → Int32 → Int32 → Int32 → Int32 → Int32 → Prop} (hR : TRow σ μ0 P l s s' u u' a b t c (xA μ0 3 n) c1 n appGap) (hP : ∀ i s1 s1' u1 u1' a1 b1 t1 n1 c1, i < l → P i s1 s1' u1 u1' a1 b1 t1 n1 c1 → Wi s s' u u' a b t c s1 s1' u1 u1' a1 b1 t1 c1 → GoT σ τr μ0 k F S D h s1 s1' u1 u1' a1 b1 n1) : GoT σ τr μ0 k F S D h s s' u u' a b n := by
  intro v m top d B τ μ q hv hm
  obtain ⟨g, cc, fs, fu, fn, ft, e1, e2, e3, e4, e5, e6, e7, e8, e9, hi⟩ := hR
  have lb : n.toNatClampNeg < b.toNatClampNeg := i_lt (not_neg hn0) hb0
  have la : a.toNatClampNeg ≤ n.toNatClampNeg := i_le ha
  have hv2 : v < 3200 := by omega
  have hk2 : ¬ xA μ0 2 n = 0 ∧ ¬ xA μ0 2 n = 8 := by rw [hk]; decide
  have hg01 : ∀ i, appGap i = 0 ∨ appGap i = 1 := by
    intro i
    unfold appGap
    by_cases h1 : i = 1
    · rw [if_pos h1]; exact Or.inr rfl
    · rw [if_neg h1]; exact Or.inl rfl
  have hr : ∀ i, i < l → 0 ≤ fn i ∧ fn i ≤ g i ∧ fn i + appGap i ≤ g i ∧ g i < fn (i + 1) ∧ fn (i + 1) ≤ b ∧ 0 ≤ fu i ∧ fu i ≤ fu (i + 1) ∧ xA μ0 5 (g i) = (if i + 1 < l then g (i + 1) else -1) := by
    intro i hil
    obtain ⟨d1, d2, d3, d4, d5, d6, d7, d8, d9⟩ := hi i hil
    obtain ⟨z1, z2, z3, z4, z5, z6, z7⟩ := rw_of (nn := n) d2 rfl (hg01 i) d3 d4 d8 ha0 hb hu hn0 hn1
    exact ⟨z1, z2, z3, z4, z5, z6, z7, d6⟩
  have hf1 : fn 1 = n := (hi 1 (by omega)).2.2.2.2.2.2.2.1 rfl
  obtain ⟨ν, i1, i2, i3, i4, -⟩ := gt_in (n := n) (r := xA μ0 3 n) q hv2 hn0 hn1 ha ha0 h19 h10 hk2.1 hk2.2 (by rw [ba_row hv2 hn0 hn1 (by rw [q.1.x 2 _ (by omega)]; exact Or.inr (Or.inr (Or.inl hk))), q.1.x 3 _ (by omega)])
  have z1 := i2
  rw [← e1, ← e3, ← e5] at z1
  rw [← e8, show (0 : Int32) = nI (0 + 0) from rfl] at i3
  have gz : fM μ0 n.toNatClampNeg = 0 ∧ vM μ0 n.toNatClampNeg = 0 := ⟨by unfold fM; rw [xA_tn, xA_tn, hk, h10, if_neg (by decide)], by unfold vM; rw [xA_tn, xA_tn, xA_tn, hk, h10, if_neg (by decide)]; rfl⟩
  obtain ⟨j, B', τ', μ', a1, a2, a3, a4, a5, a6, a7⟩ := gt_row (σ := σ) (τr := τr) (k := k) (F := F) (S := S) (D := D) (h := h) (nxt_row hv2 hn0 hn1 (Or.inl hk)) (by omega) hv2 (l := l) (by omega) (g := g) (fs := fs) (fu := fu) (fn := fn) (gap := appGap) (b := b) (ga := fun i => if i ≤ 1 then 1 else 0) (fun i hil => by
      unfold appGap
      by_cases h0 : i = 0
      · subst h0; rfl
      · by_cases h1 : i = 1
        · subst h1; rfl
        · rw [if_neg h1]
          show (if i ≤ 1 then 1 else 0) = (if i + 1 ≤ 1 then 1 else 0) + 0
          rw [if_neg (by omega), if_neg (by omega)]) (fun i hil => by
      show (if i ≤ 1 then 1 else 0) ≤ _
      by_cases h0 : i = 0
      · subst h0; rw [if_pos (by omega), e5]; omega
      · by_cases h1 : i = 1
        · subst h1; rw [if_pos (by omega), hf1]; omega
        · rw [if_neg (by omega)]; omega) hb (i_trans hn0 (by grind)) e6 (fun i hil => hP i _ _ _ _ _ _ _ _ _ hil (hi i hil).1 (hi i hil).2.1) (fun i _ => by
      unfold appGap
      by_cases h1 : i = 1
      · subst h1; rw [if_pos rfl, hf1]; exact Or.inr ⟨rfl, gz.1, gz.2, hk⟩
      · rw [if_neg h1]; exact Or.inl rfl) hr l 0 m top d B τ ν (by omega) z1 (by rw [if_pos (by omega)]; exact i3) (by rw [e5]; show _ ≤ 3200 + 1; omega) hm
  have a1' : j + 2 * 1 ≤ 2 * (b.toNatClampNeg - (fn 0).toNatClampNeg) := a1
  rw [e5] at a1'
  rw [e2, e4] at a4
  rw [e3, e4] at a3
  have c3 := nx_row hv2 hn0 hn1 a5 (by rw [a4.1.x 2 _ (by omega)]; exact Or.inl hk) (by decide)
  rw [if_pos (by decide)] at c3
  obtain ⟨d1, d2⟩ := gt_out a4 hv2 hn0 hn1 h19 h10 hk2.1 c3 (by decide) ((FrW.rf b μ').A (by omega)) (by rw [xA_pA, if_neg (fun w => absurd w.1 (by decide))]; exact a5.1)
  refine ⟨j + 1, B', τ', _, by omega, fun rec w v1 => ?_, a3, d2, (i4.tr a6).A hv2⟩
  rw [i1, show w + (j + 1) = (w + 1) + j by omega, a2, d1]
