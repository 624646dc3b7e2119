/-- a let -/
theorem gt_let {σ τr μ0 : S5} {k U F : Nat} {fs0 : Nat → Int32} {S : Int32} (hE : Env σ τr μ0 k U F fs0 S) {D : Int32 → Nat} {h s s1 s' u u1 u' a1 b t c n c1 : Int32} (hn0 : 0 ≤ n) (hn1 : n < 3200) (h19 : xA μ0 19 n = -1) (hk : xA μ0 2 n = 0) (h0 : 0 ≤ h) (s0 : 0 ≤ s) (sS : s < S) (h21 : xA σ 21 s = h) (h22 : xA σ 22 s = xA σ 22 h) (hdD : D h ≤ 61) (hDs : D s = D h + 1) {l : Nat} (hj : xA σ 20 s = nI l) (hl1 : 1 ≤ l) (hl : l ≤ 5) (ef : fC σ s.toNatClampNeg = fM μ0 n.toNatClampNeg) (ev : vC σ s.toNatClampNeg = vM μ0 n.toNatClampNeg) (g2 : GoT σ τr μ0 k F S D s s1 s' u1 u' a1 b (xA μ0 7 n)) (x2 : 0 ≤ xA μ0 7 n) (ha1 : n + 1 < a1) (hb0 : a1 < b) (hb : b ≤ 3200) (hu : 0 ≤ u ∧ u1 ≤ u') {P : Nat → Int32 → Int32 → Int32 → Int32 → Int32 → Int32 → Int32 → Int32 → Int32 → Prop} (hR : TRow σ μ0 P l (s + 1) s1 u u1 (n + 1) a1 t c (xA μ0 3 n) c1 n noGap) (hP : ∀ i s2 s2' u2 u2' a2 b2 t2 n2 c2, i < l → P i s2 s2' u2 u2' a2 b2 t2 n2 c2 → Wi (s + 1) s1 u u1 (n + 1) a1 t c s2 s2' u2 u2' a2 b2 t2 c2 → GoT σ τr μ0 k F S D s s2 s2' u2 u2' a2 b2 n2 ∧ xB μ0 0 n2 = xB σ 3 (s * 5 + nI i)) : GoT σ τr μ0 k F S D h s s' u u' n b n := by
  intro v m top d B τ μ q hv hm
  obtain ⟨g, cc, fs, fu, fn, ft, e1, e2, e3, e4, e5, e6, e7, e8, e9, hi⟩ := hR
  have hbig := FU_big (n := 30000) (by decide)
  have en : (n + 1).toNatClampNeg = n.toNatClampNeg + 1 := tn_s hn0 (lt_7 hn1)
  have lb : (n + 1).toNatClampNeg < a1.toNatClampNeg := i_lt (fun w => by grind) ha1
  have lb2 : a1.toNatClampNeg < b.toNatClampNeg := i_lt (fun w => by grind) hb0
  have l3 : u1.toNatClampNeg ≤ u'.toNatClampNeg := i_le hu.2
  have hv2 : v < 3200 := by omega
  have hk8 : ¬ xA μ0 2 n = 8 := by rw [hk]; decide
  have ha3 : a1 ≤ 3200 := by grind
  have hr : ∀ i, i < l → 0 ≤ fn i ∧ fn i ≤ g i ∧ fn i + noGap i ≤ g i ∧ g i < fn (i + 1) ∧ fn (i + 1) ≤ a1 ∧ 0 ≤ fu i ∧ fu i ≤ fu (i + 1) ∧ xA μ0 5 (g i) = (if i + 1 < l then g (i + 1) else -1) := by
    intro i hil
    obtain ⟨d1, d2, d3, d4, d5, d6, d7, d8, d9⟩ := hi i hil
    obtain ⟨z1, z2, z3, z4, z5, z6, z7⟩ := rw_of (nn := n) d2 rfl (Or.inl rfl) d3 d4 d8 (by grind) ha3 hu.1 hn0 hn1
    exact ⟨z1, z2, z3, z4, z5, z6, z7, d6⟩
  have hgr : ∀ i, i < l → 0 ≤ g i ∧ g i < 3200 ∧ (xA μ0 5 (g i) = if i + 1 < l then g (i + 1) else -1) ∧ xB μ0 0 (g i) = xB σ 3 (s * 5 + nI i) := by
    intro i hil
    obtain ⟨z1, z2, z3, z4, z5, z6, z7, z8⟩ := hr i hil
    exact ⟨i_trans z1 z2, le_lt3 (Int32.le_refl _) z4 z5 ha3, z8, (hP i _ _ _ _ _ _ _ _ _ hil (hi i hil).1 (hi i hil).2.1).2⟩
  have q0 := q.w (mBa_fr n μ v n (xA μ0 3 n))
  obtain ⟨ν, i1, i2, i3⟩ := gn_let hE q0 hn0 hn1 h0 s0 sS h21 h22 hdD (by omega) hj hl1 hl h19 hk e8 hgr ef ev
  have hat : At ν v n (nI (0 + 0)) (g 0) := by
    have := mBa_at μ v n (xA μ0 3 n)
    exact ⟨(i3 28 _ (by omega)).trans this.1, (i3 29 _ (by omega)).trans this.2.1, by rw [e8]; exact (i3 30 _ (by omega)).trans this.2.2⟩
  have hW : ∀ rec w v1, WB rec w v1 v n μ = f_X12_find_L55 rec w v1 (nI (v + 1)) ν := by
    intro rec w v1
    unfold WB
    rw [ba_row hv2 hn0 hn1 (by rw [q.1.x 2 _ (by omega)]; exact Or.inl hk), bd_of, q.1.x 3 _ (by omega), i1, bd_of]
  have z2 := i2
  rw [← e1, ← e3, ← e5] at z2
  obtain ⟨j, B1, τ1, μ1, b1, b2, b3, b4, b5, b6, b7⟩ := gt_row (σ := σ) (τr := τr) (k := k) (F := F) (S := S) (D := D) (h := s) (nxt_let hv2 hn0 hn1 hk) (by omega) hv2 (l := l) (by omega) (g := g) (fs := fs) (fu := fu) (fn := fn) (gap := noGap) (b := a1) (ga := fun _ => 0) (fun i _ => rfl) (fun i _ => Nat.zero_le _) ha3 (i_trans hn0 (by grind)) e6 (fun i hil => (hP i _ _ _ _ _ _ _ _ _ hil (hi i hil).1 (hi i hil).2.1).1) (fun i _ => Or.inl rfl) hr l 0 (m + 1) (top + l) d B τ ν (by omega) z2 (by rw [if_pos (by omega)]; exact hat) (by rw [e5]; omega) (by omega)
  rw [e5] at b1
  rw [e2, e4] at b4
  rw [e3, e4] at b3 b7
  have c2 := nx_letB hv2 hn0 hn1 b5 (by rw [b4.1.x 2 _ (by omega)]; exact hk) (by decide)
  rw [if_neg (fun w => by have := (nI_le31 (a := 100) (by omega) (by omega)).mp w; omega), (b4.1.2.2.2.2.2 n hk8).1] at c2
  obtain ⟨j2, B2, τ2, μ2, d1, d2, d3, d4, d5⟩ := gt_kid g2 b4 hv2 c2 ((FrW.rf a1 μ1).A (by omega)) x2 (by omega) (by omega)
  have t2 : At μ2 v n 100 (-1) := by
    refine At.st ?_ d5 (by omega)
    refine ⟨?_, ?_, ?_⟩
    · rw [xA_pA, if_neg (fun w => absurd w.1 (by decide))]; exact b5.1
    · rw [xA_pA, if_pos ⟨rfl, rfl⟩]
    · rw [xA_pA, if_neg (fun w => absurd w.1 (by decide))]; exact b5.2.2
  have c3 := nx_letB hv2 hn0 hn1 t2 (by rw [d4.1.x 2 _ (by omega)]; exact hk) (by decide)
  rw [if_pos (by decide)] at c3
  have a4' := d4.w ((FrW.rf b μ2).A (k := 29) (i := nI v) (v := 100) (by omega))
  obtain ⟨ρ, r1, r2, r3, r4⟩ := go_loop (g := g) (j := l) hl (l - 1) 0 FU top (pA μ2 29 (nI v) 100) (by omega) (by omega) (fun i hil => by
    obtain ⟨y1, y2, y3, _⟩ := hgr i hil
    exact ⟨y1, y2, by rw [a4'.1.x 5 _ (by omega)]; exact y3⟩) (by rw [a4'.2.2.1.1, show top + (l - 1) + 1 = top + l by omega]) (by
      have hgD := hE.1
      have hsl : s.toNatClampNeg < 630 := i_lt (n := 630) (not_neg s0) (by have := hE.2.2.1.2; grind)
      have := vC_le hgD s.toNatClampNeg (by omega)
      have w5 := q.2.2.1.2.2
      unfold prI at w5
      omega)
  have hgo : f_X12_goOutOf n (pA μ2 29 (nI v) 100) = some ((), ρ) := by
    unfold f_X12_goOutOf f_X12_goOutOf_b19
    rw [gd3200 hn0 hn1, a4'.1.x 19 _ (by omega), h19, if_pos (by decide), gd3200 hn0 hn1, a4'.1.x 2 _ (by omega), if_pos hk, gd3200 hn0 hn1, a4'.1.x 3 _ (by omega), ← e8]
    exact r1
  have ho := st_out hv2 c3 (by decide) (n := n) (by rw [xA_pA, if_neg (fun w => absurd w.1 (by decide))]; exact t2.1) hgo
  have hp := ws_pop (ν := ρ) (h := h) (d := d) a4' hj hl s0 h21 (fun g g1 _ => r3 g g1) r4 r2 ((r3 25 (by decide)).trans a4'.2.2.2.1.1) (by rw [← h22]; exact a4'.2.2.2.1.2.1) q.2.2.2.1.2.2
  refine ⟨j + j2 + 1, B2, τ2, ρ, by omega, fun rec w v1 => ?_, ff_tr b3 d3 b7 l3, hp, ?_⟩
  · rw [hW, show w + (j + j2 + 1) = (w + 1 + j2) + j by omega, b2, d2, ho]
  · have e0 : KW v μ ν := (mBa_kw μ v n _ hv2).tr (KW.of i3)
    have e1' : KW v μ (pA μ2 29 (nI v) 100) := (((e0.tr b6).A hv2).tr (d5.le (by omega))).A hv2
    refine e1'.tr (KW.of (fun g i _ => ?_))
    show ρ.2.2.1 g _ = (pA μ2 29 (nI v) 100).2.2.1 g _
    rw [r4]
