/-- a case -/
theorem gt_case {σ τr μ0 : S5} {k F : Nat} {S : Int32} {D : Int32 → Nat} {h s s1 s' u u1 u' a1 b t c n c1 : Int32} (hn0 : 0 ≤ n) (hn1 : n < 3200) (h19 : xA μ0 19 n = -1) (h10 : xA μ0 10 n = 0) (hk : xA μ0 2 n = 3) (g1 : GoT σ τr μ0 k F S D h s s1 u u1 (n + 1) a1 (xA μ0 7 n)) (x1 : 0 ≤ xA μ0 7 n) (ha1 : n + 1 < a1) (hb0 : a1 < b) (hb : b ≤ 3200) (hu : 0 ≤ u ∧ u ≤ u1) {l : Nat} (hl1 : 1 ≤ l) (hl : l ≤ 8) {P : Nat → Int32 → Int32 → Int32 → Int32 → Int32 → Int32 → Int32 → Int32 → Int32 → Prop} (hR : TRow σ μ0 P l s1 s' u1 u' a1 b t c (xA μ0 3 n) c1 n noGap) (hP : ∀ i s2 s2' u2 u2' a2 b2 t2 n2 c2, i < l → P i s2 s2' u2 u2' a2 b2 t2 n2 c2 → Wi s1 s' u1 u' a1 b t c s2 s2' u2 u2' a2 b2 t2 c2 → GoT σ τr μ0 k F S D h s2 s2' u2 u2' a2 b2 n2) : GoT σ τr μ0 k F S D h s s' u u' n b n := by
  intro v m top d B τ μ q hv hm
  obtain ⟨g, cc, fs, fu, fn, ft, e1, e2, e3, e4, e5, e6, e7, e8, e9, hi⟩ := hR
  have en : (n + 1).toNatClampNeg = n.toNatClampNeg + 1 := tn_s hn0 (lt_7 hn1)
  have lb : (n + 1).toNatClampNeg < a1.toNatClampNeg := i_lt (fun w => by grind) ha1
  have lb2 : a1.toNatClampNeg < b.toNatClampNeg := i_lt (fun w => by grind) hb0
  have l3 : u.toNatClampNeg ≤ u1.toNatClampNeg := i_le hu.2
  have hv2 : v < 3200 := by omega
  have hk2 : ¬ xA μ0 2 n = 0 ∧ ¬ xA μ0 2 n = 8 := by rw [hk]; decide
  have hr : ∀ i, i < l → 0 ≤ fn i ∧ fn i ≤ g i ∧ fn i + noGap i ≤ g i ∧ g i < fn (i + 1) ∧ fn (i + 1) ≤ b ∧ 0 ≤ fu i ∧ fu i ≤ fu (i + 1) ∧ xA μ0 5 (g i) = (if i + 1 < l then g (i + 1) else -1) := by
    intro i hil
    obtain ⟨d1, d2, d3, d4, d5, d6, d7, d8, d9⟩ := hi i hil
    obtain ⟨z1, z2, z3, z4, z5, z6, z7⟩ := rw_of (nn := n) d2 rfl (Or.inl rfl) d3 d4 d8 (by grind) hb (by grind) hn0 hn1
    exact ⟨z1, z2, z3, z4, z5, z6, z7, d6⟩
  obtain ⟨ν, i1, i2, i3, i4, -⟩ := gt_in (n := n) (r := xA μ0 3 n) q hv2 hn0 hn1 (Int32.le_refl _) hn0 h19 h10 hk2.1 hk2.2 (by rw [ba_row hv2 hn0 hn1 (by rw [q.1.x 2 _ (by omega)]; exact Or.inr (Or.inl hk)), q.1.x 3 _ (by omega)])
  have z1 := i2.z hn0 hn1 (by unfold fM; rw [xA_tn, xA_tn, hk, h10, if_neg (by decide)]) (by unfold vM; rw [xA_tn, xA_tn, xA_tn, hk, h10, if_neg (by decide)]; rfl) hk2.2 (fun w => by rw [hk] at w; exact absurd w (by decide))
  have k1 := nx_case0 hv2 hn0 hn1 i3 (by rw [i2.1.x 2 _ (by omega)]; exact hk)
  rw [(i2.1.2.2.2.2.2 n hk2.2).1] at k1
  obtain ⟨j1, B1, τ1, μ1, a1', a2, a3, a4, a5⟩ := gt_kid g1 z1 hv2 k1 ((FrW.rf (n + 1) ν).A (by omega)) x1 (by omega) hm
  have t1 : At μ1 v n (nI (1 + 0)) (g 0) := by
    refine At.st ?_ a5 (by omega)
    refine ⟨?_, ?_, ?_⟩
    · rw [xA_pA, if_neg (fun w => absurd w.1 (by decide))]; exact i3.1
    · rw [xA_pA, if_pos ⟨rfl, rfl⟩]; rfl
    · rw [xA_pA, if_neg (fun w => absurd w.1 (by decide)), e8]; exact i3.2.2
  have z2 := a4
  rw [← e1, ← e3, ← e5] at z2
  obtain ⟨j, B', τ', μ', b1, b2, b3, b4, b5, b6, b7⟩ := gt_row (σ := σ) (τr := τr) (k := k) (F := F) (S := S) (D := D) (h := h) (nxt_case hv2 hn0 hn1 hk) (by omega) hv2 (l := l) (by omega) (g := g) (fs := fs) (fu := fu) (fn := fn) (gap := noGap) (b := b) (ga := fun _ => 0) (fun i _ => rfl) (fun i _ => Nat.zero_le _) hb (i_trans hn0 (by grind)) e6 (fun i hil => hP i _ _ _ _ _ _ _ _ _ hil (hi i hil).1 (hi i hil).2.1) (fun i _ => Or.inl rfl) hr l 0 m top d B1 τ1 μ1 (by omega) z2 (by rw [if_pos (by omega)]; exact t1) (by rw [e5]; omega) hm
  rw [e5] at b1
  rw [e2, e4] at b4
  rw [e3, e4] at b3 b7
  have c3 := nx_case hv2 hn0 hn1 b5 (by rw [b4.1.x 2 _ (by omega)]; exact hk) (fun w => by have := nI_inj (a := 1 + l) (b := 0) (by omega) (by omega) w; omega) (by decide)
  rw [if_pos (by decide)] at c3
  obtain ⟨d1, d2⟩ := gt_out b4 hv2 hn0 hn1 h19 h10 hk2.1 c3 (by decide) ((FrW.rf b μ').A (by omega)) (by rw [xA_pA, if_neg (fun w => absurd w.1 (by decide))]; exact b5.1)
  refine ⟨j1 + j + 1, B', τ', _, by omega, fun rec w v1 => ?_, ff_tr a3 b3 l3 b7, d2, ?_⟩
  · rw [i1, show w + (j1 + j + 1) = (w + 1 + j) + j1 by omega, a2, b2, d1]
  · exact ((((i4.A hv2).tr (a5.le (by omega))).tr b6)).A hv2
