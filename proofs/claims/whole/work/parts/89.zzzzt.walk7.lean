/-- the walk goes through a child, and comes back -/
theorem gt_kid {σ τr μ0 : S5} {k F : Nat} {S : Int32} {D : Int32 → Nat} {h s s1 u u1 a b x : Int32} (hG : GoT σ τr μ0 k F S D h s s1 u u1 a b x) {v m top d B : Nat} {τ μ μ1 : S5} (q : WS σ τr μ0 k F S D h s u.toNatClampNeg a m top d B τ μ) (hv : v < 3200) (hnx : f_X12_nextChild (nI v) μ = some (x, μ1)) (hw : FrW a μ μ1) (hx : 0 ≤ x) (hv2 : v + 1 + (b.toNatClampNeg - a.toNatClampNeg) ≤ 3200) (hm : m ≤ D h + 1) : ∃ (j B' : Nat) (τ' μ' : S5), j ≤ 2 * (b.toNatClampNeg - a.toNatClampNeg) ∧ (∀ rec q v1, f_X12_find_L55 rec (q + j) v1 (nI (v + 1)) μ = f_X12_find_L55 rec q v1 (nI (v + 1)) μ') ∧ (∀ q, f_X2_findFree_L2 (q + (u1.toNatClampNeg - u.toNatClampNeg)) (nI u.toNatClampNeg) τ = f_X2_findFree_L2 q (nI u1.toNatClampNeg) τ') ∧ WS σ τr μ0 k F S D h s1 u1.toNatClampNeg b m top d B' τ' μ' ∧ KW (v + 1) μ1 μ' := by
  obtain ⟨j, B', τ', μ', a1, a2, a3, a4, a5⟩ := hG (v + 1) m top d B τ μ1 (q.w hw) hv2 hm
  refine ⟨j + 1, B', τ', μ', by omega, fun rec w v1 => ?_, a3, a4, a5⟩
  rw [show w + (j + 1) = w + j + 1 by omega, st_in hv hnx hx rec (w + j) v1]
  exact a2 rec w v1
/-- the class's uses, one stretch after another -/
theorem ff_tr {u u1 u2 : Nat} {τ τ1 τ2 : S5} (h1 : ∀ q, f_X2_findFree_L2 (q + (u1 - u)) (nI u) τ = f_X2_findFree_L2 q (nI u1) τ1) (h2 : ∀ q, f_X2_findFree_L2 (q + (u2 - u1)) (nI u1) τ1 = f_X2_findFree_L2 q (nI u2) τ2) (e1 : u ≤ u1) (e2 : u1 ≤ u2) : ∀ q, f_X2_findFree_L2 (q + (u2 - u)) (nI u) τ = f_X2_findFree_L2 q (nI u2) τ2 := by
  intro q
  rw [show q + (u2 - u) = (q + (u2 - u1)) + (u1 - u) by omega, h1, h2]
/-- a node without names: the walk is in it -/
theorem gt_in {σ τr μ0 : S5} {k F : Nat} {S : Int32} {D : Int32 → Nat} {h s : Int32} {u : Nat} {a n r : Int32} {v m top d B : Nat} {τ μ : S5} (q : WS σ τr μ0 k F S D h s u a m top d B τ μ) (hv : v < 3200) (hn0 : 0 ≤ n) (hn1 : n < 3200) (ha : a ≤ n) (ha0 : 0 ≤ a) (h19 : xA μ0 19 n = -1) (h10 : xA μ0 10 n = 0) (hk0 : ¬ xA μ0 2 n = 0) (hk8 : ¬ xA μ0 2 n = 8) (hb : f_X12_beginAt (nI v) n μ = some ((), mBa μ v n r)) : ∃ ν, (∀ rec w v1, WB rec w v1 v n μ = f_X12_find_L55 rec w v1 (nI (v + 1)) ν) ∧ WS σ τr μ0 k F S D h s u a m top d B τ ν ∧ At ν v n 0 r ∧ KW v μ ν ∧ xA ν 25 n = nI (prI (vM μ0) a) := by
  have f0 := mBa_fr a μ v n r
  have f1 : FrW a μ (pA (mBa μ v n r) 25 n (gI (mBa μ v n r) 23)) := f0.F ha
  have q0 := q.w f0
  have hat := mBa_at μ v n r
  refine ⟨_, fun rec w v1 => ?_, q.w f1, ⟨?_, ?_, ?_⟩, ?_, ?_⟩
  · unfold WB
    rw [hb, bd_of, ci_plain hn0 hn1 (by rw [q0.1.x 19 _ (by omega), h19]; decide) (by rw [q0.1.x 2 _ (by omega)]; exact hk0) (by rw [q0.1.x 2 _ (by omega)]; exact hk8) (by rw [q0.1.x 10 _ (by omega)]; exact h10), bd_of]
  · rw [xA_pA, if_neg (fun w => absurd w.1 (by decide))]; exact hat.1
  · rw [xA_pA, if_neg (fun w => absurd w.1 (by decide))]; exact hat.2.1
  · rw [xA_pA, if_neg (fun w => absurd w.1 (by decide))]; exact hat.2.2
  · refine (mBa_kw μ v n r hv).tr (KW.of (fun g i hg => ?_))
    rw [xA_pA, if_neg (by omega)]
  · rw [xA_pA, if_pos ⟨rfl, rfl⟩, q0.2.1, q0.2.2.2.2.2.2.2.1.2.1]
/-- and out of it -/
theorem gt_out {σ τr μ0 : S5} {k F : Nat} {S : Int32} {D : Int32 → Nat} {h s : Int32} {u : Nat} {b n x : Int32} {v m top d B : Nat} {τ μ μ1 : S5} (q : WS σ τr μ0 k F S D h s u b m top d B τ μ) (hv : v < 3200) (hn0 : 0 ≤ n) (hn1 : n < 3200) (h19 : xA μ0 19 n = -1) (h10 : xA μ0 10 n = 0) (hk0 : ¬ xA μ0 2 n = 0) (hnx : f_X12_nextChild (nI v) μ = some (x, μ1)) (hx : x < 0) (hw : FrW b μ μ1) (h28 : xA μ1 28 (nI v) = n) : (∀ rec w v1, f_X12_find_L55 rec (w + 1) v1 (nI (v + 1)) μ = f_X12_find_L55 rec w v1 (nI v) μ1) ∧ WS σ τr μ0 k F S D h s u b m top d B τ μ1 := by
  have q1 := q.w hw
  exact ⟨fun rec w v1 => st_out hv hnx hx h28 (go_plain hn0 hn1 (by rw [q1.1.x 19 _ (by omega), h19]; decide) (by rw [q1.1.x 2 _ (by omega)]; exact hk0) (by rw [q1.1.x 10 _ (by omega)]; exact h10)) rec w v1, q1⟩
/-- a sign and its two sides -/
theorem gt_sign {σ τr μ0 : S5} {k F : Nat} {S : Int32} {D : Int32 → Nat} {h s s1 s' u u1 u' a b n : Int32} (hn0 : 0 ≤ n) (hn1 : n < 3200) (h19 : xA μ0 19 n = -1) (h10 : xA μ0 10 n = 0) (hk : xA μ0 2 n = 5) (g1 : GoT σ τr μ0 k F S D h s s1 u u1 a n (xA μ0 3 n)) (g2 : GoT σ τr μ0 k F S D h s1 s' u1 u' (n + 1) b (xA μ0 4 n)) (x1 : 0 ≤ xA μ0 3 n) (x2 : 0 ≤ xA μ0 4 n) (ha0 : 0 ≤ a) (ha : a < n) (hb : n + 1 < b) (hb2 : b ≤ 3200) (hu : 0 ≤ u ∧ u ≤ u1 ∧ u1 ≤ u') : GoT σ τr μ0 k F S D h s s' u u' a b n := by
  intro v m top d B τ μ q hv hm
  have en : (n + 1).toNatClampNeg = n.toNatClampNeg + 1 := tn_s hn0 (by grind)
  have l1 : a.toNatClampNeg < n.toNatClampNeg := i_lt (fun w => by grind) ha
  have l2 : (n + 1).toNatClampNeg < b.toNatClampNeg := i_lt (fun w => by grind) hb
  have l3 : u.toNatClampNeg ≤ u1.toNatClampNeg := i_le hu.2.1
  have l4 : u1.toNatClampNeg ≤ u'.toNatClampNeg := i_le hu.2.2
  have hv2 : v < 3200 := by omega
  have hk2 : ¬ xA μ0 2 n = 0 ∧ ¬ xA μ0 2 n = 3 ∧ ¬ xA μ0 2 n = 6 ∧ ¬ xA μ0 2 n = 7 := by rw [hk]; decide
  obtain ⟨ν, i1, i2, i3, i4, -⟩ := gt_in (n := n) (r := -1) q hv2 hn0 hn1 (by grind) ha0 h19 h10 hk2.1 (by rw [hk]; decide) (ba_no hv2 hn0 hn1 (by rw [q.1.x 2 _ (by omega)]; exact hk2))
  have c1 := nx_no (x := xA μ0 3 n) hv2 hn0 hn1 i3 (by rw [i2.1.x 2 _ (by omega)]; exact hk2) (by rw [chA_sign hn0 hn1 (by rw [i2.1.x 2 _ (by omega)]; exact hk), if_pos rfl, i2.1.x 3 _ (by omega)])
  obtain ⟨j1, B1, τ1, μ1, a1, a2, a3, a4, a5⟩ := gt_kid g1 i2 hv2 c1 ((FrW.rf a ν).A (by omega)) x1 (by omega) hm
  have t1 : At μ1 v n (0 + 1) (-1) := by
    refine At.st ?_ a5 (by omega)
    refine ⟨?_, ?_, ?_⟩
    · rw [xA_pA, if_neg (fun w => absurd w.1 (by decide))]; exact i3.1
    · rw [xA_pA, if_pos ⟨rfl, rfl⟩]
    · rw [xA_pA, if_neg (fun w => absurd w.1 (by decide))]; exact i3.2.2
  have z1 := a4.z hn0 hn1 (by unfold fM; rw [xA_tn, xA_tn, hk, h10, if_neg (by decide)]) (by unfold vM; rw [xA_tn, xA_tn, xA_tn, hk, h10, if_neg (by decide)]; rfl) (by rw [hk]; decide) (fun w => by rw [hk] at w; exact absurd w (by decide))
  have c2 := nx_no (x := xA μ0 4 n) hv2 hn0 hn1 t1 (by rw [z1.1.x 2 _ (by omega)]; exact hk2) (by rw [chA_sign hn0 hn1 (by rw [z1.1.x 2 _ (by omega)]; exact hk), if_neg (by decide), if_pos (by decide), z1.1.x 4 _ (by omega)])
  obtain ⟨j2, B2, τ2, μ2, b1, b2, b3, b4, b5⟩ := gt_kid g2 z1 hv2 c2 ((FrW.rf (n + 1) μ1).A (by omega)) x2 (by omega) hm
  have t2 : At μ2 v n (0 + 1 + 1) (-1) := by
    refine At.st ?_ b5 (by omega)
    refine ⟨?_, ?_, ?_⟩
    · rw [xA_pA, if_neg (fun w => absurd w.1 (by decide))]; exact t1.1
    · rw [xA_pA, if_pos ⟨rfl, rfl⟩]
    · rw [xA_pA, if_neg (fun w => absurd w.1 (by decide))]; exact t1.2.2
  have c3 := nx_no (x := -1) hv2 hn0 hn1 t2 (by rw [b4.1.x 2 _ (by omega)]; exact hk2) (by rw [chA_sign hn0 hn1 (by rw [b4.1.x 2 _ (by omega)]; exact hk), if_neg (by decide), if_neg (by decide)])
  obtain ⟨d1, d2⟩ := gt_out b4 hv2 hn0 hn1 h19 h10 hk2.1 c3 (by decide) ((FrW.rf b μ2).A (by omega)) (by rw [xA_pA, if_neg (fun w => absurd w.1 (by decide))]; exact t2.1)
  refine ⟨j1 + j2 + 1, B2, τ2, _, by omega, fun rec w v1 => ?_, ff_tr a3 b3 l3 l4, d2, ?_⟩
  · rw [i1, show w + (j1 + j2 + 1) = (w + 1 + j2) + j1 by omega, a2, b2, d1]
  · have e1 : KW v μ (pA ν 29 (nI v) (0 + 1)) := i4.A hv2
    have e2 : KW v μ (pA μ1 29 (nI v) (0 + 1 + 1)) := (e1.tr (a5.le (by omega))).A hv2
    exact (e2.tr (b5.le (by omega))).A hv2
