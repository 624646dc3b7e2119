/-- a node with one child and no names -/
theorem gt_one {σ τr μ0 : S5} {k F : Nat} {S : Int32} {D : Int32 → Nat} {h s s' u u' b n : Int32} (hn0 : 0 ≤ n) (hn1 : n < 3200) (h19 : xA μ0 19 n = -1) (h10 : xA μ0 10 n = 0) (hk : xA μ0 2 n = 1 ∨ xA μ0 2 n = 4) (g1 : GoT σ τr μ0 k F S D h s s' u u' (n + 1) b (xA μ0 3 n)) (x1 : 0 ≤ xA μ0 3 n) (hb : n + 1 < b) (hb2 : b ≤ 3200) : GoT σ τr μ0 k F S D h s s' u u' n b n := by
  intro v m top d B τ μ q hv hm
  have en : (n + 1).toNatClampNeg = n.toNatClampNeg + 1 := tn_s hn0 (lt_7 hn1)
  have l2 : (n + 1).toNatClampNeg < b.toNatClampNeg := i_lt (fun w => by grind) hb
  have hv2 : v < 3200 := by omega
  have hk2 : ¬ xA μ0 2 n = 0 ∧ ¬ xA μ0 2 n = 3 ∧ ¬ xA μ0 2 n = 6 ∧ ¬ xA μ0 2 n = 7 ∧ ¬ xA μ0 2 n = 8 := by rcases hk with w | w <;> rw [w] <;> decide
  have hk3 : xA μ0 2 n = 1 ∨ xA μ0 2 n = 2 ∨ xA μ0 2 n = 4 ∨ xA μ0 2 n = 12 := by rcases hk with w | w <;> rw [w] <;> decide
  have hkb : ¬ xA μ0 2 n = 0 ∧ ¬ xA μ0 2 n = 3 ∧ ¬ xA μ0 2 n = 6 ∧ ¬ xA μ0 2 n = 7 := ⟨hk2.1, hk2.2.1, hk2.2.2.1, hk2.2.2.2.1⟩
  obtain ⟨ν, i1, i2, i3, i4, i5⟩ := gt_in (n := n) (r := -1) q hv2 hn0 hn1 (Int32.le_refl _) hn0 h19 h10 hk2.1 hk2.2.2.2.2 (ba_no hv2 hn0 hn1 (by rw [q.1.x 2 _ (by omega)]; exact hkb))
  have z1 := i2.z hn0 hn1 (by unfold fM; rw [xA_tn, xA_tn, h10]; rcases hk with w | w <;> rw [w] <;> rfl) (by unfold vM; rw [xA_tn, xA_tn, xA_tn, h10, if_neg hk2.1]; rfl) hk2.2.2.2.2 (fun _ => i5)
  have c1 := nx_no (x := xA μ0 3 n) hv2 hn0 hn1 i3 (by rw [i2.1.x 2 _ (by omega)]; exact hkb) (by rw [chA_one hn0 hn1 (by rw [i2.1.x 2 _ (by omega)]; exact hk3), if_pos rfl, i2.1.x 3 _ (by omega)])
  obtain ⟨j1, B1, τ1, μ1, a1, a2, a3, a4, a5⟩ := gt_kid g1 z1 hv2 c1 ((FrW.rf (n + 1) ν).A (by omega)) x1 (by omega) hm
  have t1 : At μ1 v n (0 + 1) (-1) := by
    refine At.st ?_ a5 (by omega)
    refine ⟨?_, ?_, ?_⟩
    · rw [xA_pA, if_neg (fun w => absurd w.1 (by decide))]; exact i3.1
    · rw [xA_pA, if_pos ⟨rfl, rfl⟩]
    · rw [xA_pA, if_neg (fun w => absurd w.1 (by decide))]; exact i3.2.2
  have c3 := nx_no (x := -1) hv2 hn0 hn1 t1 (by rw [a4.1.x 2 _ (by omega)]; exact hkb) (by rw [chA_one hn0 hn1 (by rw [a4.1.x 2 _ (by omega)]; exact hk3), if_neg (by decide)])
  obtain ⟨d1, d2⟩ := gt_out a4 hv2 hn0 hn1 h19 h10 hk2.1 c3 (by decide) ((FrW.rf b μ1).A (by omega)) (by rw [xA_pA, if_neg (fun w => absurd w.1 (by decide))]; exact t1.1)
  refine ⟨j1 + 1, B1, τ1, _, by omega, fun rec w v1 => ?_, a3, d2, ?_⟩
  · rw [i1, show w + (j1 + 1) = (w + 1) + j1 by omega, a2, d1]
  · have e1 : KW v μ (pA ν 29 (nI v) (0 + 1)) := i4.A hv2
    exact (e1.tr (a5.le (by omega))).A hv2
