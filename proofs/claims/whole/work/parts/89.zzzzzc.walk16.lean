/-- a function within -/
theorem gt_fun {σ τr μ0 : S5} {k U F : Nat} {fs : Nat → Int32} {S : Int32} (hE : Env σ τr μ0 k U F fs S) {D : Int32 → Nat} {h s s' u u' b n : Int32} {f : Nat} (hn0 : 0 ≤ n) (hn1 : n < 3200) (hk : xA μ0 2 n = 1 ∨ xA μ0 2 n = 2) (h0 : 0 ≤ h) (hS : h < S) (s0 : 0 ≤ s) (s1 : s < S) (h21 : xA σ 21 s = h) (h22 : xA σ 22 s = s) (hdD : D h ≤ 61) (hDs : D s = D h + 1) (hT : TNames σ μ0 s n) {j : Nat} (hj : xA μ0 10 n = nI j) (hj5 : j ≤ 5) (hj1 : 1 ≤ j) (hg : gI μ0 10 ≤ 3000) (hf : xA τr 26 s = nI f) (hf6 : f < F) (h19 : xA μ0 19 n = nI f) (hF : F ≤ 630) (g1 : GoT σ τr μ0 k F S D s (s + 1) s' u u' (n + 1) b (xA μ0 3 n)) (x1 : 0 ≤ xA μ0 3 n) (hb : n + 1 < b) (hb2 : b ≤ 3200) : GoT σ τr μ0 k F S D h s s' u u' n b n := by
  intro v m top d B τ μ q hv hm
  have en : (n + 1).toNatClampNeg = n.toNatClampNeg + 1 := tn_s hn0 (lt_7 hn1)
  have l2 : (n + 1).toNatClampNeg < b.toNatClampNeg := i_lt (fun w => by grind) hb
  have hv2 : v < 3200 := by omega
  have hkb : ¬ xA μ0 2 n = 0 ∧ ¬ xA μ0 2 n = 3 ∧ ¬ xA μ0 2 n = 6 ∧ ¬ xA μ0 2 n = 7 := by rcases hk with w | w <;> rw [w] <;> decide
  have hk8 : ¬ xA μ0 2 n = 8 := by rcases hk with w | w <;> rw [w] <;> decide
  have hk3 : xA μ0 2 n = 1 ∨ xA μ0 2 n = 2 ∨ xA μ0 2 n = 4 ∨ xA μ0 2 n = 12 := by rcases hk with w | w <;> rw [w] <;> decide
  have q0 := q.w (mBa_fr n μ v n (-1))
  have hjp : 0 < xA μ0 10 n := by rw [hj]; exact (nI_lt31 (a := 0) (by omega) (by omega)).mpr (by omega)
  have ef : fC σ s.toNatClampNeg = fM μ0 n.toNatClampNeg := by
    unfold fC fM
    rw [xA_tn, xA_tn, xA_tn, xA_tn, ← nI_tn s0, if_pos ⟨h22, by rw [h21]; grind⟩, if_pos (hk.elim (fun w => Or.inr ⟨w, hjp⟩) Or.inl)]
  have ev : vC σ s.toNatClampNeg = vM μ0 n.toNatClampNeg := by
    unfold vC vM
    rw [xA_tn, xA_tn, xA_tn, xA_tn, if_neg hkb.1, hT.1]
  obtain ⟨ν, i1, i2, i3⟩ := gn_fun hE q0 hn0 hn1 h0 hS s0 s1 h21 h22 hdD hDs hT hj hj5 hg hf hf6 h19 ef ev hk8 hkb.1
  have hat : At ν v n 0 (-1) := by
    have := mBa_at μ v n (-1)
    exact ⟨(i3 28 _ (by omega)).trans this.1, (i3 29 _ (by omega)).trans this.2.1, (i3 30 _ (by omega)).trans this.2.2⟩
  have hW : ∀ rec w v1, WB rec w v1 v n μ = f_X12_find_L55 rec w v1 (nI (v + 1)) ν := by
    intro rec w v1
    unfold WB
    rw [ba_no hv2 hn0 hn1 (by rw [q.1.x 2 _ (by omega)]; exact hkb), bd_of, i1, bd_of]
  have c1 := nx_no (x := xA μ0 3 n) hv2 hn0 hn1 hat (by rw [i2.1.x 2 _ (by omega)]; exact hkb) (by rw [chA_one hn0 hn1 (by rw [i2.1.x 2 _ (by omega)]; exact hk3), if_pos rfl, i2.1.x 3 _ (by omega)])
  obtain ⟨j1, B1, τ1, μ1, a1, a2, a3, a4, a5⟩ := gt_kid g1 i2 hv2 c1 ((FrW.rf (n + 1) ν).A (by omega)) x1 (by omega) (by omega)
  have t1 : At μ1 v n (0 + 1) (-1) := by
    refine At.st ?_ a5 (by omega)
    refine ⟨?_, ?_, ?_⟩
    · rw [xA_pA, if_neg (fun w => absurd w.1 (by decide))]; exact hat.1
    · rw [xA_pA, if_pos ⟨rfl, rfl⟩]
    · rw [xA_pA, if_neg (fun w => absurd w.1 (by decide))]; exact hat.2.2
  have c3 := nx_no (x := -1) hv2 hn0 hn1 t1 (by rw [a4.1.x 2 _ (by omega)]; exact hkb) (by rw [chA_one hn0 hn1 (by rw [a4.1.x 2 _ (by omega)]; exact hk3), if_neg (by decide)])
  have a4' := a4.w ((FrW.rf b μ1).A (k := 29) (i := nI v) (v := 0 + 1 + 1) (by omega))
  have e24 : gI (pA μ1 29 (nI v) (0 + 1 + 1)) 24 - nI j = nI top := by
    rw [a4'.2.2.1.1]
    unfold nI
    rw [Int32.ofNat_add]
    grind
  have e25 : gI (pA μ1 29 (nI v) (0 + 1 + 1)) 25 - 1 = nI d := by
    rw [a4'.2.2.2.1.1, ← nI_add1]
    grind
  have hgo : f_X12_goOutOf n (pA μ1 29 (nI v) (0 + 1 + 1)) = some ((), pI (pI (pA μ1 29 (nI v) (0 + 1 + 1)) 25 (nI d)) 24 (nI top)) := by
    unfold f_X12_goOutOf f_X12_goOutOf_b19
    rw [gd3200 hn0 hn1, a4'.1.x 19 _ (by omega), h19, if_neg (nI_nneg (by omega)), e25, gd3200 hn0 hn1, xA_pI, a4'.1.x 2 _ (by omega), if_neg hkb.1, gd3200 hn0 hn1, xA_pI, a4'.1.x 10 _ (by omega), hj, gI_pI, if_neg (by decide), e24]
  have ho := st_out hv2 c3 (by decide) (n := n) (by rw [xA_pA, if_neg (fun w => absurd w.1 (by decide))]; exact t1.1) hgo
  have hd : d ≤ D h := q.2.2.2.1.2.2
  have hA : Aro σ τr (pA μ1 29 (nI v) (0 + 1 + 1)) S d (xA σ 22 h) d := by
    obtain ⟨_, _, _, d', hd', _, hh⟩ := a4'.2.2.2.1.2.1
    have : d' = d := by omega
    subst this
    rw [h22, h21] at hh
    rcases hh with ⟨w, _⟩ | ⟨_, _, w⟩
    · exact absurd h0 (by rw [w]; decide)
    · exact w
  have hp := ws_pop (ν := pI (pI (pA μ1 29 (nI v) (0 + 1 + 1)) 25 (nI d)) 24 (nI top)) (h := h) (d := d) a4' (by rw [hT.1, hj]) hj5 s0 h21 (fun g g1 g2 => by rw [gI_pI, if_neg g1, gI_pI, if_neg g2]) rfl (by rw [gI_pI, if_pos rfl]) (by rw [gI_pI, if_neg (by decide), gI_pI, if_pos rfl]) hA hd
  refine ⟨j1 + 1, B1, τ1, _, by omega, fun rec w v1 => ?_, a3, hp, ?_⟩
  · rw [hW, show w + (j1 + 1) = (w + 1) + j1 by omega, a2, ho]
  · have e0 : KW v μ ν := (mBa_kw μ v n (-1) hv2).tr (KW.of i3)
    have e1 : KW v μ (pA μ1 29 (nI v) (0 + 1 + 1)) := ((e0.A hv2).tr (a5.le (by omega))).A hv2
    exact e1
