/-- a name -/
theorem gt_name {σ τr μ0 : S5} {k U F : Nat} {fs : Nat → Int32} {S : Int32} (hE : Env σ τr μ0 k U F fs S) {D : Int32 → Nat} {h s u n : Int32} (hD : D h ≤ 61) (h0 : 0 ≤ h) (h1 : h < s) (hs : s ≤ S) (hu0 : 0 ≤ u) (hu1 : u.toNatClampNeg < U) (hn0 : 0 ≤ n) (hn1 : n < 3200) (h19 : xA μ0 19 n = -1) (h10 : xA μ0 10 n = 0) (hk : xA μ0 2 n = 8) (e4 : xB σ 4 u = xB μ0 0 n) (e27 : xA σ 27 u = h) (e28 : xA σ 28 u = xA μ0 6 n) : GoT σ τr μ0 k F S D h s s u (u + 1) n (n + 1) n := by
  intro v m top d B τ μ q hv hm
  have hE' := hE
  obtain ⟨gD, hG, ⟨hS0, hS6⟩, hkk, hF, hN, -, -, ⟨hU, hU10⟩, -, -⟩ := hE'
  have en : (n + 1).toNatClampNeg = n.toNatClampNeg + 1 := tn_s hn0 (by grind)
  have hul : u < 7000 := by
    rw [nI_tn hu0]
    exact (nI_lt31 (b := 7000) (by omega) (by omega)).mpr (by omega)
  have eu : (u + 1).toNatClampNeg = u.toNatClampNeg + 1 := tn_s hu0 hul
  have hv2 : v < 3200 := by omega
  have hsl : s.toNatClampNeg ≤ 630 := i_le (n := 630) (by grind)
  have hpv := vC_le gD s.toNatClampNeg (by omega)
  have f0 := mBa_fr n μ v n (-1)
  have q0 := q.w f0
  have hun := nI_tn hu0
  have hk2 : ¬ xA μ0 2 n = 0 ∧ ¬ xA μ0 2 n = 3 ∧ ¬ xA μ0 2 n = 6 ∧ ¬ xA μ0 2 n = 7 := by rw [hk]; decide
  have q00 := q0
  obtain ⟨w1, w2, ⟨w3, w4, w5⟩, ⟨w6, w7, w8'⟩, ⟨w9, w10⟩, ⟨w11, w12, w13⟩, w14, -, -⟩ := q00
  obtain ⟨τ', μ', b1, b2, b3, b4, b5, b6, b7⟩ := use_go hE (u := u.toNatClampNeg) (m := m) (top := top) (d := d) (B := B) (h := h) (n := n) hu1 hn0 hn1 h0 (by grind) (by omega) (by rw [w1.y 0 _ (by decide), ← hun]; exact e4.symm) (by rw [← hun]; exact e27) (by rw [← hun, w1.x 6 _ (by omega)]; exact e28) (w1.1 13 (by omega)) (fun i => w1.y 2 _ (by decide)) w4 w3 (by unfold prI at w5; omega) w7 w6 (by omega) w11 w12 (by omega) (fun x i j x0 x1 xj x5 ij => (w9 x i j x0 (by grind) xj x5 ij).1) w14
  have q1 := ws_use q0 hn0 hn1 hk h10 b3 b4 b5 b6 b7
  have f2 : FrW (n + 1) μ' (pA μ' 29 (nI v) (0 + 1)) := (FrW.rf (n + 1) μ').A (by omega)
  have q3 := q1.w f2
  have hat : At μ' v n 0 (-1) := by
    have := mBa_at μ v n (-1)
    have e : ∀ (g : Nat) (i : Int32), g = 28 ∨ g = 29 ∨ g = 30 → xA μ' g i = xA (mBa μ v n (-1)) g i := fun g i hg => by show gA μ' g _ = gA _ g _; rw [b5.2.2.1 g (by omega) (by omega) (by omega) (by omega)]
    exact ⟨(e 28 _ (by omega)).trans this.1, (e 29 _ (by omega)).trans this.2.1, (e 30 _ (by omega)).trans this.2.2⟩
  have hnx := nx_no (x := -1) hv2 hn0 hn1 hat (by rw [q1.1.x 2 _ (by omega)]; exact hk2) (chA_leaf hn0 hn1 (by rw [q1.1.x 2 _ (by omega)]; exact Or.inl hk))
  refine ⟨1, B + 700, τ', _, by omega, fun rec w v1 => ?_, fun w => ?_, by rw [eu]; exact q3, ?_⟩
  · unfold WB f_X12_comeInto f_X12_comeInto_b34
    rw [ba_no hv2 hn0 hn1 (by rw [q.1.x 2 _ (by omega)]; exact hk2), bd_of, gd3200 hn0 hn1, w1.x 19 _ (by omega), h19, if_pos (by decide), gd3200 hn0 hn1, w1.x 2 _ (by omega), hk, if_neg (by decide), gd3200 hn0 hn1, if_pos rfl, b2, bd_of]
    exact st_out hv2 hnx (by decide) (n := n) (by rw [xA_pA, if_neg (fun w => absurd w.1 (by decide))]; exact hat.1) (go_plain hn0 hn1 (by rw [q3.1.x 19 _ (by omega), h19]; decide) (by rw [q3.1.x 2 _ (by omega)]; exact hk2.1) (by rw [q3.1.x 10 _ (by omega)]; exact h10)) rec w v1
  · rw [eu, show u.toNatClampNeg + 1 - u.toNatClampNeg = 1 by omega]
    exact b1 w
  · refine KW.A ?_ hv2
    refine (mBa_kw μ v n (-1) hv2).tr (KW.of (fun g i hg => ?_))
    show gA μ' g _ = gA _ g _
    rw [b5.2.2.1 g (by omega) (by omega) (by omega) (by omega)]
