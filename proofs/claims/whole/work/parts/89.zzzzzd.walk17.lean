/-- the walk comes into a let -/
theorem gn_let {σ τr μ0 : S5} {k U F : Nat} {fs : Nat → Int32} {S : Int32} (hE : Env σ τr μ0 k U F fs S) {D : Int32 → Nat} {h s : Int32} {u : Nat} {n : Int32} {m top d B j : Nat} {τ μ : S5} (q : WS σ τr μ0 k F S D h s u n m top d B τ μ) (hn0 : 0 ≤ n) (hn1 : n < 3200) (h0 : 0 ≤ h) (s0 : 0 ≤ s) (s1 : s < S) (h21 : xA σ 21 s = h) (h22 : xA σ 22 s = xA σ 22 h) (hdD : D h ≤ 61) (hDs : D h ≤ D s) (hj : xA σ 20 s = nI j) (hj1 : 1 ≤ j) (hj5 : j ≤ 5) (h19 : xA μ0 19 n = -1) (hk : xA μ0 2 n = 0) {g : Nat → Int32} (hg0 : g 0 = xA μ0 3 n) (hg : ∀ i, i < j → 0 ≤ g i ∧ g i < 3200 ∧ (xA μ0 5 (g i) = if i + 1 < j then g (i + 1) else -1) ∧ xB μ0 0 (g i) = xB σ 3 (s * 5 + nI i)) (ef : fC σ s.toNatClampNeg = fM μ0 n.toNatClampNeg) (ev : vC σ s.toNatClampNeg = vM μ0 n.toNatClampNeg) : ∃ ν, f_X12_comeInto n μ = some ((), ν) ∧ WS σ τr μ0 k F S D s (s + 1) u (n + 1) (m + 1) (top + j) d B τ ν ∧ (∀ g i, g = 28 ∨ g = 29 ∨ g = 30 → xA ν g i = xA μ g i) := by
  have hE' := hE
  obtain ⟨gD, hG, ⟨hS0, hS6⟩, hkk, hF, hN, -, -, -, -, -⟩ := hE'
  have qq := q
  obtain ⟨w1, w2, ⟨w3, w4, w5⟩, ⟨w6, w7, w8'⟩, ⟨w9, w10⟩, ⟨w11, w12, w13⟩, w14, ⟨w15, w16, w17⟩, -⟩ := qq
  have hbig := FU_big (n := 30000) (by decide)
  have ho := hG.own s s0 s1
  obtain ⟨f, f1, f2⟩ := hN.1 _ ho.1 ho.2.1 ho.2.2
  have hls : s.toNatClampNeg < 630 := i_lt (n := 630) (not_neg s0) (by grind)
  have hpv := vC_le gD s.toNatClampNeg (by omega)
  obtain ⟨d0, hd0, h27⟩ : ∃ d0, d = d0 + 1 ∧ xA μ 27 (nI d0) = nI f := by
    match d, w7 with
    | d0 + 1, ⟨_, _, _, d', hd', h27', _⟩ =>
      have : d' = d0 := by omega
      subst this
      exact ⟨d', rfl, by rw [h27', ← h22]; exact f2⟩
  have ex : ∀ (g : Nat) (i : Int32), ¬ g = 25 → xA (pA μ 25 n (nI (prI (vC σ) s))) g i = xA μ g i := fun g i hgg => by rw [xA_pA, if_neg (fun w => hgg w.1)]
  obtain ⟨ν, a1, a2⟩ := gl_loop (μ := pA μ 25 n (nI (prI (vC σ) s))) (g := g) (f := f) (t := top) (v := prI (vC σ) s) (o := prI (wO σ (xA σ 22 s)) s) (j := j) (d0 := d0) (z := fun i => xB σ 3 (s * 5 + nI i)) hj5 (fun i hi => by
    obtain ⟨z1, z2, z3, z4⟩ := hg i hi
    refine ⟨z1, z2, by rw [ex 5 _ (by decide), w1.x 5 _ (by omega)]; exact z3, ?_⟩
    show xB μ 0 _ = _
    rw [w1.y 0 _ (by decide)]
    exact z4) (by rw [gI_pA, w6, hd0]) (by omega) (by rw [ex 27 _ (by decide)]; exact h27) (by omega) (by unfold prI; omega) (by unfold prI at w5; omega) (j - 1) 0 FU _ (by omega) (by omega) (PV.zero w2 w3 (by rw [ex 24 _ (by decide)]; exact w10 _ f ho.1 ho.2.1 ho.2.2 f2))
  have hQ : FrQ n d μ (pA μ 25 n (nI (prI (vC σ) s))) := ⟨fun _ _ => rfl, fun _ => rfl, fun g e1 e2 => by rw [gA_ne _ _ _ e1], fun _ => rfl, rfl, fun i i0 i1 => by rw [xA_pA, if_neg (fun w => i1 ((i_inj i0 hn0).mp w.2))], fun p _ => ex 27 _ (by decide)⟩
  refine ⟨ν, ?_, ws_push hE q hQ hn0 hn1 s0 s1 h21 hj hj5 (fun i _ => rfl) w6 (by rw [h22]; exact w7.st d _ d (fun p _ => ex 27 _ (by decide))) (by omega) a2 f2 f1 ho (by rw [xA_pA, if_pos ⟨rfl, rfl⟩, w16]) ef ev (by rw [hk]; decide), fun g i hgg => ?_⟩
  · unfold f_X12_comeInto f_X12_comeInto_b34
    rw [gd3200 hn0 hn1, w1.x 19 _ (by omega), h19, if_pos (by decide), gd3200 hn0 hn1, w1.x 2 _ (by omega), if_pos hk, gd3200 hn0 hn1, gd3200 hn0 hn1, w1.x 3 _ (by omega), ← hg0, w2]
    exact a1
  · rw [a2.1.x g i (by omega) (by omega) (by omega) (by omega), ex g i (by omega)]
