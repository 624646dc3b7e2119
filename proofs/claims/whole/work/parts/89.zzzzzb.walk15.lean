/-- the walk comes into a function: the row of the functions around -/
theorem gn_fun {σ τr μ0 : S5} {k U F : Nat} {fs : Nat → Int32} {S : Int32} (hE : Env σ τr μ0 k U F fs S) {D : Int32 → Nat} {h s : Int32} {u : Nat} {n : Int32} {m top d B j f : Nat} {τ μ : S5} (q : WS σ τr μ0 k F S D h s u n m top d B τ μ) (hn0 : 0 ≤ n) (hn1 : n < 3200) (h0 : 0 ≤ h) (hS : h < S) (s0 : 0 ≤ s) (s1 : s < S) (h21 : xA σ 21 s = h) (h22 : xA σ 22 s = s) (hdD : D h ≤ 61) (hDs : D s = D h + 1) (hT : TNames σ μ0 s n) (hj : xA μ0 10 n = nI j) (hj5 : j ≤ 5) (hg : gI μ0 10 ≤ 3000) (hf : xA τr 26 s = nI f) (hf6 : f < F) (h19 : xA μ0 19 n = nI f) (ef : fC σ s.toNatClampNeg = fM μ0 n.toNatClampNeg) (ev : vC σ s.toNatClampNeg = vM μ0 n.toNatClampNeg) (e8 : ¬ xA μ0 2 n = 8) (e0 : ¬ xA μ0 2 n = 0) : ∃ ν, f_X12_comeInto n μ = some ((), ν) ∧ WS σ τr μ0 k F S D s (s + 1) u (n + 1) (m + 1) (top + j) (d + 1) B τ ν ∧ (∀ g i, g = 28 ∨ g = 29 ∨ g = 30 → xA ν g i = xA μ g i) := by
  have hE' := hE
  obtain ⟨gD, hG, ⟨hS0, hS6⟩, hkk, hF, hN, -, -, -, -, -⟩ := hE'
  have qq := q
  obtain ⟨w1, w2, ⟨w3, w4, w5⟩, ⟨w6, w7, w8'⟩, ⟨w9, w10⟩, ⟨w11, w12, w13⟩, w14, ⟨w15, w16, w17⟩, -⟩ := qq
  obtain ⟨t1, t2, t3, t4, t5, t6, t7⟩ := hT
  have hls : s.toNatClampNeg < 630 := i_lt (n := 630) (not_neg s0) (by grind)
  have hpv := vC_le gD s.toNatClampNeg (by omega)
  have hji : ∀ i, i < j → 0 ≤ nI i ∧ nI i < xA μ0 10 n := fun i hi => ⟨i_le0 (nI_nneg (by omega)), by rw [hj]; exact (nI_lt31 (by omega) (by omega)).mpr hi⟩
  have ex : ∀ (g : Nat) (i : Int32), ¬ g = 27 → xA (pI (pA μ 27 (nI d) (nI f)) 25 (nI d + 1)) g i = xA μ g i := fun g i hgg => by rw [xA_pI, xA_pA, if_neg (fun w => hgg w.1)]
  have e27 : xA (pI (pA μ 27 (nI d) (nI f)) 25 (nI d + 1)) 27 (nI d) = nI f := by rw [xA_pI, xA_pA, if_pos ⟨rfl, rfl⟩]
  have e27' : ∀ p, p < d → xA (pI (pA μ 27 (nI d) (nI f)) 25 (nI d + 1)) 27 (nI p) = xA μ 27 (nI p) := fun p hp => by rw [xA_pI, xA_pA, if_neg (fun w => tn_ne (by omega) (by omega) (by omega) w.2)]
  have e25 : gI (pI (pA μ 27 (nI d) (nI f)) 25 (nI d + 1)) 25 = nI (d + 1) := by rw [gI_pI, if_pos rfl, nI_add1]
  obtain ⟨ν, a1, a2⟩ := gn_go (μ := pI (pA μ 27 (nI d) (nI f)) 25 (nI d + 1)) (n := n) (f := f) (t := top) (v := prI (vC σ) s) (o := prI (wO σ (xA σ 22 s)) s) (j := j) (d0 := d) (z := fun i => xB σ 3 (s * 5 + nI i)) hn0 hn1 (by rw [ex 10 _ (by decide), w1.x 10 _ (by omega)]; exact hj) hj5 (fun i hi => by
    have q1 := hji i hi
    rw [ex 9 _ (by decide), w1.x 9 _ (by omega)]
    refine ⟨?_, ?_, ?_⟩
    · grind
    · grind
    · show xB μ 1 _ = _
      rw [w1.y 1 _ (by decide)]
      exact (t7 (nI i) q1.1 q1.2).symm) e25 (by omega) e27 (by omega) (by unfold prI; omega) (by unfold prI at w5; omega) (by rw [gI_pI, if_neg (by decide)]; exact w2) (by rw [gI_pI, if_neg (by decide)]; exact w3) (by rw [ex 24 _ (by decide), h22]; exact w10 _ f s0 s1 h22 hf)
  have hQ : FrQ n d μ (pA (pI (pA μ 27 (nI d) (nI f)) 25 (nI d + 1)) 25 n (nI (prI (vC σ) s))) := by
    refine ⟨fun g hgg => ?_, fun _ => rfl, fun g g1 g2 => ?_, fun _ => rfl, rfl, fun i i0 i1 => ?_, fun p hp => ?_⟩
    · rw [gI_pA, gI_pI, if_neg hgg]; rfl
    · rw [gA_ne _ _ _ g1, gA_pI, gA_ne _ _ _ g2]
    · rw [xA_pA, if_neg (fun w => i1 ((i_inj i0 hn0).mp w.2)), ex 25 _ (by decide)]
    · rw [xA_pA, if_neg (fun w => absurd w.1 (by decide)), e27' p hp]
  have hA : Aro σ τr (pA (pI (pA μ 27 (nI d) (nI f)) 25 (nI d + 1)) 25 n (nI (prI (vC σ) s))) S (d + 1) (xA σ 22 s) (d + 1) := by
    rw [h22]
    refine ⟨s0, s1, h22, d, rfl, by rw [xA_pA, if_neg (fun w => absurd w.1 (by decide)), e27, hf], Or.inr ⟨by rw [h21]; exact h0, by rw [h21]; exact hS, ?_⟩⟩
    rw [h21]
    exact w7.st d _ d (fun p hp => by rw [xA_pA, if_neg (fun w => absurd w.1 (by decide)), e27' p hp])
  refine ⟨ν, ?_, ws_push hE q hQ hn0 hn1 s0 s1 h21 (by rw [t1, hj]) hj5 (fun i _ => rfl) (by rw [gI_pA]; exact e25) hA (by omega) a2 (by rw [h22]; exact hf) hf6 ⟨by rw [h22]; exact s0, by rw [h22]; exact s1, by rw [h22]; exact h22⟩ (by rw [xA_pA, if_pos ⟨rfl, rfl⟩, w16]) ef ev e8, fun g i hgg => ?_⟩
  · unfold f_X12_comeInto f_X12_comeInto_b34
    rw [gd3200 hn0 hn1, w1.x 19 _ (by omega), h19, if_neg (nI_nneg (by omega)), gd3200 hn0 hn1, w6, gdn (by omega) (by omega), gd3200 hn0 hn1, ex 2 _ (by decide), w1.x 2 _ (by omega), if_neg e0, gd3200 hn0 hn1, if_neg e8, a1, bd_of]
  · rw [a2.1.x g i (by omega) (by omega) (by omega) (by omega), xA_pA, if_neg (by omega), ex g i (by omega)]
