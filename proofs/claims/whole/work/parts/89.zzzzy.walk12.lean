theorem GS.own {σ : S5} {k : Nat} {fs : Nat → Int32} {S : Int32} (hG : GS σ k fs S) : ∀ x, 0 ≤ x → x < S → 0 ≤ xA σ 22 x ∧ xA σ 22 x < S ∧ xA σ 22 (xA σ 22 x) = xA σ 22 x := by
  have key : ∀ (q : Nat) (x : Int32), x.toNatClampNeg < q → 0 ≤ x → x < S → 0 ≤ xA σ 22 x ∧ xA σ 22 x < S ∧ xA σ 22 (xA σ 22 x) = xA σ 22 x := by
    intro q
    induction q with
    | zero => intro x hx; exact absurd hx (by omega)
    | succ q ih =>
      intro x hx x0 x1
      rcases hG.1 x x0 x1 with ⟨_, w, _⟩ | ⟨w1, w2, w3⟩
      · rw [w]; exact ⟨x0, x1, w⟩
      · rcases w3 with w3 | w3
        · rw [w3]; exact ⟨x0, x1, w3⟩
        · rw [w3]
          have := i_lt (a := xA σ 21 x) (n := x) (fun w => by grind) w2
          exact ih _ (by omega) w1 (by grind)
  intro x x0 x1
  exact key _ x (Nat.lt_succ_self _) x0 x1
/-- the names of a node come into sight: an alternative's -/
theorem gn_alt {σ τr μ0 : S5} {k U F : Nat} {fs : Nat → Int32} {S : Int32} (hE : Env σ τr μ0 k U F fs S) {D : Int32 → Nat} {h s : Int32} {u : Nat} {n : Int32} {m top d B j : Nat} {τ μ : S5} (q : WS σ τr μ0 k F S D h s u n m top d B τ μ) (hn0 : 0 ≤ n) (hn1 : n < 3200) (h0 : 0 ≤ h) (s0 : 0 ≤ s) (s1 : s < S) (h21 : xA σ 21 s = h) (h22 : xA σ 22 s = xA σ 22 h) (hdD : D h ≤ 61) (hDs : D h ≤ D s) (hT : TNames σ μ0 s n) (hj : xA μ0 10 n = nI j) (hj5 : j ≤ 5) (hg : gI μ0 10 ≤ 3000) (ef : fC σ s.toNatClampNeg = fM μ0 n.toNatClampNeg) (ev : vC σ s.toNatClampNeg = vM μ0 n.toNatClampNeg) (e8 : ¬ xA μ0 2 n = 8) : ∃ ν, f_X12_giveNames n μ = some ((), ν) ∧ WS σ τr μ0 k F S D s (s + 1) u (n + 1) (m + 1) (top + j) d B τ ν ∧ (∀ g i, g = 28 ∨ g = 29 ∨ g = 30 → xA ν g i = xA μ g i) := by
  have hE' := hE
  obtain ⟨gD, hG, ⟨hS0, hS6⟩, hkk, hF, hN, -, -, -, -, -⟩ := hE'
  have qq := q
  obtain ⟨w1, w2, ⟨w3, w4, w5⟩, ⟨w6, w7, w8'⟩, ⟨w9, w10⟩, ⟨w11, w12, w13⟩, w14, ⟨w15, w16, w17⟩, -⟩ := qq
  obtain ⟨t1, t2, t3, t4, t5, t6, t7⟩ := hT
  have ho := hG.own s s0 s1
  obtain ⟨f, f1, f2⟩ := hN.1 _ ho.1 ho.2.1 ho.2.2
  have hls : s.toNatClampNeg < 630 := i_lt (n := 630) (not_neg s0) (by grind)
  have hpv := vC_le gD s.toNatClampNeg (by omega)
  obtain ⟨d0, hd0, h27⟩ : ∃ d0, d = d0 + 1 ∧ xA μ 27 (nI d0) = nI f := by
    match d, w7 with
    | d0 + 1, ⟨_, _, _, d', hd', h27', _⟩ =>
      have : d' = d0 := by omega
      subst this
      exact ⟨d', rfl, by rw [h27', ← h22]; exact f2⟩
  have hji : ∀ i, i < j → 0 ≤ nI i ∧ nI i < xA μ0 10 n := fun i hi => ⟨i_le0 (nI_nneg (by omega)), by rw [hj]; exact (nI_lt31 (by omega) (by omega)).mpr hi⟩
  obtain ⟨ν, a1, a2⟩ := gn_go (μ := μ) (n := n) (f := f) (t := top) (v := prI (vC σ) s) (o := prI (wO σ (xA σ 22 s)) s) (j := j) (d0 := d0) (z := fun i => xB σ 3 (s * 5 + nI i)) hn0 hn1 (by rw [w1.x 10 _ (by omega)]; exact hj) hj5 (fun i hi => by
    have q1 := hji i hi
    rw [w1.x 9 _ (by omega), w1.y 1 _ (by decide)]
    refine ⟨?_, ?_, (t7 (nI i) q1.1 q1.2).symm⟩ <;> grind) (by rw [w6, hd0]) (by omega) h27 (by omega) (by unfold prI; omega) (by unfold prI at w5; omega) w2 w3 (w10 _ f ho.1 ho.2.1 ho.2.2 f2)
  have hQ : FrQ n d μ (pA μ 25 n (nI (prI (vC σ) s))) := ⟨fun _ _ => rfl, fun _ => rfl, fun g e1 e2 => by rw [gA_ne _ _ _ e1], fun _ => rfl, rfl, fun i i0 i1 => by rw [xA_pA, if_neg (fun w => i1 ((i_inj i0 hn0).mp w.2))], fun p _ => by rw [xA_pA, if_neg (fun w => absurd w.1 (by decide))]⟩
  refine ⟨ν, a1, ws_push hE q hQ hn0 hn1 s0 s1 h21 (by rw [t1, hj]) hj5 (fun i _ => rfl) w6 (by rw [h22]; exact w7.st d _ d (fun p _ => by rw [xA_pA, if_neg (fun w => absurd w.1 (by decide))])) (by omega) a2 f2 f1 ho (by rw [xA_pA, if_pos ⟨rfl, rfl⟩, w16]) ef ev e8, fun g i hgg => ?_⟩
  rw [a2.1.x g i (by omega) (by omega) (by omega) (by omega), xA_pA, if_neg (by omega)]
