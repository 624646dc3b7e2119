/-- only the row of the functions around is written, and the node's own place -/
def FrQ (n : Int32) (d : Nat) (μ ν : S5) : Prop := (∀ j, ¬ j = 25 → gI ν j = gI μ j) ∧ (∀ j, gJ ν j = gJ μ j) ∧ (∀ j, ¬ j = 25 → ¬ j = 27 → gA ν j = gA μ j) ∧ (∀ j, gB ν j = gB μ j) ∧ ν.2.2.2.2 = μ.2.2.2.2 ∧ (∀ i : Int32, 0 ≤ i → ¬ i = n → xA ν 25 i = xA μ 25 i) ∧ (∀ p, p < d → xA ν 27 (nI p) = xA μ 27 (nI p))
theorem FrQ.x {n : Int32} {d : Nat} {σ τ : S5} (h : FrQ n d σ τ) (j : Nat) (i : Int32) (h1 : ¬ j = 25) (h2 : ¬ j = 27) : xA τ j i = xA σ j i := by
  show gA τ j i.toNatClampNeg = gA σ j i.toNatClampNeg
  rw [h.2.2.1 j h1 h2]
theorem FrQ.y {n : Int32} {d : Nat} {σ τ : S5} (h : FrQ n d σ τ) (j : Nat) (i : Int32) : xB τ j i = xB σ j i := by
  show gB τ j i.toNatClampNeg = gB σ j i.toNatClampNeg
  rw [h.2.2.2.1 j]
/-- the walk comes into a scope -/
theorem ws_push {σ τr μ0 : S5} {k U F : Nat} {fs : Nat → Int32} {S : Int32} (hE : Env σ τr μ0 k U F fs S) {D : Int32 → Nat} {h s : Int32} {u : Nat} {n : Int32} {m top d d1 B f j : Nat} {τ μ μ1 ν : S5} {z : Nat → Int64} (q : WS σ τr μ0 k F S D h s u n m top d B τ μ) (w : FrQ n d μ μ1) (hn0 : 0 ≤ n) (hn1 : n < 3200) (s0 : 0 ≤ s) (s1 : s < S) (h21 : xA σ 21 s = h) (hj : xA σ 20 s = nI j) (hj5 : j ≤ 5) (hz : ∀ i, i < j → z i = xB σ 3 (s * 5 + nI i)) (hd1 : gI μ1 25 = nI d1) (hA : Aro σ τr μ1 S d1 (xA σ 22 s) d1) (hdD : d1 ≤ D s) (hP : PV μ1 ν z f top (prI (vC σ) s) (prI (wO σ (xA σ 22 s)) s) j) (hf : xA τr 26 (xA σ 22 s) = nI f) (hf6 : f < F) (ho : 0 ≤ xA σ 22 s ∧ xA σ 22 s < S ∧ xA σ 22 (xA σ 22 s) = xA σ 22 s) (h25 : xA μ1 25 n = nI (prI (vM μ0) n)) (ef : fC σ s.toNatClampNeg = fM μ0 n.toNatClampNeg) (ev : vC σ s.toNatClampNeg = vM μ0 n.toNatClampNeg) (e8 : ¬ xA μ0 2 n = 8) : WS σ τr μ0 k F S D s (s + 1) u (n + 1) (m + 1) (top + j) d1 B τ ν := by
  obtain ⟨q1, q2, ⟨q3, q4, q5⟩, ⟨q6, q7, q8⟩, ⟨q9, q10⟩, ⟨q11, q12, q13⟩, q14, ⟨q15, q16, q17⟩, ⟨q18, q19⟩⟩ := q
  obtain ⟨hD, hG, ⟨hS0, hS6⟩, hk, hF, hN, -, -, -, -, -⟩ := hE
  obtain ⟨p1, ⟨p2, p2'⟩, p3, p4, p5, p6, p7⟩ := hP
  have evj : vC σ s.toNatClampNeg = j := by unfold vC; rw [xA_tn, hj, nI_clamp (by omega)]
  have hls : s.toNatClampNeg < 630 := i_lt (n := 630) (fun w => by grind) (by grind)
  have hpv := vC_le hD s.toNatClampNeg (by omega)
  have ep : prI (vC σ) (s + 1) = prI (vC σ) s + j := by rw [prI_s _ s0 (by grind), evj]
  have x2 : ∀ (g : Nat) (i : Int32), ¬ g = 22 → ¬ g = 23 → ¬ g = 24 → ¬ g = 26 → ¬ g = 25 → ¬ g = 27 → xA ν g i = xA μ g i := fun g i a b c d e f => (p1.x g i a b c d).trans (w.x g i e f)
  refine ⟨?_, by rw [p2, ep], ⟨p2', ?_, by rw [ep]; omega⟩, ⟨by rw [p1.1 25 (by decide) (by decide)]; exact hd1, hA.st d1 _ d1 (fun p _ => p1.x 27 _ (by decide) (by decide) (by decide) (by decide)), hdD⟩, ⟨?_, ?_⟩, ⟨q11.st (fun x => x2 20 _ (by decide) (by decide) (by decide) (by decide) (by decide) (by decide)) (fun x => x2 21 _ (by decide) (by decide) (by decide) (by decide) (by decide) (by decide)), q12, q13⟩, ?_, ⟨?_, ?_, ?_⟩, ⟨?_, ?_⟩⟩
  · obtain ⟨a1, a2, a3, a4, a5, a6⟩ := q1
    refine ⟨fun g hg => ((p1.1 g (by omega) (by omega)).trans (w.1 g (by omega))).trans (a1 g hg), fun g => ((p1.2.1 g).trans (w.2.1 g)).trans (a2 g), fun g hg => ((p1.2.2.1 g (by omega) (by omega) (by omega) (by omega)).trans (w.2.2.1 g (by omega) (by omega))).trans (a3 g hg), fun g hg => ((p1.2.2.2.1 g hg).trans (w.2.2.2.1 g)).trans (a4 g hg), (p1.2.2.2.2.trans w.2.2.2.2.1).trans a5, fun i hi => ?_⟩
    rw [x2 7 _ (by decide) (by decide) (by decide) (by decide) (by decide) (by decide), x2 8 _ (by decide) (by decide) (by decide) (by decide) (by decide) (by decide)]
    exact a6 i hi
  · refine Or.inr ⟨s0, by grind, j, top, hj5, hj, rfl, fun i hi => ⟨by rw [(p3 i hi).1]; exact hz i hi, (p3 i hi).2.1⟩, ?_⟩
    rw [h21]
    exact q4.st m h top (fun p hp => ⟨by rw [(p4 p hp).1, w.y 4], by rw [(p4 p hp).2, w.x 26 _ (by decide) (by decide)]⟩)
  · intro x i j' x0 x1 xj x5 ij
    by_cases hx : x = s
    · subst hx
      have ejj : j' = j := nI_inj (by omega) (by omega) (xj.symm.trans hj)
      subst ejj
      exact ⟨(p3 i ij).2.2.1.trans hf.symm, (p3 i ij).2.2.2⟩
    · have hlt : x < s := by grind
      have := VR.ord (i' := 0) x0 (by grind) (by grind) xj x5 ij hlt
      have e5 := p5 (prI (vC σ) x + i) (by omega)
      rw [e5.1, e5.2, w.x 22 _ (by decide) (by decide), w.x 23 _ (by decide) (by decide)]
      exact q9 x i j' x0 hlt xj x5 ij
  · intro o f' o0 o1 o2 o3
    have eo : prI (wO σ o) (s + 1) = prI (wO σ o) s + wO σ o s.toNatClampNeg := prI_s _ s0 (by grind)
    by_cases hoo : o = xA σ 22 s
    · have ew : wO σ o s.toNatClampNeg = j := by
        unfold wO
        rw [xA_tn, if_pos hoo.symm, evj]
      rw [← o3, hoo, hf, p6, ← hoo, eo, ew]
    · have ew : wO σ o s.toNatClampNeg = 0 := by
        unfold wO
        rw [xA_tn, if_neg (fun w => hoo w.symm)]
      obtain ⟨g, g1, g2⟩ := hN.1 o o0 o1 o2
      have hgf : ¬ g = f := fun e => hoo (hN.2 o _ o0 o1 o2 ho.1 ho.2.1 ho.2.2 (by rw [g2, hf, e]))
      rw [← o3, g2, p7 g (by omega) hgf, w.x 24 _ (by decide) (by decide), q10 o g o0 o1 o2 g2, eo, ew]
      rfl
  · rw [p1.1 7 (by decide) (by decide), w.1 7 (by decide), p1.1 8 (by decide) (by decide), w.1 8 (by decide)]
    exact q14
  · rw [prI_s _ s0 (by grind), prI_s _ hn0 (by grind), ef, q15]
  · rw [prI_s _ s0 (by grind), prI_s _ hn0 (by grind), ev, q16]
  · have e0 : w8 μ0 n.toNatClampNeg = 0 := by unfold w8; rw [xA_tn, if_neg e8]
    rw [prI_s _ hn0 (by grind), e0]
    exact q17
  · intro n' n0 n1 n2
    have hne : ¬ n' = n := fun e => e8 (e ▸ n2)
    exact (q18 n' n0 (by grind) n2).st (x2 7 _ (by decide) (by decide) (by decide) (by decide) (by decide) (by decide)) (x2 8 _ (by decide) (by decide) (by decide) (by decide) (by decide) (by decide))
  · intro n' n0 n1 n2
    rw [p1.x 25 _ (by decide) (by decide) (by decide) (by decide)]
    by_cases hne : n' = n
    · rw [hne]; exact h25
    · rw [w.2.2.2.2.2.1 n' n0 hne]
      exact q19 n' n0 (by grind) n2
