/-- both between two functions at the top -/
def WT (σ τr μ0 : S5) (k F : Nat) (S s : Int32) (u : Nat) (a : Int32) (B : Nat) (τ μ : S5) : Prop := WF μ0 μ ∧ gI μ 23 = nI (prI (vC σ) s) ∧ gI μ 24 = nI 0 ∧ HV σ τr μ S s ∧ (FRs σ τ μ B F ∧ FrF τr τ ∧ B ≤ 700 * u) ∧ FlU σ k u (gI μ 7) (gI μ 8) ∧ PE σ μ0 s u a ∧ NW σ μ0 μ k a
/-- what doesn't matter between two functions -/
def FrT (a : Int32) (μ ν : S5) : Prop := (∀ j, ¬ j = 24 → ¬ j = 25 → gI ν j = gI μ j) ∧ (∀ j, gJ ν j = gJ μ j) ∧ (∀ j, ¬ j = 25 → ¬ j = 27 → ¬ j = 28 → ¬ j = 29 → ¬ j = 30 → gA ν j = gA μ j) ∧ (∀ j, gB ν j = gB μ j) ∧ ν.2.2.2.2 = μ.2.2.2.2 ∧ (∀ i : Int32, 0 ≤ i → i < a → xA ν 25 i = xA μ 25 i)
theorem FrT.x {a : Int32} {σ τ : S5} (h : FrT a σ τ) (j : Nat) (i : Int32) (h1 : ¬ j = 25) (h0 : ¬ j = 27) (h2 : ¬ j = 28) (h3 : ¬ j = 29) (h4 : ¬ j = 30) : xA τ j i = xA σ j i := by
  show gA τ j i.toNatClampNeg = gA σ j i.toNatClampNeg
  rw [h.2.2.1 j h1 h0 h2 h3 h4]
theorem WT.mk {σ τr μ0 : S5} {k F : Nat} {S s : Int32} {u : Nat} {a : Int32} {B : Nat} {τ μ ν : S5} (q1 : WF μ0 μ) (q2 : gI μ 23 = nI (prI (vC σ) s)) (qh : HV σ τr μ S s) (qf : FRs σ τ μ B F ∧ FrF τr τ ∧ B ≤ 700 * u) (q14 : FlU σ k u (gI μ 7) (gI μ 8)) (q15 : PE σ μ0 s u a) (qn : NW σ μ0 μ k a) (w : FrT a μ ν) (h24 : gI ν 24 = nI 0) : WT σ τr μ0 k F S s u a B τ ν := by
  obtain ⟨q9, q10⟩ := qh
  obtain ⟨q11, q12, q13⟩ := qf
  obtain ⟨q16, q17⟩ := qn
  refine ⟨?_, (w.1 23 (by decide) (by decide)).trans q2, h24, ⟨fun x i j x0 x1 xj x5 ij => ?_, fun o f o0 o1 o2 o3 => ?_⟩, ⟨q11.st (fun x => w.x 20 _ (by decide) (by decide) (by decide) (by decide) (by decide)) (fun x => w.x 21 _ (by decide) (by decide) (by decide) (by decide) (by decide)), q12, q13⟩, by rw [w.1 7 (by decide) (by decide), w.1 8 (by decide) (by decide)]; exact q14, q15, ⟨fun n n0 n1 n2 => ?_, fun n n0 n1 n2 => ?_⟩⟩
  · obtain ⟨h1, h2, h3, h4, h5, h6⟩ := q1
    refine ⟨fun j hj => (w.1 j (by omega) (by omega)).trans (h1 j hj), fun j => (w.2.1 j).trans (h2 j), fun j hj => (w.2.2.1 j (by omega) (by omega) (by omega) (by omega) (by omega)).trans (h3 j hj), fun j hj => (w.2.2.2.1 j).trans (h4 j hj), w.2.2.2.2.1.trans h5, fun i hi => ?_⟩
    rw [w.x 7 i (by decide) (by decide) (by decide) (by decide) (by decide), w.x 8 i (by decide) (by decide) (by decide) (by decide) (by decide)]
    exact h6 i hi
  · rw [w.x 22 _ (by decide) (by decide) (by decide) (by decide) (by decide), w.x 23 _ (by decide) (by decide) (by decide) (by decide) (by decide)]
    exact q9 x i j x0 x1 xj x5 ij
  · rw [w.x 24 _ (by decide) (by decide) (by decide) (by decide) (by decide)]
    exact q10 o f o0 o1 o2 o3
  · exact (q16 n n0 n1 n2).st (w.x 7 _ (by decide) (by decide) (by decide) (by decide) (by decide)) (w.x 8 _ (by decide) (by decide) (by decide) (by decide) (by decide))
  · rw [w.2.2.2.2.2 n n0 n1]
    exact q17 n n0 n1 n2
theorem WT.fr {σ τr μ0 : S5} {k F : Nat} {S s : Int32} {u : Nat} {a : Int32} {B : Nat} {τ μ ν : S5} (q : WT σ τr μ0 k F S s u a B τ μ) (w : FrT a μ ν) (h24 : gI ν 24 = nI 0) : WT σ τr μ0 k F S s u a B τ ν := WT.mk q.1 q.2.1 q.2.2.2.1 q.2.2.2.2.1 q.2.2.2.2.2.1 q.2.2.2.2.2.2.1 q.2.2.2.2.2.2.2 w h24
theorem WS.t {σ τr μ0 : S5} {k F : Nat} {S : Int32} {D : Int32 → Nat} {h s : Int32} {u : Nat} {a : Int32} {m top d B : Nat} {τ μ ν : S5} (q : WS σ τr μ0 k F S D h s u a m top d B τ μ) (w : FrT a μ ν) (h24 : gI ν 24 = nI 0) : WT σ τr μ0 k F S s u a B τ ν := WT.mk q.1 q.2.1 q.2.2.2.2.1 q.2.2.2.2.2.1 q.2.2.2.2.2.2.1 q.2.2.2.2.2.2.2.1 q.2.2.2.2.2.2.2.2 w h24
/-- the walk comes into a function at the top -/
theorem ws_top {σ τr μ0 : S5} {k U F : Nat} {fs : Nat → Int32} {S : Int32} (hE : Env σ τr μ0 k U F fs S) {D : Int32 → Nat} {s : Int32} {u : Nat} {n : Int32} {B f j : Nat} {τ μ μ1 ν : S5} {z : Nat → Int64} (q : WT σ τr μ0 k F S s u n B τ μ) (w : FrQ n 0 μ μ1) (hn0 : 0 ≤ n) (hn1 : n < 3200) (s0 : 0 ≤ s) (s1 : s < S) (h21 : xA σ 21 s = -1) (hj : xA σ 20 s = nI j) (hj5 : j ≤ 5) (hz : ∀ i, i < j → z i = xB σ 3 (s * 5 + nI i)) (hd1 : gI μ1 25 = nI 1) (hA : Aro σ τr μ1 S 1 (xA σ 22 s) 1) (hdD : 1 ≤ D s) (hP : PV μ1 ν z f 0 (prI (vC σ) s) (prI (wO σ (xA σ 22 s)) s) j) (hf : xA τr 26 (xA σ 22 s) = nI f) (hf6 : f < F) (ho : 0 ≤ xA σ 22 s ∧ xA σ 22 s < S ∧ xA σ 22 (xA σ 22 s) = xA σ 22 s) (h25 : xA μ1 25 n = nI (prI (vM μ0) n)) (ef : fC σ s.toNatClampNeg = fM μ0 n.toNatClampNeg) (ev : vC σ s.toNatClampNeg = vM μ0 n.toNatClampNeg) (e8 : ¬ xA μ0 2 n = 8) : WS σ τr μ0 k F S D s (s + 1) u (n + 1) 2 (0 + j) 1 B τ ν := by
  obtain ⟨q1, q2, q3, ⟨q9, q10⟩, ⟨q11, q12, q13⟩, q14, ⟨q15, q16, q17⟩, ⟨q18, q19⟩⟩ := q
  obtain ⟨hD, hG, ⟨hS0, hS6⟩, hk, hF, hN, -, -, -, -, -⟩ := hE
  obtain ⟨p1, ⟨p2, p2'⟩, p3, p4, p5, p6, p7⟩ := hP
  have evj : vC σ s.toNatClampNeg = j := by unfold vC; rw [xA_tn, hj, nI_clamp (by omega)]
  have hls : s.toNatClampNeg < 630 := i_lt (n := 630) (fun w => by grind) (by grind)
  have hpv := vC_le hD s.toNatClampNeg (by omega)
  have ep : prI (vC σ) (s + 1) = prI (vC σ) s + j := by rw [prI_s _ s0 (by grind), evj]
  have x2 : ∀ (g : Nat) (i : Int32), ¬ g = 22 → ¬ g = 23 → ¬ g = 24 → ¬ g = 26 → ¬ g = 25 → ¬ g = 27 → xA ν g i = xA μ g i := fun g i a b c d e f => (p1.x g i a b c d).trans (w.x g i e f)
  refine ⟨?_, by rw [p2, ep], ⟨p2', ?_, by rw [ep]; omega⟩, ⟨by rw [p1.1 25 (by decide) (by decide)]; exact hd1, hA.st 1 _ 1 (fun p _ => p1.x 27 _ (by decide) (by decide) (by decide) (by decide)), hdD⟩, ⟨?_, ?_⟩, ⟨q11.st (fun x => x2 20 _ (by decide) (by decide) (by decide) (by decide) (by decide) (by decide)) (fun x => x2 21 _ (by decide) (by decide) (by decide) (by decide) (by decide) (by decide)), q12, q13⟩, ?_, ⟨?_, ?_, ?_⟩, ⟨?_, ?_⟩⟩
  · obtain ⟨a1, a2, a3, a4, a5, a6⟩ := q1
    refine ⟨fun g hg => ((p1.1 g (by omega) (by omega)).trans (w.1 g (by omega))).trans (a1 g hg), fun g => ((p1.2.1 g).trans (w.2.1 g)).trans (a2 g), fun g hg => ((p1.2.2.1 g (by omega) (by omega) (by omega) (by omega)).trans (w.2.2.1 g (by omega) (by omega))).trans (a3 g hg), fun g hg => ((p1.2.2.2.1 g hg).trans (w.2.2.2.1 g)).trans (a4 g hg), (p1.2.2.2.2.trans w.2.2.2.2.1).trans a5, fun i hi => ?_⟩
    rw [x2 7 _ (by decide) (by decide) (by decide) (by decide) (by decide) (by decide), x2 8 _ (by decide) (by decide) (by decide) (by decide) (by decide) (by decide)]
    exact a6 i hi
  · exact Or.inr ⟨s0, by grind, j, 0, hj5, hj, rfl, fun i hi => ⟨by rw [(p3 i hi).1]; exact hz i hi, (p3 i hi).2.1⟩, Or.inl ⟨h21, rfl⟩⟩
  · intro x i j' x0 x1 xj x5 ij
    by_cases hx : x = s
    · subst hx
      have ejj : j' = j := nI_inj (by omega) (by omega) (xj.symm.trans hj)
      subst ejj
      exact ⟨(p3 i ij).2.2.1.trans hf.symm, (p3 i ij).2.2.2⟩
    · have hlt : x < s := by grind
      have := VR.ord (i' := 0) x0 (by grind) (by grind) xj x5 ij hlt
      have e5 := p5 (prI (vC σ) x + i) (by omega)
      rw [e5.1, e5.2, w.x 22 _ (by decide) (by decide), w.x 23 _ (by decide) (by decide)]
      exact q9 x i j' x0 hlt xj x5 ij
  · intro o f' o0 o1 o2 o3
    have eo : prI (wO σ o) (s + 1) = prI (wO σ o) s + wO σ o s.toNatClampNeg := prI_s _ s0 (by grind)
    by_cases hoo : o = xA σ 22 s
    · have ew : wO σ o s.toNatClampNeg = j := by
        unfold wO
        rw [xA_tn, if_pos hoo.symm, evj]
      rw [← o3, hoo, hf, p6, ← hoo, eo, ew]
    · have ew : wO σ o s.toNatClampNeg = 0 := by
        unfold wO
        rw [xA_tn, if_neg (fun w => hoo w.symm)]
      obtain ⟨g, g1, g2⟩ := hN.1 o o0 o1 o2
      have hgf : ¬ g = f := fun e => hoo (hN.2 o _ o0 o1 o2 ho.1 ho.2.1 ho.2.2 (by rw [g2, hf, e]))
      rw [← o3, g2, p7 g (by omega) hgf, w.x 24 _ (by decide) (by decide), q10 o g o0 o1 o2 g2, eo, ew]
      rfl
  · rw [p1.1 7 (by decide) (by decide), w.1 7 (by decide), p1.1 8 (by decide) (by decide), w.1 8 (by decide)]
    exact q14
  · rw [prI_s _ s0 (by grind), prI_s _ hn0 (by grind), ef, q15]
  · rw [prI_s _ s0 (by grind), prI_s _ hn0 (by grind), ev, q16]
  · have e0 : w8 μ0 n.toNatClampNeg = 0 := by unfold w8; rw [xA_tn, if_neg e8]
    rw [prI_s _ hn0 (by grind), e0]
    exact q17
  · intro n' n0 n1 n2
    have hne : ¬ n' = n := fun e => e8 (e ▸ n2)
    exact (q18 n' n0 (by grind) n2).st (x2 7 _ (by decide) (by decide) (by decide) (by decide) (by decide) (by decide)) (x2 8 _ (by decide) (by decide) (by decide) (by decide) (by decide) (by decide))
  · intro n' n0 n1 n2
    rw [p1.x 25 _ (by decide) (by decide) (by decide) (by decide)]
    by_cases hne : n' = n
    · rw [hne]; exact h25
    · rw [w.2.2.2.2.2.1 n' n0 hne]
      exact q19 n' n0 (by grind) n2
