theorem own_le {σ : S5} {k : Nat} {fs : Nat → Int32} {S : Int32} (hG : GS σ k fs S) : ∀ (n : Nat) (x : Int32), x.toNatClampNeg < n → 0 ≤ x → x < S → xA σ 22 x ≤ x
  | 0, x, h, _, _ => absurd h (by omega)
  | n + 1, x, h, x0, x1 => by
    rcases hG.1 x x0 x1 with ⟨_, w, _⟩ | ⟨w1, w2, w3 | w3⟩
    · rw [w]; exact Int32.le_refl _
    · rw [w3]; exact Int32.le_refl _
    · have hl : (xA σ 21 x).toNatClampNeg < x.toNatClampNeg := i_lt (not_neg w1) w2
      have := own_le hG n (xA σ 21 x) (by omega) w1 (by grind)
      rw [w3]
      grind
/-- leaves that a function within needs in its place -/
def lwF (cf : Nat → Nat) (f : Nat) : Nat := if cf f = 0 then 0 else cf f + 1
def wlN (σ τr : S5) (cf : Nat → Nat) (j : Nat) : Nat := if xA σ 13 (nI j) = 14 then lwF cf (xA τr 26 (xA σ 14 (nI j))).toNatClampNeg else 0
/-- the one side when its variables have been numbered -/
def LXc (σ ν τr τv : S5) (k U F : Nat) (S : Int32) (sc : Nat → Int32) (cf : Nat → Nat) : Prop := (DN σ ∧ (0 ≤ S ∧ S ≤ 630) ∧ S = gI σ 9 ∧ F ≤ 630 ∧ k ≤ F ∧ (U ≤ 600 ∧ gI σ 10 = nI U)) ∧ (∀ s, 0 ≤ s → s < S → 0 ≤ xA σ 22 s ∧ xA σ 22 s < S ∧ xA σ 22 (xA σ 22 s) = xA σ 22 s) ∧ (∀ f, f < F → (0 ≤ sc f ∧ sc f < S ∧ xA σ 22 (sc f) = sc f ∧ xA τr 26 (sc f) = nI f) ∧ (xA τv 8 (nI f) = sc f ∧ xA τv 7 (nI f) = xA σ 23 (sc f) ∧ xA τv 4 (nI f) = nI (cf f) ∧ cf f ≤ 8 ∧ xA τv 6 (nI f) = nI (nvF σ S sc cf f))) ∧ (∀ s, 0 ≤ s → s < S → ∃ f, f < F ∧ xA σ 22 s = sc f) ∧ ((∀ j i, j = 2 ∨ (13 ≤ j ∧ j ≤ 24) ∨ (27 ≤ j ∧ j ≤ 29) → xA τv j i = xA σ j i) ∧ (∀ i, xA τv 26 i = xA τr 26 i) ∧ gI τv 8 = gI σ 8 ∧ gI τv 10 = gI σ 10 ∧ gI τv 6 = nI F ∧ gI τv 20 = 0) ∧ (∀ f s, f < F → 0 ≤ s → s < S → xA σ 22 s = sc f → xA τv 25 s = nI (cf f + prI (wO σ (sc f)) s)) ∧ (∀ u, u < U → xA τv 30 (nI u) = tg σ k u) ∧ (∀ u, u < U → 0 ≤ tg σ k u → ∃ f, f < F ∧ xA σ 22 (xA σ 27 (nI u)) = sc f ∧ Kn σ τv S sc cf f (tg σ k u)) ∧ (∀ f q, f < F → 0 ≤ xA σ 21 (sc f) → q < cf f → ∃ g, g < F ∧ xA σ 22 (xA σ 21 (sc f)) = sc g ∧ Kn σ τv S sc cf g (xA τv 5 (nI (f * 8 + q)))) ∧ CV σ ν S 0 S 0 (gI σ 10) 0 (gI σ 8) ∧ ((0 ≤ gI σ 8 ∧ gI σ 4 ≤ 30 ∧ prI (w3 σ) (gI σ 8) = U) ∧ (gI σ 8).toNatClampNeg + prI (wlN σ τr cf) (gI σ 8) ≤ 6100)
theorem lx_go {σ μ τn τr ν τf μf τm μm : S5} {k U F B : Nat} {cc fs fu fn ft : Nat → Int32} (h : LF σ μ τn τr ν τf μf k U F B cc fs fu fn ft) (hf : f_X2_findFree τr = some ((), τf)) (hJ : JG σ τf μf τm μm k F) (h20 : gI τm 20 = 0) {D : Int32 → Nat} (hD : ∀ x, 0 ≤ x → x < gI σ 9 → D x ≤ 61 ∧ (0 ≤ xA σ 21 x → D x = D (xA σ 21 x) + 1)) (hnp : prI (wp σ) (gI σ 8) ≤ 600) (h80 : 0 ≤ gI σ 8) (hg4 : gI σ 4 ≤ 30) : ∃ τv sc cf, f_X2_numberVariables τm = some ((), τv) ∧ LXc σ ν τr τv k U F (gI σ 9) sc cf ∧ FrB τm τv ∧ (∀ f, f < F → xA τm 3 (nI f) = nI (cf f + vC σ (sc f).toNatClampNeg)) ∧ (∀ f, f < F → xA τf 4 (nI f) = nI (cf f) ∧ xA τn 8 (nI f) = sc f) := by
  have hfj := h.fj
  have hcl := h.cl hf
  have htz := h.tz hf
  have htt := h.tt hf hD
  have hev := h.ev hf hD
  obtain ⟨hE, ⟨hN, hF, hF6⟩, ⟨hR, -⟩, ⟨hV, hFm⟩, hp, ⟨hU, hU6, v90, v9, v10⟩, hW⟩ := h
  obtain ⟨-, -, -, -, ⟨w5, w6, w7⟩, -⟩ := hW
  obtain ⟨-, j2, j3, j4, j5⟩ := hJ
  obtain ⟨j6, j7, j8⟩ := j5 h20
  have hE' := hE
  obtain ⟨hDN, hG, ⟨hS0, hS6⟩, hk, -, hNj, hA, h30, -, h13, hnm⟩ := hE'
  have hcov := hp.cov hS6 v9
  have hcw := hp.cw hS6
  have hw3 : prI (w3 σ) (gI σ 8) = U := by
    have a := (hp.cu v9 k (Nat.le_refl _)).2
    rw [hp.1.2.2.2.1, hp.1.2.2.2.2.2.2.2, hU, nI_clamp (by omega)] at a
    exact a.symm
  -- rows
  have xf : ∀ j i, ¬ j = 4 → ¬ j = 5 → xA τf j i = xA τr j i := fun j i a b => w6.x j i a b
  have xn : ∀ j i, ¬ j = 4 → ¬ j = 5 → ¬ j = 30 → xA τf j i = xA τn j i := fun j i a b c => by rw [xf j i a b, hR.x j c]
  have xs : ∀ j i, j = 2 ∨ (13 ≤ j ∧ j ≤ 24) ∨ (27 ≤ j ∧ j ≤ 29) → xA τf j i = xA σ j i := fun j i hj => by rw [xn j i (by omega) (by omega) (by omega)]; exact hN.1.1.x j i (by omega) (by omega) (by omega) (by omega) (by omega)
  have xm : ∀ j i, ¬ j = 3 → xA τm j i = xA τf j i := fun j i a => by show gA τm j _ = gA τf j _; rw [j3.2.2.1 j a]
  have gm : ∀ j, ¬ j = 6 → ¬ j = 7 → ¬ j = 20 → ¬ j = 21 → gI τm j = gI σ j := fun j a b c d => by rw [j3.1 j b c d, w6.1 j, hR.1 j c d, hN.1.1.1 j a]
  have g6 : gI τm 6 = nI F := by rw [j3.1 6 (by decide) (by decide) (by decide), w6.1 6, hR.1 6 (by decide) (by decide), hN.1.2.1, hF]
  -- counts
  have h4 : ∀ f, f < F → xA τf 4 (nI f) = nI (xA τf 4 (nI f)).toNatClampNeg := fun f hf' => nI_tn (hev.1.2.1 f hf')
  have hsc : ∀ f, f < F → (0 ≤ xA τn 8 (nI f) ∧ xA τn 8 (nI f) < gI σ 9 ∧ xA σ 22 (xA τn 8 (nI f)) = xA τn 8 (nI f) ∧ xA τr 26 (xA τn 8 (nI f)) = nI f) ∧ xA τn 7 (nI f) = xA σ 23 (xA τn 8 (nI f)) ∧ ∃ j, j ≤ 5 ∧ xA σ 20 (xA τn 8 (nI f)) = nI j := by
    intro f hf'
    obtain ⟨x, y, ⟨a1, a2, a3, a4, c, ⟨_, _, _, _, _, b1, b2, b3, b4, b5, _⟩, a6⟩, xS⟩ := hfj f hf'
    rw [a1]
    refine ⟨⟨b3.2.1, xS, b3.1, by rw [hR.x 26 (by decide)]; exact a4⟩, by rw [a6, b5], ?_⟩
    obtain ⟨j, j5, ej, _⟩ := hDN x b3.2.1 b3.2.2
    exact ⟨j, j5, ej⟩
  have h8 : ∀ f, f < F → (xA τf 4 (nI f)).toNatClampNeg + vC σ (xA τn 8 (nI f)).toNatClampNeg ≤ 8 := by
    intro f hf'
    have b := Decidable.not_not.mp (j6 f hf')
    obtain ⟨_, _, j, j5', ej⟩ := hsc f hf'
    have hc : (xA τf 4 (nI f)).toNatClampNeg ≤ 61 * U := Nat.le_trans (pre_at (w := fun f => (xA τf 4 (nI f)).toNatClampNeg) F f hf') htt
    have ev : vC σ (xA τn 8 (nI f)).toNatClampNeg = j := by unfold vC; rw [xA_tn, ej, nI_clamp (by omega)]
    rw [h4 f hf', xn 8 _ (by decide) (by decide) (by decide), xs 20 _ (by omega), ej, nI_plus] at b
    have := (nI_le31 (a := (xA τf 4 (nI f)).toNatClampNeg + j) (b := 8) (by omega) (by omega)).mp b
    omega
  have h3 : ∀ f, f < F → xA τm 3 (nI f) = nI ((xA τf 4 (nI f)).toNatClampNeg + vC σ (xA τn 8 (nI f)).toNatClampNeg) := by
    intro f hf'
    obtain ⟨_, _, j, j5', ej⟩ := hsc f hf'
    have ev : vC σ (xA τn 8 (nI f)).toNatClampNeg = j := by unfold vC; rw [xA_tn, ej, nI_clamp (by omega)]
    rw [j4 f hf', h4 f hf', xn 8 _ (by decide) (by decide) (by decide), xs 20 _ (by omega), ej, nI_plus, ev, nI_clamp (by
      have := h8 f hf'
      omega)]
  have hnum : ∀ s, 0 ≤ s → s < gI σ 9 → ∃ f, f < F ∧ xA σ 22 s = xA τn 8 (nI f) := by
    intro s s0 s1
    have ho := hG.own s s0 s1
    obtain ⟨f, f1, f2⟩ := hNj.1 _ ho.1 ho.2.1 ho.2.2
    have q := (hsc f f1).1
    exact ⟨f, f1, hNj.2 _ _ ho.1 ho.2.1 ho.2.2 q.1 q.2.1 q.2.2.1 (by rw [f2, q.2.2.2])⟩
  have hNV : NVh σ τm F (gI σ 9) (fun f => xA τn 8 (nI f)) (fun f => (xA τf 4 (nI f)).toNatClampNeg) := by
    refine ⟨hDN, hF6, ⟨hS0, hS6⟩, ⟨g6, gm 9 (by decide) (by decide) (by decide) (by decide)⟩, fun f hf' => ?_, fun s s0 s1 => ?_, ⟨fun i => by rw [xm 22 _ (by decide), xs 22 _ (by omega)], fun i => by rw [xm 20 _ (by decide), xs 20 _ (by omega)]⟩, fun f hf' => ⟨by have := h8 f hf'; show (xA τf 4 (nI f)).toNatClampNeg ≤ 8; omega, by rw [xm 4 _ (by decide)]; exact h4 f hf', h3 f hf'⟩⟩
    · have q := (hsc f hf').1
      exact ⟨by rw [xm 8 _ (by decide), xn 8 _ (by decide) (by decide) (by decide)], q.1, q.2.1, q.2.2.1, by rw [xm 26 _ (by decide), xf 26 _ (by decide) (by decide)]; exact q.2.2.2⟩
    · obtain ⟨f, f1, f2⟩ := hnum s s0 s1
      refine ⟨f, f1, f2, ?_⟩
      show xA τn 8 (nI f) ≤ s
      rw [← f2]
      exact own_le hG (s.toNatClampNeg + 1) s (by omega) s0 s1
  obtain ⟨τv, n1, n2, n3, n4⟩ := nv_go hNV
  have xv : ∀ j i, ¬ j = 25 → ¬ j = 6 → ¬ j = 3 → xA τv j i = xA τf j i := fun j i a b c => by rw [n2.x j i a b, xm j i c]
  have vyK : ∀ (f : Nat) (y : Int32), f < F → Vy σ (gI σ 9) y → (xA σ 22 (y / 5) = xA τn 8 (nI f) ∨ OVm τf f y) → Kn σ τv (gI σ 9) (fun f => xA τn 8 (nI f)) (fun f => (xA τf 4 (nI f)).toNatClampNeg) f y := by
    intro f y hf' hy ho
    obtain ⟨s, i, j, k1, k2, k3, k4, k5⟩ := hy
    have ed : y / 5 = s := by rw [k5]; exact div5 k1.1 (by grind) (by omega)
    refine ⟨s, i, j, k1, k2, k3, k4, k5, ?_⟩
    by_cases hw : xA σ 22 s = xA τn 8 (nI f)
    · exact Or.inl hw
    · refine Or.inr ⟨hw, ?_⟩
      rcases ho with w | ⟨c, c1, c2, c3⟩
      · rw [ed] at w; exact absurd w hw
      · have ec : c = (xA τf 4 (nI f)).toNatClampNeg := by rw [c1, nI_clamp (by omega)]
        rcases c3 with w | ⟨p, p1, p2, p3⟩
        · have := h8 f hf'; omega
        · exact ⟨p, by show p < (xA τf 4 (nI f)).toNatClampNeg; omega, by rw [xv 5 _ (by decide) (by decide) (by decide)]; exact p3⟩
  refine ⟨τv, fun f => xA τn 8 (nI f), fun f => (xA τf 4 (nI f)).toNatClampNeg, n1, ⟨⟨hDN, ⟨hS0, hS6⟩, rfl, hF6, by omega, hU6, hU⟩, hG.own, fun f hf' => ?_, hnum, ⟨fun j i hj => by rw [xv j i (by omega) (by omega) (by omega), xs j i hj], fun i => by rw [xv 26 i (by decide) (by decide) (by decide), xf 26 i (by decide) (by decide)], by rw [n2.1 8]; exact gm 8 (by decide) (by decide) (by decide) (by decide), by rw [n2.1 10]; exact gm 10 (by decide) (by decide) (by decide) (by decide), by rw [n2.1 6]; exact g6, by rw [n2.1 20]; exact h20⟩, n3, fun u hu => by rw [xv 30 _ (by decide) (by decide) (by decide), xf 30 _ (by decide) (by decide)]; exact h30 u hu, fun u hu hpos => ?_, fun f q hf' hpar hq => ?_, hcov, ⟨h80, hg4, hw3⟩, ?_⟩, n2, h3, fun f hf' => ⟨h4 f hf', rfl⟩⟩
  · obtain ⟨q1, q2, _⟩ := hsc f hf'
    refine ⟨q1, by rw [xv 8 _ (by decide) (by decide) (by decide), xn 8 _ (by decide) (by decide) (by decide)], by rw [xv 7 _ (by decide) (by decide) (by decide), xn 7 _ (by decide) (by decide) (by decide)]; exact q2, by rw [xv 4 _ (by decide) (by decide) (by decide)]; exact h4 f hf', by have := h8 f hf'; show (xA τf 4 (nI f)).toNatClampNeg ≤ 8; omega, n4 f hf'⟩
  · have hu0 : 0 ≤ nI u := i_le0 (nI_nneg (by omega))
    have huU : nI u < gI σ 10 := by rw [hU]; exact (nI_lt31 (by omega) (by omega)).mpr hu
    obtain ⟨h, n, c, q1, q2, q3, q4, q5, q6, q7, q8, q9, q10⟩ := hcov.2.2 (nI u) hu0 huU
    rw [q8]
    have q1' := q1
    obtain ⟨f, f1, f2⟩ := hnum h q1.1 q1.2
    refine ⟨f, f1, f2, vyK f _ f1 (tg_vy hE (by rw [q8]; exact q1) hpos) ?_⟩
    rcases hcl.2 u hu hpos with w | ⟨g, g1, g2, g3⟩
    · rw [q8, f2] at w
      exact Or.inl w
    · rw [q8, f2, (hsc f f1).1.2.2.2] at g1
      have : f = g := nI_injL (by omega) (by omega) g1
      subst this
      exact Or.inr g3
  · have qs := (hsc f hf').1
    have hpS : xA σ 21 (xA τn 8 (nI f)) < gI σ 9 := by
      rcases hG.1 _ qs.1 qs.2.1 with ⟨w, _⟩ | w
      · rw [w] at hpar; exact absurd hpar (by decide)
      · have := w.2.1; grind
    obtain ⟨g, g1, g2⟩ := hnum _ hpar hpS
    have h8f := h8 f hf'
    have hq' : q < (xA τf 4 (nI f)).toNatClampNeg := hq
    have hvy := hev.2 f q _ hf' (by omega) (h4 f hf') (by omega) hq'
    refine ⟨g, g1, g2, ?_⟩
    rw [xv 5 _ (by decide) (by decide) (by decide)]
    refine vyK g _ g1 hvy ?_
    rcases hcl.1 _ f q _ qs.1 qs.2.1 qs.2.2.1 qs.2.2.2 hf' hpar (h4 f hf') (by omega) hq' (by omega) with w | w | w
    · rw [g2] at w; exact Or.inl w
    · exact Or.inr (w g (by rw [g2]; exact (hsc g g1).1.2.2.2) g1)
    · exact absurd w (fun w => w)
  · have hLw : Lw σ (wlN σ τr (fun f => (xA τf 4 (nI f)).toNatClampNeg)) (fun i => if fC σ i = 1 then lwF (fun f => (xA τf 4 (nI f)).toNatClampNeg) (xA τr 26 (nI i)).toNatClampNeg else 0) := by
      refine ⟨fun j hj => ?_, fun s hs => if_neg (by rw [hs]; decide), fun c s e1 e2 s0 hfc => ?_⟩
      · unfold wlN
        rw [xA_tn, if_neg hj]
      · unfold wlN
        rw [xA_tn, if_pos e1, xA_tn, e2]
        show _ = if _ then _ else _
        rw [if_pos hfc, xA_tn]
    have hlw := hp.lw hLw hS6
    rw [hlw]
    have hSn : (gI σ 9).toNatClampNeg ≤ 630 := i_le (n := 630) hS6
    have e1 : prI (fun i => if fC σ i = 1 then lwF (fun f => (xA τf 4 (nI f)).toNatClampNeg) (xA τr 26 (nI i)).toNatClampNeg else 0) (gI σ 9) = pre (fun i => if fC σ i = 1 then lwF (fun f => (xA τf 4 (nI f)).toNatClampNeg) (k + pre (fC σ) i) else 0) (gI σ 9).toNatClampNeg := by
      unfold prI
      refine pre_eq _ (fun i hi => ?_)
      by_cases hc : fC σ i = 1
      · rw [if_pos hc, if_pos hc, hR.x 26 (by decide), (hN.1.2.2.2.1 i hi hc).1, nI_clamp]
        have := pre_lt (w := fC σ) (i := 0) hi (by omega)
        omega
      · rw [if_neg hc, if_neg hc]
    rw [e1, pre_fn]
    have e2 := pre_1 (L := fun j => lwF (fun f => (xA τf 4 (nI f)).toNatClampNeg) (k + j)) (c := fun j => (xA τf 4 (nI (k + j))).toNatClampNeg) (fun i => by
      unfold lwF
      dsimp only
      split <;> omega) (pre (fC σ) (gI σ 9).toNatClampNeg)
    have e3 := pre_sh (L := fun f => (xA τf 4 (nI f)).toNatClampNeg) k (pre (fC σ) (gI σ 9).toNatClampNeg)
    have e4 : pre (fun j => (xA τf 4 (nI (k + j))).toNatClampNeg) (pre (fC σ) (gI σ 9).toNatClampNeg) ≤ 8 * pre (fC σ) (gI σ 9).toNatClampNeg := by
      have : ∀ n, k + n ≤ F → pre (fun j => (xA τf 4 (nI (k + j))).toNatClampNeg) n ≤ 8 * n := by
        intro n
        induction n with
        | zero => intro _; exact Nat.le_refl _
        | succ n ih =>
          intro hn
          have a := ih (by omega)
          have b := h8 (k + n) (by omega)
          show pre _ n + (xA τf 4 (nI (k + n))).toNatClampNeg ≤ _
          omega
      exact this _ (by omega)
    rw [← hF] at e3
    have e5 : pre (fun f => (xA τf 4 (nI f)).toNatClampNeg) F ≤ 61 * U := htt
    have e6 : (gI σ 10).toNatClampNeg = U := by rw [hU, nI_clamp (by omega)]
    have c1 := hcw.1
    have c2 := hcw.2
    unfold prI at c1 c2 hnp
    rw [e6] at c1
    omega
