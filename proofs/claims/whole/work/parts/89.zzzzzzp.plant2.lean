def kdp (p : Nat) : Int32 := if p = 0 then 2 else 3
/-- the values of the leaves in a function's place -/
def vlp (σ τv : S5) (sc : Nat → Int32) (cf : Nat → Nat) (f g p : Nat) : Int32 := if p = 0 then nI f else nI (qn σ τv sc cf g (xA τv 5 (nI (f * 8 + (p - 1)))))
/-- q of a function's free variables stand in its place -/
def PLf (σ τv : S5) (sc : Nat → Int32) (cf : Nat → Nat) (f g n0 : Nat) (i : Int32) (τ : S5) (q : Nat) (τ' : S5) : Prop := FrPN τ τ' ∧ gI τ' 8 = nI (n0 + 1 + q) ∧ (∀ x, 0 ≤ x → x < nI n0 → ¬ x = i → Tw τ τ' x) ∧ (xA τ' 13 i = 8 ∧ xA τ' 14 i = 0 ∧ xA τ' 15 i = nI (cf f) ∧ xA τ' 16 i = nI n0 ∧ xA τ' 17 i = xA τ 17 i) ∧ ∀ p, p ≤ q → LfR τ' (nI (n0 + p)) (kdp p) (vlp σ τv sc cf f g p) (if p < q then nI (n0 + p + 1) else -1)
theorem pl_L111 {σ ν τr τv τ : S5} {k U F : Nat} {S : Int32} {sc : Nat → Int32} {cf : Nat → Nat} (hL : LXc σ ν τr τv k U F S sc cf) {f g n0 : Nat} {i : Int32} (hx : ∀ j y, j = 4 ∨ j = 5 ∨ j = 8 ∨ j = 25 → xA τ j y = xA τv j y) (h22 : ∀ y, xA τ 22 y = xA σ 22 y) (hf : f < F) (hg : g < F) (hKn : ∀ q, q < cf f → Kn σ τv S sc cf g (xA τv 5 (nI (f * 8 + q)))) (i0 : 0 ≤ i) (hi : i < nI n0) (hn : n0 + 1 + cf f ≤ 6200) : ∀ (d q m : Nat) (τ' : S5), q + d = cf f → d < m → PLf σ τv sc cf f g n0 i τ q τ' → ∃ τ2, f_X2_plantLifted_L111 m (nI f) (nI g) (nI (n0 + q)) (nI q) τ' = some ((), τ2) ∧ PLf σ τv sc cf f g n0 i τ (cf f) τ2 := by
  obtain ⟨⟨hDN, ⟨hS0, hS6⟩, hSe, hF, hkF, hU6, hU⟩, hown, hsc, hnum, ⟨xs, x26, g8, g10, g6, g20⟩, hbase, htg, hku, hkf, hcov, h80, hroom⟩ := hL
  obtain ⟨⟨s0, s1, s2, s3⟩, t1, t2, t3, t4, t5⟩ := hsc f hf
  obtain ⟨⟨gs0, gs1, gs2, gs3⟩, gt1, gt2, gt3, gt4, gt5⟩ := hsc g hg
  have hin : i.toNatClampNeg < n0 := by
    have := i_lt (not_neg i0) hi
    rw [nI_clamp (by omega)] at this
    exact this
  intro d
  induction d with
  | zero =>
    intro q m τ' hq hm h
    obtain ⟨m, rfl⟩ : ∃ m', m = m' + 1 := ⟨m - 1, by omega⟩
    have : q = cf f := by omega
    subst this
    refine ⟨τ', ?_, h⟩
    show f_X2_plantLifted_B111 _ _ _ _ _ _ = _
    unfold f_X2_plantLifted_B111
    rw [gdn (by omega) (by omega), h.1.x 4 _ (by omega), hx 4 _ (by omega), t3, if_pos (Int32.le_refl _)]
  | succ d ih =>
    intro q m τ' hq hm h
    obtain ⟨m, rfl⟩ : ∃ m', m = m' + 1 := ⟨m - 1, by omega⟩
    obtain ⟨h1, h2, h3, h4, h5⟩ := h
    have hx' : ∀ j y, j = 4 ∨ j = 5 ∨ j = 8 ∨ j = 25 → xA τ' j y = xA τv j y := fun j y hj => (h1.x j y (by omega)).trans (hx j y hj)
    have hnin : f_X2_numberIn (nI g) (xA τv 5 (nI (f * 8 + q))) τ' = some (nI (qn σ τv sc cf g (xA τv 5 (nI (f * 8 + q)))), τ') := nin_go (F := F) hS6 hF hg (fun y => (h1.x 22 y (by omega)).trans (h22 y)) ((hx' 8 _ (by omega)).trans gt1) (fun s a b e => (hx' 25 _ (by omega)).trans (hbase g s hg a b e)) ((hx' 4 _ (by omega)).trans gt3) gt4 (fun y => hx' 5 y (by omega)) (hKn q (by omega))
    obtain ⟨τ1, l1, l2, l3, l4, l5⟩ := pl_leaf (τ := τ') 3 (nI (qn σ τv sc cf g (xA τv 5 (nI (f * 8 + q))))) h2 (by omega)
    have b0 : 0 ≤ nI (n0 + q) := i_le0 (nI_nneg (by omega))
    have b1 : nI (n0 + q) < 6200 := (nI_lt31 (b := 6200) (by omega) (by omega)).mpr (by omega)
    have ne_n : ∀ p, p < n0 + 1 + q → ¬ nI p = nI (n0 + 1 + q) := fun p hp w => by have := nI_injL (by omega) (by omega) w; omega
    have hB : f_X2_plantLifted_L111 (m + 1) (nI f) (nI g) (nI (n0 + q)) (nI q) τ' = f_X2_plantLifted_L111 m (nI f) (nI g) (nI (n0 + (q + 1))) (nI (q + 1)) (pA τ1 17 (nI (n0 + q)) (nI (n0 + 1 + q))) := by
      show f_X2_plantLifted_B111 _ _ _ _ _ _ = _
      unfold f_X2_plantLifted_B111
      rw [gdn (by omega) (by omega), hx' 4 _ (by omega), t3, if_neg (fun w => by have := (nI_le31 (by omega) (by omega)).mp w; omega), if_neg (fun w => by have := (nI_le31 (a := 8) (by omega) (by omega)).mp w; omega), ix8, gdn (by omega) (by omega), hx' 5 _ (by omega), hnin, bd_of, l1, bd_of, gd6200 b0 b1, nI_add1, show n0 + (q + 1) = n0 + 1 + q by omega]
    rw [hB]
    refine ih (q + 1) m _ (by omega) (by omega) ⟨(h1.tr l2).A (by decide), by rw [gI_pA, l3]; rfl, fun x x0 x1 xi => ?_, ?_, fun p hp => ?_⟩
    · have hxn : x.toNatClampNeg < n0 := by
        have := i_lt (not_neg x0) x1
        rw [nI_clamp (by omega)] at this
        exact this
      refine ((h3 x x0 x1 xi).tr (l4 x x0 (fun w => ?_))).A ?_
      · rw [w, nI_clamp (by omega)] at hxn; omega
      · rw [nI_clamp (by omega)]; omega
    · have ti : Tw τ' (pA τ1 17 (nI (n0 + q)) (nI (n0 + 1 + q))) i := (l4 i i0 (fun w => by rw [w, nI_clamp (by omega)] at hin; omega)).A (by rw [nI_clamp (by omega)]; omega)
      exact ⟨ti.1.trans h4.1, ti.2.1.trans h4.2.1, ti.2.2.1.trans h4.2.2.1, ti.2.2.2.1.trans h4.2.2.2.1, ti.2.2.2.2.1.trans h4.2.2.2.2⟩
    · by_cases hpq : p < q
      · rw [if_pos (by omega)]
        have := h5 p (by omega)
        rw [if_pos hpq] at this
        exact this.tw ((l4 _ (i_le0 (nI_nneg (by omega))) (ne_n _ (by omega))).A (by rw [nI_clamp (by omega), nI_clamp (by omega)]; omega))
      · by_cases hpe : p = q
        · subst hpe
          rw [if_pos (by omega)]
          have := h5 p (by omega)
          rw [if_neg (by omega)] at this
          have t := this.tw (l4 _ b0 (ne_n _ (by omega)))
          obtain ⟨a1, a2, a3, a4, a5, a6, a7⟩ := t
          have ex : ∀ gg, ¬ gg = 17 → xA (pA τ1 17 (nI (n0 + p)) (nI (n0 + 1 + p))) gg (nI (n0 + p)) = xA τ1 gg (nI (n0 + p)) := fun gg w => by rw [xA_pA, if_neg (fun z => w z.1)]
          exact ⟨(ex 13 (by decide)).trans a1, (ex 14 (by decide)).trans a2, (ex 16 (by decide)).trans a3, by rw [xA_self, show n0 + 1 + p = n0 + p + 1 by omega], (ex 18 (by decide)).trans a5, (ex 19 (by decide)).trans a6, a7⟩
        · have hp1 : p = q + 1 := by omega
          subst hp1
          rw [if_neg (by omega), show n0 + (q + 1) = n0 + 1 + q by omega]
          have ek : kdp (q + 1) = 3 := if_neg (by omega)
          have ev : vlp σ τv sc cf f g (q + 1) = nI (qn σ τv sc cf g (xA τv 5 (nI (f * 8 + q)))) := if_neg (by omega)
          rw [ek, ev]
          refine l5.tw ((Tw.rf τ1 _).A ?_)
          rw [nI_clamp (by omega), nI_clamp (by omega)]
          omega
/-- a function's place is planted -/
theorem plift_go {σ ν τr τv τ : S5} {k U F : Nat} {S : Int32} {sc : Nat → Int32} {cf : Nat → Nat} (hL : LXc σ ν τr τv k U F S sc cf) {f g n0 : Nat} {i : Int32} (hx : ∀ j y, j = 4 ∨ j = 5 ∨ j = 8 ∨ j = 25 ∨ j = 26 → xA τ j y = xA τv j y) (h22 : ∀ y, xA τ 22 y = xA σ 22 y) (h21 : ∀ y, xA τ 21 y = xA σ 21 y) (hf : f < F) (hg : g < F) (hpar : 0 ≤ xA σ 21 (sc f) ∧ xA σ 21 (sc f) < S) (hgo : xA σ 22 (xA σ 21 (sc f)) = sc g) (hKn : ∀ q, q < cf f → Kn σ τv S sc cf g (xA τv 5 (nI (f * 8 + q)))) (h8 : gI τ 8 = nI n0) (i0 : 0 ≤ i) (hi : i < nI n0) (hn : n0 + lwF cf f ≤ 6200) (hn2 : n0 ≤ 6200) : ∃ τ', f_X2_plantLifted i (sc f) τ = some ((), τ') ∧ FrPN τ τ' ∧ gI τ' 8 = nI (n0 + lwF cf f) ∧ (∀ x, 0 ≤ x → x < nI n0 → ¬ x = i → Tw τ τ' x) ∧ xA τ' 17 i = xA τ 17 i ∧ (cf f = 0 → xA τ' 13 i = 2 ∧ xA τ' 14 i = nI f ∧ xA τ' 15 i = xA τ 15 i ∧ xA τ' 16 i = xA τ 16 i) ∧ (¬ cf f = 0 → xA τ' 13 i = 8 ∧ xA τ' 14 i = 0 ∧ xA τ' 15 i = nI (cf f) ∧ xA τ' 16 i = nI n0 ∧ ∀ p, p ≤ cf f → LfR τ' (nI (n0 + p)) (kdp p) (vlp σ τv sc cf f g p) (if p < cf f then nI (n0 + p + 1) else -1)) := by
  have hbig := FU_big (n := 30000) (by decide)
  have hL' := hL
  obtain ⟨⟨hDN, ⟨hS0, hS6⟩, hSe, hF, hkF, hU6, hU⟩, hown, hsc, hnum, ⟨xs, x26, g8, g10, g6, g20⟩, hbase, htg, hku, hkf, hcov, h80, hroom⟩ := hL'
  obtain ⟨⟨s0, s1, s2, s3⟩, t1, t2, t3, t4, t5⟩ := hsc f hf
  obtain ⟨⟨gs0, gs1, gs2, gs3⟩, gt1, gt2, gt3, gt4, gt5⟩ := hsc g hg
  have i6 : i < 6200 := by
    have : nI n0 ≤ nI 6200 := (nI_le31 (by omega) (by omega)).mpr hn2
    have e : nI 6200 = 6200 := rfl
    rw [e] at this
    grind
  have e26 : xA τ 26 (sc f) = nI f := by rw [hx 26 _ (by omega), x26]; exact s3
  have e4 : xA τ 4 (nI f) = nI (cf f) := by rw [hx 4 _ (by omega)]; exact t3
  unfold f_X2_plantLifted
  rw [gd700 s0 (by grind), e26, gdn (by omega) (by omega), e4]
  by_cases hc : cf f = 0
  · rw [if_pos (show nI (cf f) = 0 from by rw [hc]; rfl)]
    unfold f_X9_change
    rw [gd6200 i0 i6, gd6200 i0 i6, bd_of]
    refine ⟨_, rfl, ((FrPN.rf τ).A (by decide)).A (by decide), ?_, fun x x0 x1 xi => ?_, ?_, fun _ => ⟨?_, ?_, ?_, ?_⟩, fun w => absurd hc w⟩
    · rw [gI_pA, gI_pA, h8]
      unfold lwF
      rw [if_pos hc]
      rfl
    · have hne : ¬ x.toNatClampNeg = i.toNatClampNeg := fun w => xi ((i_inj x0 i0).mp w)
      exact ((Tw.rf τ x).A hne).A hne
    · rw [xA_pA, if_neg (fun w => absurd w.1 (by decide)), xA_pA, if_neg (fun w => absurd w.1 (by decide))]
    · rw [xA_pA, if_neg (fun w => absurd w.1 (by decide)), xA_self]
    · rw [xA_self]
    · rw [xA_pA, if_neg (fun w => absurd w.1 (by decide)), xA_pA, if_neg (fun w => absurd w.1 (by decide))]
    · rw [xA_pA, if_neg (fun w => absurd w.1 (by decide)), xA_pA, if_neg (fun w => absurd w.1 (by decide))]
  · have elw : lwF cf f = cf f + 1 := if_neg hc
    rw [elw] at hn ⊢
    have hnz : ¬ nI (cf f) = 0 := fun w => hc (nI_injL (by omega) (by omega) (w.trans (rfl : (0 : Int32) = nI 0)))
    have hin : i.toNatClampNeg < n0 := by
      have := i_lt (not_neg i0) hi
      rw [nI_clamp (by omega)] at this
      exact this
    rw [if_neg hnz, gd700 s0 (by grind), h21, gd700 hpar.1 (by grind), h22, hgo, gd700 gs0 (by grind)]
    obtain ⟨τ1, l1, l2, l3, l4, l5⟩ := pl_leaf (τ := τ) 2 (nI f) h8 (by omega)
    rw [l1, bd_of]
    unfold f_X9_change
    rw [gd6200 i0 i6, gd6200 i0 i6, bd_of, gdn (by omega) (by omega), gd6200 i0 i6, gd6200 i0 i6]
    have e4' : xA (pA (pA τ1 13 i 8) 14 i 0) 4 (nI f) = nI (cf f) := by
      rw [xA_pA, if_neg (fun w => absurd w.1 (by decide)), xA_pA, if_neg (fun w => absurd w.1 (by decide)), l2.x 4 _ (by omega)]
      exact e4
    have eg : xA τ 26 (sc g) = nI g := by rw [hx 26 _ (by omega), x26]; exact gs3
    rw [e4', eg]
    have ine : ∀ x : Int32, 0 ≤ x → ¬ x = i → ¬ x.toNatClampNeg = i.toNatClampNeg := fun x x0 xi w => xi ((i_inj x0 i0).mp w)
    have lne : ¬ (nI n0).toNatClampNeg = i.toNatClampNeg := by rw [nI_clamp (by omega)]; omega
    have hP : PLf σ τv sc cf f g n0 i τ 0 (pA (pA (pA (pA τ1 13 i 8) 14 i 0) 15 i (nI (cf f))) 16 i (nI n0)) := by
      refine ⟨(((l2.A (by decide)).A (by decide)).A (by decide)).A (by decide), by rw [gI_pA, gI_pA, gI_pA, gI_pA]; exact l3, fun x x0 x1 xi => ?_, ⟨?_, ?_, ?_, ?_, ?_⟩, fun p hp => ?_⟩
      · have hxn : ¬ x = nI n0 := by grind
        exact ((((l4 x x0 hxn).A (ine x x0 xi)).A (ine x x0 xi)).A (ine x x0 xi)).A (ine x x0 xi)
      · rw [xA_pA, if_neg (fun w => absurd w.1 (by decide)), xA_pA, if_neg (fun w => absurd w.1 (by decide)), xA_pA, if_neg (fun w => absurd w.1 (by decide)), xA_self]
      · rw [xA_pA, if_neg (fun w => absurd w.1 (by decide)), xA_pA, if_neg (fun w => absurd w.1 (by decide)), xA_self]
      · rw [xA_pA, if_neg (fun w => absurd w.1 (by decide)), xA_self]
      · rw [xA_self]
      · rw [xA_pA, if_neg (fun w => absurd w.1 (by decide)), xA_pA, if_neg (fun w => absurd w.1 (by decide)), xA_pA, if_neg (fun w => absurd w.1 (by decide)), xA_pA, if_neg (fun w => absurd w.1 (by decide))]
        exact (l4 i i0 (fun w => by rw [w, nI_clamp (by omega)] at hin; omega)).2.2.2.2.1
      · have hp0 : p = 0 := by omega
        subst hp0
        rw [if_neg (by omega)]
        exact l5.tw (((((Tw.rf τ1 _).A lne).A lne).A lne).A lne)
    obtain ⟨τ2, m1, m2, m3, m4, m5, m6⟩ := pl_L111 hL (i := i) (fun j y hj => hx j y (by omega)) h22 hf hg hKn i0 hi (by omega) (cf f) 0 FU _ (by omega) (by omega) hP
    refine ⟨τ2, m1, m2, by rw [m3]; congr 1; omega, m4, m5.2.2.2.2, fun w => absurd w hc, fun _ => ⟨m5.1, m5.2.1, m5.2.2.1, m5.2.2.2.1, m6⟩⟩
