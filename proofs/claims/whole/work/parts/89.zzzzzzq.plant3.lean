/-- a node's measures are its children's -/
def MEQ (τ : S5) (i a2 : Int32) (l : Nat) (cc : Nat → Int32) : Prop := xA τ 18 i = mH τ cc l + u1F (xA τ 13 i) ∧ xA τ 19 i = mQ τ cc l + u1F (xA τ 13 i) ∧ xB τ 2 i = mB τ i a2 l cc
theorem MEQ.st {τ τ' : S5} {i a2 : Int32} {l : Nat} {cc : Nat → Int32} (h : MEQ τ i a2 l cc) (hi : Tw τ τ' i) (hc : ∀ p, p < l → Tw τ τ' (cc p)) : MEQ τ' i a2 l cc := by
  obtain ⟨a1, a2', a3, a4⟩ := m_st l hc
  obtain ⟨t13, t14, t15, t16, t17, t18, t19, t2⟩ := hi
  unfold MEQ mB at *
  rw [t18, t19, t2, t13, t15, a1, a2', a3, a4]
  exact h
/-- the rows of a planted node -/
def FINr (σ τr τv τu : S5) (S : Int32) (F : Nat) (sc : Nat → Int32) (cf : Nat → Nat) (C : Nat) (τ : S5) (i : Int32) : Prop := xA τ 17 i = xA σ 17 i ∧ (¬ xA σ 13 i = 14 → xA τ 13 i = xA τu 13 i ∧ xA τ 16 i = xA σ 16 i ∧ (¬ xA σ 13 i = 10 → xA τ 14 i = xA τu 14 i) ∧ (¬ xA σ 13 i = 7 → ¬ xA σ 13 i = 11 → xA τ 15 i = xA σ 15 i)) ∧ (xA σ 13 i = 7 → xA τ 15 i = xA τr 26 (xA σ 22 (xA σ 15 i))) ∧ (xA σ 13 i = 10 → ∀ (v : Int32) (q : Nat), 0 ≤ v → v < S → q < 5 → xA σ 14 i = v * 5 + nI q → xA τ 14 i = xA τv 25 v + nI q) ∧ (xA σ 13 i = 11 → xA τ 15 i = xA τv 25 (xA σ 15 i)) ∧ (xA σ 13 i = 14 → ∀ f, f < F → xA σ 14 i = sc f → (cf f = 0 → xA τ 13 i = 2 ∧ xA τ 14 i = nI f ∧ xA τ 16 i = -1) ∧ (¬ cf f = 0 → ∃ n0 g, (n0 = C + pre (wlN σ τr cf) i.toNatClampNeg ∧ n0 + cf f + 1 ≤ C + pre (wlN σ τr cf) (i.toNatClampNeg + 1)) ∧ g < F ∧ xA σ 22 (xA σ 21 (sc f)) = sc g ∧ xA τ 13 i = 8 ∧ xA τ 14 i = 0 ∧ xA τ 15 i = nI (cf f) ∧ xA τ 16 i = nI n0 ∧ ∀ p, p ≤ cf f → LfR τ (nI (n0 + p)) (kdp p) (vlp σ τv sc cf f g p) (if p < cf f then nI (n0 + p + 1) else -1)))
/-- the measures of a planted node -/
def FINm (σ : S5) (F : Nat) (sc : Nat → Int32) (cf : Nat → Nat) (τ : S5) (i : Int32) : Prop := (xA τ 16 i = -1 → xA τ 18 i = 1 ∧ xA τ 19 i = 1 ∧ xB τ 2 i = lbit (xA τ 13 i) (xA τ 14 i)) ∧ (∀ l cc, CHn σ i l cc → 5 ≤ xA σ 13 i → xA σ 13 i ≤ 13 → MEQ τ i (if xA σ 13 i = 11 then xA σ 2 (xA σ 14 i) else 0) l cc) ∧ (xA σ 13 i = 14 → ∀ f, f < F → xA σ 14 i = sc f → ¬ cf f = 0 → ∀ n0, xA τ 16 i = nI n0 → n0 ≤ 6200 → MEQ τ i 0 (cf f + 1) (fun p => nI (n0 + p)))
theorem FINr.st {σ τr τv τu : S5} {S : Int32} {F : Nat} {sc : Nat → Int32} {cf : Nat → Nat} {C : Nat} {τ τ' : S5} {i : Int32} (h : FINr σ τr τv τu S F sc cf C τ i) (hi : Tw τ τ' i) (hl : ∀ x : Nat, C ≤ x → x < C + pre (wlN σ τr cf) (i.toNatClampNeg + 1) → Tw τ τ' (nI x)) : FINr σ τr τv τu S F sc cf C τ' i := by
  obtain ⟨h1, h2, h3, h4, h5, h6⟩ := h
  obtain ⟨t13, t14, t15, t16, t17, t18, t19, t2⟩ := hi
  unfold FINr
  rw [t13, t14, t15, t16, t17]
  refine ⟨h1, h2, h3, h4, h5, fun w f hf hs => ⟨fun hc => (h6 w f hf hs).1 hc, fun hc => ?_⟩⟩
  obtain ⟨n0, g, a1, a2, a3, a4, a5, a6, a7, a8⟩ := (h6 w f hf hs).2 hc
  exact ⟨n0, g, a1, a2, a3, a4, a5, a6, a7, fun p hp => (a8 p hp).tw (hl (n0 + p) (by omega) (by omega))⟩
theorem FINm.st {σ : S5} {F : Nat} {sc : Nat → Int32} {cf : Nat → Nat} {τ τ' : S5} {i : Int32} (h : FINm σ F sc cf τ i) (hi : Tw τ τ' i) (hc : ∀ x, 0 ≤ x → x < i → Tw τ τ' x) (hl : xA σ 13 i = 14 → ∀ f, f < F → xA σ 14 i = sc f → ¬ cf f = 0 → ∀ n0, xA τ 16 i = nI n0 → n0 ≤ 6200 → ∀ p, p ≤ cf f → Tw τ τ' (nI (n0 + p))) : FINm σ F sc cf τ' i := by
  obtain ⟨h1, h2, h3⟩ := h
  have hi' := hi
  obtain ⟨t13, t14, t15, t16, t17, t18, t19, t2⟩ := hi
  refine ⟨?_, fun l cc c a b => (h2 l cc c a b).st hi' (fun p hp => hc _ (c.2.2 p hp).1 (c.2.2 p hp).2.1), fun w f hf hs hcf n0 hn hn6 => ?_⟩
  · rw [t16, t18, t19, t2, t13, t14]
    exact h1
  · rw [t16] at hn
    exact (h3 w f hf hs hcf n0 hn hn6).st hi' (fun p hp => hl w f hf hs hcf n0 hn hn6 p (by omega))
/-- the first j nodes are planted -/
def PNs (σ τr τv τu : S5) (S : Int32) (F : Nat) (sc : Nat → Int32) (cf : Nat → Nat) (C j : Nat) (τ : S5) : Prop := FrPN τu τ ∧ gI τ 8 = nI (C + pre (wlN σ τr cf) j) ∧ (∀ i, 0 ≤ i → i < nI j → FINr σ τr τv τu S F sc cf C τ i ∧ FINm σ F sc cf τ i) ∧ (∀ i, nI j ≤ i → i < nI C → xA τ 13 i = xA τu 13 i ∧ xA τ 14 i = xA τu 14 i ∧ xA τ 15 i = xA τu 15 i ∧ xA τ 16 i = xA τu 16 i ∧ xA τ 17 i = xA τu 17 i)
/-- one node is planted -/
theorem pn_node {σ ν τr τv τu : S5} {k U F : Nat} {S : Int32} {sc : Nat → Int32} {cf : Nat → Nat} (hL : LXc σ ν τr τv k U F S sc cf) (hPU : PU σ τv k F sc cf U τu) {C : Nat} (hC : gI σ 8 = nI C) (hC6 : C ≤ 6200) {j : Nat} (hj : j < C) {τ : S5} (h : PNs σ τr τv τu S F sc cf C j τ) (hroom : C + pre (wlN σ τr cf) (j + 1) ≤ 6200) : ∃ τ', f_X2_plantNode (nI j) τ = some ((), τ') ∧ FrPN τ τ' ∧ gI τ' 8 = nI (C + pre (wlN σ τr cf) (j + 1)) ∧ (∀ x, 0 ≤ x → x < nI (C + pre (wlN σ τr cf) j) → ¬ x = nI j → Tw τ τ' x) ∧ FINr σ τr τv τu S F sc cf C τ' (nI j) := by
  have hL' := hL
  obtain ⟨⟨hDN, ⟨hS0, hS6⟩, hSe, hF, hkF, hU6, hU⟩, hown, hsc, hnum, ⟨xs, x26, g8, g10, g6, g20⟩, hbase, htg, hku, hkf, hcov, h80, hroom0⟩ := hL'
  obtain ⟨p1, p2, p3⟩ := hPU
  obtain ⟨q1, q2, q3, q4⟩ := h
  have j0 : 0 ≤ nI j := i_le0 (nI_nneg (by omega))
  have jC : nI j < nI C := (nI_lt31 (by omega) (by omega)).mpr hj
  have j6 : nI j < 6200 := (nI_lt31 (b := 6200) (by omega) (by omega)).mpr (by omega)
  have ecj : (nI j).toNatClampNeg = j := nI_clamp (by omega)
  obtain ⟨hK, hN⟩ := (hcov.1 (nI j) j0 (by rw [hC]; exact jC)).nk
  obtain ⟨r13, r14, r15, r16, r17⟩ := q4 (nI j) (Int32.le_refl _) jC
  have u15 : xA τu 15 (nI j) = xA σ 15 (nI j) := by rw [p1.x 15 _ (by decide) (by decide), xs 15 _ (by omega)]
  have u16 : xA τu 16 (nI j) = xA σ 16 (nI j) := by rw [p1.x 16 _ (by decide) (by decide), xs 16 _ (by omega)]
  have u17 : xA τu 17 (nI j) = xA σ 17 (nI j) := by rw [p1.x 17 _ (by decide) (by decide), xs 17 _ (by omega)]
  rw [u15] at r15
  rw [u16] at r16
  rw [u17] at r17
  have row : ∀ g y, g < 13 ∨ 19 < g → xA τ g y = xA τv g y := fun g y hg => by rw [q1.x g y hg, p1.x g y (by omega) (by omega)]
  have hpre : pre (wlN σ τr cf) (j + 1) = pre (wlN σ τr cf) j + wlN σ τr cf j := rfl
  by_cases h14 : xA σ 13 (nI j) = 14
  · obtain ⟨⟨s0, s1⟩, s2, s3, s4⟩ := hN.2.2.2 h14
    obtain ⟨f, f1, f2⟩ := hnum _ s0 s1
    rw [s2] at f2
    have e13 := (p2 (nI j) j0 (by rw [h14]; decide)).1
    have e14 := (p2 (nI j) j0 (by rw [h14]; decide)).2
    rw [e13, h14] at r13
    rw [e14, f2] at r14
    rw [f2] at s3 s4
    have hpS : xA σ 21 (sc f) < S := by have := (hsc f f1).1; grind
    have hwl : wlN σ τr cf j = lwF cf f := by
      unfold wlN
      rw [if_pos h14, f2, (hsc f f1).1.2.2.2, nI_clamp (by omega)]
    have hgex : ∃ g, g < F ∧ xA σ 22 (xA σ 21 (sc f)) = sc g := hnum _ s3 hpS
    obtain ⟨g, g1, g2⟩ := hgex
    have hKn : ∀ q, q < cf f → Kn σ τv S sc cf g (xA τv 5 (nI (f * 8 + q))) := by
      intro q hq
      obtain ⟨g', g1', g2', g3'⟩ := hkf f q f1 s3 hq
      have : g' = g := by
        have z := (hsc g' g1').1.2.2.2
        rw [← g2', g2, (hsc g g1).1.2.2.2] at z
        exact (nI_injL (by omega) (by omega) z).symm
      rw [this] at g3'
      exact g3'
    obtain ⟨τ', a1, a2, a3, a4, a5, a6, a7⟩ := plift_go hL (τ := τ) (f := f) (g := g) (n0 := C + pre (wlN σ τr cf) j) (i := nI j) (fun x y hx => row x y (by omega)) (fun y => by rw [row 22 y (by omega), xs 22 _ (by omega)]) (fun y => by rw [row 21 y (by omega), xs 21 _ (by omega)]) f1 g1 ⟨s3, hpS⟩ g2 hKn q2 j0 ((nI_lt31 (by omega) (by omega)).mpr (by omega)) (by rw [← hwl]; omega) (by omega)
    have uq : ∀ f', f' < F → xA σ 14 (nI j) = sc f' → f' = f := by
      intro f' hf' he
      have z := (hsc f' hf').1.2.2.2
      rw [← he, f2, (hsc f f1).1.2.2.2] at z
      exact (nI_injL (by omega) (by omega) z).symm
    have hk16 : xA σ 16 (nI j) = -1 := by
      rcases hK with w | ⟨_, _, _, _, w⟩
      · exact w.1
      · rw [h14] at w; exact absurd w (by decide)
    refine ⟨τ', ?_, a2, by rw [a3, hpre, hwl, Nat.add_assoc], a4, a5.trans r17, fun w => absurd h14 w, fun w => absurd (h14.symm.trans w) (by decide), fun w => absurd (h14.symm.trans w) (by decide), fun w => absurd (h14.symm.trans w) (by decide), fun _ f' hf' he => ?_⟩
    · unfold f_X2_plantNode
      rw [gd6200 j0 j6, r13, if_neg (by decide), if_neg (by decide), if_neg (by decide), if_neg (by decide), if_neg (by decide), if_neg (by decide), if_neg (by decide), if_pos rfl, gd6200 j0 j6, r14, a1, bd_of]
    · rw [uq f' hf' he]
      refine ⟨fun hc => ?_, fun hc => ?_⟩
      · obtain ⟨b1, b2, b3, b4⟩ := a6 hc
        exact ⟨b1, b2, by rw [b4, r16]; exact hk16⟩
      · obtain ⟨b1, b2, b3, b4, b5⟩ := a7 hc
        refine ⟨_, g, ⟨by rw [ecj], ?_⟩, g1, g2, b1, b2, b3, b4, b5⟩
        rw [ecj, hpre, hwl]
        unfold lwF
        rw [if_neg hc]
        omega
  · have hwl : wlN σ τr cf j = 0 := by
      unfold wlN
      rw [if_neg h14]
    have h8' : gI τ 8 = nI (C + pre (wlN σ τr cf) (j + 1)) := by rw [q2, hpre, hwl]; rfl
    have ine : ∀ x : Int32, 0 ≤ x → ¬ x = nI j → ¬ x.toNatClampNeg = (nI j).toNatClampNeg := fun x x0 xi w => xi ((i_inj x0 j0).mp w)
    by_cases h7 : xA σ 13 (nI j) = 7
    · have e13 := (p2 (nI j) j0 (by rw [h7]; decide)).1
      rw [e13, h7] at r13
      obtain ⟨s0, s1⟩ := hN.1 h7
      have ho := hown _ s0 s1
      refine ⟨pA τ 15 (nI j) (xA τr 26 (xA σ 22 (xA σ 15 (nI j)))), ?_, (FrPN.rf τ).A (by decide), by rw [gI_pA]; exact h8', fun x x0 _ xi => (Tw.rf τ x).A (ine x x0 xi), ?_, fun _ => ⟨?_, ?_, fun _ => ?_, fun w => absurd h7 w⟩, fun _ => ?_, fun w => absurd (h7.symm.trans w) (by decide), fun w => absurd (h7.symm.trans w) (by decide), fun w => absurd w h14⟩
      · unfold f_X2_plantNode
        rw [gd6200 j0 j6, r13, if_pos rfl, gd6200 j0 j6, r15, gd700 s0 (by grind), row 22 _ (by omega), xs 22 _ (by omega), gd700 ho.1 (by grind), gd6200 j0 j6, row 26 _ (by omega), x26]
      · rw [xA_pA, if_neg (fun w => absurd w.1 (by decide))]; exact r17
      · rw [xA_pA, if_neg (fun w => absurd w.1 (by decide)), r13, e13, h7]
      · rw [xA_pA, if_neg (fun w => absurd w.1 (by decide))]; exact r16
      · rw [xA_pA, if_neg (fun w => absurd w.1 (by decide))]; exact r14
      · rw [xA_self]
    · by_cases h10 : xA σ 13 (nI j) = 10
      · have e13 := (p2 (nI j) j0 (by rw [h10]; decide)).1
        have e14 := (p2 (nI j) j0 (by rw [h10]; decide)).2
        rw [e13, h10] at r13
        rw [e14] at r14
        obtain ⟨v, q, ⟨v0, v1⟩, q5, ev⟩ := hN.2.1 h10
        have ed := div5 (i := q) v0 (by grind) (by omega)
        have em := m5_n (i := q) v0 (by grind) (by omega)
        rw [ed] at em
        refine ⟨pA τ 14 (nI j) (xA τv 25 v + nI q), ?_, (FrPN.rf τ).A (by decide), by rw [gI_pA]; exact h8', fun x x0 _ xi => (Tw.rf τ x).A (ine x x0 xi), ?_, fun _ => ⟨?_, ?_, fun w => absurd h10 w, fun _ _ => ?_⟩, fun w => absurd w h7, fun _ v' q' a b c e => ?_, fun w => absurd (h10.symm.trans w) (by decide), fun w => absurd w h14⟩
        · unfold f_X2_plantNode
          rw [gd6200 j0 j6, r13, if_neg (by decide), if_neg (by decide), if_neg (by decide), if_pos rfl, gd6200 j0 j6, r14, ev, ed, gd700 v0 (by grind), gd6200 j0 j6, row 25 _ (by omega), em]
        · rw [xA_pA, if_neg (fun w => absurd w.1 (by decide))]; exact r17
        · rw [xA_pA, if_neg (fun w => absurd w.1 (by decide)), r13, e13, h10]
        · rw [xA_pA, if_neg (fun w => absurd w.1 (by decide))]; exact r16
        · rw [xA_pA, if_neg (fun w => absurd w.1 (by decide))]; exact r15
        · rw [xA_self]
          rw [ev] at e
          have ed' := div5 (i := q') a (by grind) (by omega)
          have em' := m5_n (i := q') a (by grind) (by omega)
          rw [ed'] at em'
          have hv : v = v' := by rw [← ed, ← ed', e]
          rw [← e, ← hv, em] at em'
          rw [hv, em']
      · by_cases h11 : xA σ 13 (nI j) = 11
        · have e13 := (p2 (nI j) j0 (by rw [h11]; decide)).1
          rw [e13, h11] at r13
          obtain ⟨⟨s0, s1⟩, _⟩ := hN.2.2.1 h11
          refine ⟨pA τ 15 (nI j) (xA τv 25 (xA σ 15 (nI j))), ?_, (FrPN.rf τ).A (by decide), by rw [gI_pA]; exact h8', fun x x0 _ xi => (Tw.rf τ x).A (ine x x0 xi), ?_, fun _ => ⟨?_, ?_, fun _ => ?_, fun _ w => absurd h11 w⟩, fun w => absurd w h7, fun w => absurd w h10, fun _ => ?_, fun w => absurd w h14⟩
          · unfold f_X2_plantNode
            rw [gd6200 j0 j6, r13, if_neg (by decide), if_neg (by decide), if_neg (by decide), if_neg (by decide), if_pos rfl, gd6200 j0 j6, r15, gd700 s0 (by grind), gd6200 j0 j6, row 25 _ (by omega)]
          · rw [xA_pA, if_neg (fun w => absurd w.1 (by decide))]; exact r17
          · rw [xA_pA, if_neg (fun w => absurd w.1 (by decide)), r13, e13, h11]
          · rw [xA_pA, if_neg (fun w => absurd w.1 (by decide))]; exact r16
          · rw [xA_pA, if_neg (fun w => absurd w.1 (by decide))]; exact r14
          · rw [xA_self]
        · refine ⟨τ, ?_, FrPN.rf τ, h8', fun x _ _ _ => Tw.rf τ x, r17, fun _ => ⟨r13, r16, fun _ => r14, fun _ _ => r15⟩, fun w => absurd w h7, fun w => absurd w h10, fun w => absurd w h11, fun w => absurd w h14⟩
          have hk : ¬ xA τu 13 (nI j) = 7 ∧ ¬ xA τu 13 (nI j) = 10 ∧ ¬ xA τu 13 (nI j) = 11 ∧ ¬ xA τu 13 (nI j) = 14 := by
            by_cases h3 : xA σ 13 (nI j) = 3
            · have hu3 : xA τu 13 (nI j) = 3 ∨ xA τu 13 (nI j) = 2 := by
                rcases hcov.1 (nI j) j0 (by rw [hC]; exact jC) with ⟨hh, s, s', u, u', a, b, t, n, hSs, tr, cx⟩ | ⟨v, i', s, s', u, u', a, b, t, n, _, tb, cx⟩ | ⟨hh, i', s, s', u, u', a, b, t, n, _, ta, cx⟩ | ⟨hh, s, s', u, u', n, b, t, _, tf, cx⟩
                · obtain ⟨hb, q⟩ := tr.un
                  unfold Bd at hb
                  rcases q with q | q | q | q | q | q | q
                  · obtain ⟨e1, e2, e3, e4, e5, e6, e7⟩ := q
                    rcases e7 with ⟨f1, f2, f3, f4, f5, f6, f7⟩ | ⟨_, ⟨_, w, _⟩ | ⟨_, w, _⟩ | ⟨_, w⟩⟩
                    · have hun := nI_tn hb.2.2.2.2.1
                      have huU : u.toNatClampNeg < U := by
                        have hp : u.toNatClampNeg = prI (w3 σ) t := cx.2.2.2.2.2
                        have : pre (w3 σ) t.toNatClampNeg + 0 < pre (w3 σ) C := pre_lt (by rw [e4, ecj]; exact hj) (by unfold w3; rw [xA_tn, e4, if_pos f2]; omega)
                        have hall : prI (w3 σ) (gI σ 8) = U := h80.2.2
                        unfold prI at hp hall
                        rw [hC, nI_clamp (by omega)] at hall
                        omega
                      have := p3 u.toNatClampNeg huU
                      rw [← hun, f7] at this
                      by_cases hp : 0 ≤ tg σ k u.toNatClampNeg
                      · obtain ⟨_, _, _, w, _⟩ := this.1 hp
                        exact Or.inl w
                      · exact Or.inr (this.2 (by grind)).1
                    · rw [w] at h3; exact absurd h3 (by decide)
                    · rw [w] at h3; exact absurd h3 (by decide)
                    · rw [w] at h3; exact absurd h3 (by decide)
                  · rw [q.2.2.1] at h3; exact absurd h3 (by decide)
                  · rw [q.2.2.1] at h3; exact absurd h3 (by decide)
                  · rw [q.2.2.1] at h3; exact absurd h3 (by decide)
                  · rw [q.2.2.1] at h3; exact absurd h3 (by decide)
                  · rw [q.2.2.2.1] at h3; exact absurd h3 (by decide)
                  · rw [q.2.2.2.1] at h3; exact absurd h3 (by decide)
                · rw [tb.2.2.1] at h3; exact absurd h3 (by decide)
                · obtain ⟨_, _, _, _, _, _, d6⟩ := ta
                  rcases d6 with ⟨_, w, _⟩ | ⟨_, ⟨_, w, _⟩ | ⟨_, w⟩, _⟩ <;> (rw [w] at h3; exact absurd h3 (by decide))
                · rw [tf.1] at h3; exact absurd h3 (by decide)
              rcases hu3 with w | w <;> rw [w] <;> decide
            · rw [(p2 (nI j) j0 h3).1]
              exact ⟨h7, h10, h11, h14⟩
          rw [← r13] at hk
          unfold f_X2_plantNode
          rw [gd6200 j0 j6, if_neg hk.1, if_neg hk.2.1, if_neg hk.2.2.1, if_neg hk.2.2.2]
          simp
