/-- a node's rows but its measures -/
def Tw5 (τ τ' : S5) (x : Int32) : Prop := xA τ' 13 x = xA τ 13 x ∧ xA τ' 14 x = xA τ 14 x ∧ xA τ' 15 x = xA τ 15 x ∧ xA τ' 16 x = xA τ 16 x ∧ xA τ' 17 x = xA τ 17 x
theorem Tw.five {τ τ' : S5} {x : Int32} (h : Tw τ τ' x) : Tw5 τ τ' x := ⟨h.1, h.2.1, h.2.2.1, h.2.2.2.1, h.2.2.2.2.1⟩
theorem FINr.st5 {σ τr τv τu : S5} {S : Int32} {F : Nat} {sc : Nat → Int32} {cf : Nat → Nat} {C : Nat} {τ τ' : S5} {i : Int32} (h : FINr σ τr τv τu S F sc cf C τ i) (hi : Tw5 τ τ' i) (hl : ∀ x : Nat, C ≤ x → x < C + pre (wlN σ τr cf) (i.toNatClampNeg + 1) → Tw τ τ' (nI x)) : FINr σ τr τv τu S F sc cf C τ' i := by
  obtain ⟨h1, h2, h3, h4, h5, h6⟩ := h
  obtain ⟨t13, t14, t15, t16, t17⟩ := hi
  unfold FINr
  rw [t13, t14, t15, t16, t17]
  refine ⟨h1, h2, h3, h4, h5, fun w f hf hs => ⟨fun hc => (h6 w f hf hs).1 hc, fun hc => ?_⟩⟩
  obtain ⟨n0, g, a1, a2, a3, a4, a5, a6, a7, a8⟩ := (h6 w f hf hs).2 hc
  exact ⟨n0, g, a1, a2, a3, a4, a5, a6, a7, fun p hp => (a8 p hp).tw (hl (n0 + p) (by omega) (by omega))⟩
theorem mlf_at {τ : S5} {i : Int32} : Tw5 τ (mlf τ i) i ∧ xA (mlf τ i) 18 i = 1 ∧ xA (mlf τ i) 19 i = 1 ∧ xB (mlf τ i) 2 i = lbit (xA τ 13 i) (xA τ 14 i) ∧ FrPN τ (mlf τ i) ∧ gI (mlf τ i) 8 = gI τ 8 ∧ (∀ x, 0 ≤ x → 0 ≤ i → ¬ x = i → Tw τ (mlf τ i) x) := by
  have ex : ∀ g, ¬ g = 18 → ¬ g = 19 → xA (mlf τ i) g i = xA τ g i := fun g a b => by
    show xA (pA (pA τ 18 i 1) 19 i 1) g i = _
    rw [xA_pA, if_neg (fun w => b w.1), xA_pA, if_neg (fun w => a w.1)]
  refine ⟨⟨ex 13 (by decide) (by decide), ex 14 (by decide) (by decide), ex 15 (by decide) (by decide), ex 16 (by decide) (by decide), ex 17 (by decide) (by decide)⟩, ?_, ?_, ?_, (((FrPN.rf τ).A (by decide)).A (by decide)).B, rfl, fun x x0 i0 hx => ?_⟩
  · show xA (pA (pA τ 18 i 1) 19 i 1) 18 i = _
    rw [xA_pA, if_neg (fun w => absurd w.1 (by decide)), xA_self]
  · show xA (pA (pA τ 18 i 1) 19 i 1) 19 i = _
    rw [xA_self]
  · unfold mlf
    rw [xB_pB, if_pos ⟨rfl, rfl⟩]
  · have hne : ¬ x.toNatClampNeg = i.toNatClampNeg := fun w => hx ((i_inj x0 i0).mp w)
    exact (((Tw.rf τ x).A hne).A hne).B hne
theorem msr_at {τ : S5} {i a2 : Int32} {l : Nat} {cc : Nat → Int32} (i0 : 0 ≤ i) (hc : ∀ p, p < l → 0 ≤ cc p ∧ ¬ cc p = i) : Tw5 τ (msr τ i a2 l cc) i ∧ MEQ (msr τ i a2 l cc) i a2 l cc ∧ FrPN τ (msr τ i a2 l cc) ∧ gI (msr τ i a2 l cc) 8 = gI τ 8 ∧ (∀ x, 0 ≤ x → ¬ x = i → Tw τ (msr τ i a2 l cc) x) := by
  have ex : ∀ g, ¬ g = 18 → ¬ g = 19 → xA (msr τ i a2 l cc) g i = xA τ g i := fun g a b => by
    show xA (pA (pA τ 18 i (mH τ cc l + u1F (xA τ 13 i))) 19 i (mQ τ cc l + u1F (xA τ 13 i))) g i = _
    rw [xA_pA, if_neg (fun w => b w.1), xA_pA, if_neg (fun w => a w.1)]
  have ht : ∀ x, 0 ≤ x → ¬ x = i → Tw τ (msr τ i a2 l cc) x := fun x x0 hx => by
    have hne : ¬ x.toNatClampNeg = i.toNatClampNeg := fun w => hx ((i_inj x0 i0).mp w)
    exact (((Tw.rf τ x).A hne).A hne).B hne
  obtain ⟨m1, m2, m3, m4⟩ := m_st l (fun p hp => ht (cc p) (hc p hp).1 (hc p hp).2)
  refine ⟨⟨ex 13 (by decide) (by decide), ex 14 (by decide) (by decide), ex 15 (by decide) (by decide), ex 16 (by decide) (by decide), ex 17 (by decide) (by decide)⟩, ⟨?_, ?_, ?_⟩, (((FrPN.rf τ).A (by decide)).A (by decide)).B, rfl, ht⟩
  · rw [m1, ex 13 (by decide) (by decide)]
    show xA (pA (pA τ 18 i (mH τ cc l + u1F (xA τ 13 i))) 19 i (mQ τ cc l + u1F (xA τ 13 i))) 18 i = _
    rw [xA_pA, if_neg (fun w => absurd w.1 (by decide)), xA_self]
  · rw [m2, ex 13 (by decide) (by decide)]
    show xA (pA (pA τ 18 i (mH τ cc l + u1F (xA τ 13 i))) 19 i (mQ τ cc l + u1F (xA τ 13 i))) 19 i = _
    rw [xA_self]
  · unfold mB
    rw [m3, m4, ex 13 (by decide) (by decide), ex 15 (by decide) (by decide)]
    show xB (pB _ 2 i (mB τ i a2 l cc)) 2 i = _
    rw [xB_pB, if_pos ⟨rfl, rfl⟩]
    rfl
theorem pn_step {σ ν τr τv τu : S5} {k U F : Nat} {S : Int32} {sc : Nat → Int32} {cf : Nat → Nat} (hL : LXc σ ν τr τv k U F S sc cf) (hPU : PU σ τv k F sc cf U τu) {C : Nat} (hC : gI σ 8 = nI C) (hC6 : C ≤ 6200) {j : Nat} (hj : j < C) {τ : S5} (h : PNs σ τr τv τu S F sc cf C j τ) (hroom : C + pre (wlN σ τr cf) (j + 1) ≤ 6200) : ∃ τ', (∀ rec, f_X2_plantNodes_B10 rec (nI C) (nI j) τ = rec (nI C) (nI (j + 1)) τ') ∧ PNs σ τr τv τu S F sc cf C (j + 1) τ' := by
  obtain ⟨τ1, a1, a2, a3, a4, a5⟩ := pn_node hL hPU hC hC6 hj h hroom
  have hL' := hL
  obtain ⟨⟨hDN, ⟨hS0, hS6⟩, hSe, hF, hkF, hU6, hU⟩, hown, hsc, hnum, ⟨xs, x26, g8, g10, g6, g20⟩, hbase, htg, hku, hkf, hcov, ⟨h80, hg4, hw3⟩, hroom0⟩ := hL'
  obtain ⟨p1, p2, p3⟩ := hPU
  obtain ⟨q1, q2, q3, q4⟩ := h
  have j0 : 0 ≤ nI j := i_le0 (nI_nneg (by omega))
  have jC : nI j < nI C := (nI_lt31 (by omega) (by omega)).mpr hj
  have j6 : nI j < 6200 := (nI_lt31 (b := 6200) (by omega) (by omega)).mpr (by omega)
  have ecj : (nI j).toNatClampNeg = j := nI_clamp (by omega)
  have hpre : pre (wlN σ τr cf) (j + 1) = pre (wlN σ τr cf) j + wlN σ τr cf j := rfl
  have hmono : ∀ x, x ≤ j → pre (wlN σ τr cf) x ≤ pre (wlN σ τr cf) j := fun x hx => by
    have := pre_mono (w := wlN σ τr cf) (j - x) x
    rw [show x + (j - x) = j by omega] at this
    exact this
  obtain ⟨hK, hNk⟩ := (hcov.1 (nI j) j0 (by rw [hC]; exact jC)).nk
  have hB : ∀ rec, f_X2_plantNodes_B10 rec (nI C) (nI j) τ = if xA τ1 16 (nI j) = -1 then bd (f_X9_measureLeaf (nI j) τ1) (fun _ τ48 => rec (nI C) (nI (j + 1)) τ48) else if xA τ1 13 (nI j) = 11 then gd (xA τ1 14 (nI j)) 30 <| bd (f_X9_measure (nI j) (xA τ1 2 (xA τ1 14 (nI j))) τ1) (fun _ τ86 => rec (nI C) (nI (j + 1)) τ86) else bd (f_X9_measure (nI j) 0 τ1) (fun _ τ86 => rec (nI C) (nI (j + 1)) τ86) := by
    intro rec
    unfold f_X2_plantNodes_B10 f_X2_plantNodes_b86 f_X2_plantNodes_b89
    rw [if_neg (fun w => by have := (nI_le31 (by omega) (by omega)).mp w; omega), a1, bd_of, gd6200 j0 j6, gd6200 j0 j6, gd6200 j0 j6, nI_add1]
  have ltj : ∀ x : Int32, 0 ≤ x → x < nI (j + 1) → x = nI j ∨ x < nI j := by
    intro x x0 x1
    have e : nI j + 1 = nI (j + 1) := nI_add1 j
    grind
  have fin : ∀ τ', Tw5 τ1 τ' (nI j) → FrPN τ1 τ' → gI τ' 8 = gI τ1 8 → (∀ x, 0 ≤ x → ¬ x = nI j → Tw τ1 τ' x) → FINm σ F sc cf τ' (nI j) → PNs σ τr τv τu S F sc cf C (j + 1) τ' := by
    intro τ' b1 b2 b3 b4 b5
    have nj : ∀ x : Nat, C ≤ x → x ≤ 6200 → ¬ nI x = nI j := fun x hx hx6 w => by have := nI_injL (by omega) (by omega) w; omega
    refine ⟨(q1.tr a2).tr b2, by rw [b3, a3], fun x x0 x1 => ?_, fun x x0 x1 => ?_⟩
    · rcases ltj x x0 x1 with rfl | hlt
      · refine ⟨a5.st5 b1 (fun y y1 y2 => b4 _ (i_le0 (nI_nneg (by rw [ecj] at y2; omega))) (nj y y1 (by rw [ecj] at y2; omega))), b5⟩
      · have hxj : x.toNatClampNeg < j := by
          have := i_lt (not_neg x0) hlt
          rw [ecj] at this
          exact this
        have hm := hmono (x.toNatClampNeg + 1) (by omega)
        have tw : ∀ y : Int32, 0 ≤ y → y < nI (C + pre (wlN σ τr cf) j) → ¬ y = nI j → Tw τ τ' y := fun y y0 y1 y2 => (a4 y y0 y1 y2).tr (b4 y y0 y2)
        have xn : x < nI (C + pre (wlN σ τr cf) j) := by
          have : nI j < nI (C + pre (wlN σ τr cf) j) := (nI_lt31 (by omega) (by omega)).mpr (by omega)
          grind
        have xne : ¬ x = nI j := by grind
        obtain ⟨r1, r2⟩ := q3 x x0 hlt
        have twl : ∀ y : Nat, C ≤ y → y < C + pre (wlN σ τr cf) (x.toNatClampNeg + 1) → Tw τ τ' (nI y) := fun y y1 y2 => tw _ (i_le0 (nI_nneg (by omega))) ((nI_lt31 (by omega) (by omega)).mpr (by omega)) (nj y y1 (by omega))
        refine ⟨r1.st (tw x x0 xn xne) twl, r2.st (tw x x0 xn xne) (fun y y0 y1 => tw y y0 (by grind) (by grind)) (fun w f hf hs hcf n0 hn hn6 p hp => ?_)⟩
        obtain ⟨n1, g, z1, z2, z3, z4, z5, z6, z7, z8⟩ := (r1.2.2.2.2.2 w f hf hs).2 hcf
        have hc8 := (hsc f hf).2.2.2.2.1
        have : n0 = n1 := nI_injL (by omega) (by omega) (hn.symm.trans z7)
        subst this
        exact twl (n0 + p) (by omega) (by omega)
    · have e : nI j + 1 = nI (j + 1) := nI_add1 j
      have xC : nI C ≤ nI (C + pre (wlN σ τr cf) j) := (nI_le31 (by omega) (by omega)).mpr (by omega)
      have x00 : 0 ≤ x := by grind
      have xne : ¬ x = nI j := by grind
      obtain ⟨t13, t14, t15, t16, t17, _⟩ := (a4 x x00 (by grind) xne).tr (b4 x x00 xne)
      obtain ⟨s13, s14, s15, s16, s17⟩ := q4 x (by grind) x1
      exact ⟨t13.trans s13, t14.trans s14, t15.trans s15, t16.trans s16, t17.trans s17⟩
  -- a leaf
  have leaf : xA τ1 16 (nI j) = -1 → (∀ l cc, CHn σ (nI j) l cc → 5 ≤ xA σ 13 (nI j) → xA σ 13 (nI j) ≤ 13 → False) → ∃ τ', (∀ rec, f_X2_plantNodes_B10 rec (nI C) (nI j) τ = rec (nI C) (nI (j + 1)) τ') ∧ PNs σ τr τv τu S F sc cf C (j + 1) τ' := by
    intro hk hno
    obtain ⟨m1, m2, m3, m4, m5, m6, m7⟩ := mlf_at (τ := τ1) (i := nI j)
    refine ⟨mlf τ1 (nI j), fun rec => by rw [hB, if_pos hk, ml_go j0 j6, bd_of], fin _ m1 m5 m6 (fun x x0 hx => m7 x x0 j0 hx) ⟨fun _ => ⟨m2, m3, by rw [m4, m1.1, m1.2.1]⟩, fun l cc c a b => absurd (hno l cc c a b) (fun w => w), fun w f hf hs hcf n0 hn hn6 => ?_⟩⟩
    rw [m1.2.2.2.1, hk] at hn
    exact absurd hn.symm (nI_ne1 (by omega))
  rcases hK with ⟨k1, k2⟩ | ⟨l, cc, c, k2, k3⟩
  · have hno : ∀ l cc, CHn σ (nI j) l cc → 5 ≤ xA σ 13 (nI j) → xA σ 13 (nI j) ≤ 13 → False := fun l cc c a b => by
      rcases k2 with w | w | w | w | w <;> rw [w] at a b <;> first | exact absurd a (by decide) | exact absurd b (by decide)
    by_cases h14 : xA σ 13 (nI j) = 14
    · obtain ⟨⟨s0, s1⟩, s2, s3, s4⟩ := hNk.2.2.2 h14
      obtain ⟨f, f1, f2⟩ := hnum _ s0 s1
      rw [s2] at f2
      have uq : ∀ f', f' < F → xA σ 14 (nI j) = sc f' → f' = f := by
        intro f' hf' he
        have z := (hsc f' hf').1.2.2.2
        rw [← he, f2, (hsc f f1).1.2.2.2] at z
        exact (nI_injL (by omega) (by omega) z).symm
      have hc8 := (hsc f f1).2.2.2.2.1
      by_cases hc : cf f = 0
      · exact leaf ((a5.2.2.2.2.2 h14 f f1 f2).1 hc).2.2 hno
      · obtain ⟨n0, g, z1, z2, z3, z4, z5, z6, z7, z8⟩ := (a5.2.2.2.2.2 h14 f f1 f2).2 hc
        rw [ecj] at z1
        have hcc : ∀ p, p < cf f + 1 → (0 ≤ nI (n0 + p) ∧ nI (n0 + p) < 6200) ∧ xA τ1 17 (nI (n0 + p)) = if p + 1 < cf f + 1 then nI (n0 + (p + 1)) else -1 := by
          intro p hp
          refine ⟨⟨i_le0 (nI_nneg (by omega)), (nI_lt31 (b := 6200) (by omega) (by omega)).mpr (by omega)⟩, ?_⟩
          rw [(z8 p (by omega)).2.2.2.1]
          by_cases hpc : p < cf f
          · rw [if_pos hpc, if_pos (by omega)]; rfl
          · rw [if_neg hpc, if_neg (by omega)]
        have hne : ¬ xA τ1 16 (nI j) = -1 := by rw [z7]; exact nI_ne1 (by omega)
        have hms := ms_go (τ := τ1) (i := nI j) (l := cf f + 1) (cc := fun p => nI (n0 + p)) 0 j0 j6 (by omega) (by omega) z7 hcc
        obtain ⟨m1, m2, m3, m4, m5⟩ := msr_at (τ := τ1) (i := nI j) (a2 := 0) (l := cf f + 1) (cc := fun p => nI (n0 + p)) j0 (fun p hp => ⟨(hcc p hp).1.1, fun w => by have := nI_injL (by omega) (by omega) w; omega⟩)
        refine ⟨msr τ1 (nI j) 0 (cf f + 1) (fun p => nI (n0 + p)), fun rec => by rw [hB, if_neg hne, z4, if_neg (by decide), hms, bd_of], fin _ m1 m3 m4 m5 ⟨fun w => absurd (m1.2.2.2.1.symm.trans w) hne, fun l cc c a b => absurd (hno l cc c a b) (fun w => w), fun w f' hf' hs' hcf' n0' hn' hn6' => ?_⟩⟩
        have ef := uq f' hf' hs'
        subst ef
        rw [m1.2.2.2.1, z7] at hn'
        have en : n0 = n0' := nI_injL (by omega) (by omega) hn'
        subst en
        exact m2
    · exact leaf (by rw [(a5.2.1 h14).2.1]; exact k1) hno
  · have h14 : ¬ xA σ 13 (nI j) = 14 := fun w => by rw [w] at k3; exact absurd k3 (by decide)
    have h3 : ¬ xA σ 13 (nI j) = 3 := fun w => by rw [w] at k2; exact absurd k2 (by decide)
    obtain ⟨r13, r16, r14, r15⟩ := a5.2.1 h14
    rw [(p2 (nI j) j0 h3).1] at r13
    obtain ⟨⟨l1, l9⟩, c16, cch⟩ := c
    have hccn : ∀ p, p < l → (cc p).toNatClampNeg < j ∧ ¬ cc p = nI j := fun p hp => by
      obtain ⟨y0, y1, y2⟩ := cch p hp
      have := i_lt (not_neg y0) y1
      rw [ecj] at this
      exact ⟨this, by grind⟩
    have hcc : ∀ p, p < l → (0 ≤ cc p ∧ cc p < 6200) ∧ xA τ1 17 (cc p) = if p + 1 < l then cc (p + 1) else -1 := by
      intro p hp
      obtain ⟨y0, y1, y2⟩ := cch p hp
      refine ⟨⟨y0, by grind⟩, ?_⟩
      have tw := a4 (cc p) y0 (by
        have : nI j < nI (C + pre (wlN σ τr cf) j) := (nI_lt31 (by omega) (by omega)).mpr (by omega)
        grind) (hccn p hp).2
      rw [tw.2.2.2.2.1, (q3 (cc p) y0 y1).1.1]
      exact y2
    have hk16 : xA τ1 16 (nI j) = cc 0 := r16.trans c16
    have hne : ¬ xA τ1 16 (nI j) = -1 := by
      rw [hk16]
      have := (cch 0 (by omega)).1
      grind
    have key : ∀ a2, (if xA σ 13 (nI j) = 11 then xA σ 2 (xA σ 14 (nI j)) else 0) = a2 → (∀ rec, f_X2_plantNodes_B10 rec (nI C) (nI j) τ = rec (nI C) (nI (j + 1)) (msr τ1 (nI j) a2 l cc)) → ∃ τ', (∀ rec, f_X2_plantNodes_B10 rec (nI C) (nI j) τ = rec (nI C) (nI (j + 1)) τ') ∧ PNs σ τr τv τu S F sc cf C (j + 1) τ' := by
      intro a2 ha hgo
      obtain ⟨m1, m2, m3, m4, m5⟩ := msr_at (τ := τ1) (i := nI j) (a2 := a2) (l := l) (cc := cc) j0 (fun p hp => ⟨(hcc p hp).1.1, (hccn p hp).2⟩)
      refine ⟨_, hgo, fin _ m1 m3 m4 m5 ⟨fun w => absurd (m1.2.2.2.1.symm.trans w) hne, fun l' cc' c' _ _ => ?_, fun w => absurd w h14⟩⟩
      rw [ha]
      obtain ⟨⟨l1', l9'⟩, c16', cch'⟩ := c'
      have hag : ∀ p, p < l → p < l' ∧ cc' p = cc p := by
        intro p
        induction p with
        | zero => intro _; exact ⟨by omega, c16'.symm.trans c16⟩
        | succ p ih =>
          intro hp
          obtain ⟨i1, i2⟩ := ih (by omega)
          have e1 := (cch p (by omega)).2.2
          have e2 := (cch' p i1).2.2
          rw [i2, e1, if_pos hp] at e2
          by_cases hh : p + 1 < l'
          · rw [if_pos hh] at e2; exact ⟨hh, e2.symm⟩
          · rw [if_neg hh] at e2
            have := (cch (p + 1) hp).1
            rw [e2] at this
            exact absurd this (by decide)
      have hll : l' = l := by
        have q := hag (l - 1) (by omega)
        rcases Nat.lt_or_ge l l' with w | w
        · have e1 := (cch (l - 1) (by omega)).2.2
          have e2 := (cch' (l - 1) (by omega)).2.2
          rw [if_neg (by omega)] at e1
          rw [q.2, e1, if_pos (by omega)] at e2
          have := (cch' (l - 1 + 1) (by omega)).1
          rw [← e2] at this
          exact absurd this (by decide)
        · omega
      subst hll
      have hst : ∀ p, p ≤ l' → mH (msr τ1 (nI j) a2 l' cc) cc' p = mH (msr τ1 (nI j) a2 l' cc) cc p ∧ mQ (msr τ1 (nI j) a2 l' cc) cc' p = mQ (msr τ1 (nI j) a2 l' cc) cc p ∧ mU (msr τ1 (nI j) a2 l' cc) cc' p = mU (msr τ1 (nI j) a2 l' cc) cc p ∧ mS (msr τ1 (nI j) a2 l' cc) cc' p = mS (msr τ1 (nI j) a2 l' cc) cc p := by
        intro p
        induction p with
        | zero => intro _; exact ⟨rfl, rfl, rfl, rfl⟩
        | succ p ih =>
          intro hp
          obtain ⟨i1, i2, i3, i4⟩ := ih (by omega)
          have ec := (hag p (by omega)).2
          unfold mH mQ mU mS
          rw [i1, i2, i3, i4, ec]
          exact ⟨rfl, rfl, rfl, rfl⟩
      obtain ⟨i1, i2, i3, i4⟩ := hst l' (Nat.le_refl _)
      unfold MEQ mB at m2 ⊢
      rw [i1, i2, i3, i4]
      exact m2
    by_cases h11 : xA σ 13 (nI j) = 11
    · obtain ⟨_, v0, v1⟩ := hNk.2.2.1 h11
      have e14 : xA τ1 14 (nI j) = xA σ 14 (nI j) := by rw [r14 (by rw [h11]; decide)]; exact (p2 (nI j) j0 h3).2
      have e2 : ∀ y, xA τ1 2 y = xA σ 2 y := fun y => by rw [a2.x 2 y (by omega), q1.x 2 y (by omega), p1.x 2 y (by decide) (by decide), xs 2 y (by omega)]
      have hv30 : gd (xA σ 14 (nI j)) 30 (bd (f_X9_measure (nI j) (xA σ 2 (xA σ 14 (nI j))) τ1) (fun _ τ86 => some ((), τ86))) = gd (xA σ 14 (nI j)) 30 (bd (f_X9_measure (nI j) (xA σ 2 (xA σ 14 (nI j))) τ1) (fun _ τ86 => some ((), τ86))) := rfl
      have hgd : ∀ (x : Option (Unit × S5)), gd (xA σ 14 (nI j)) 30 x = x := fun x => gd_of v0 (show xA σ 14 (nI j) < 30 from by grind) rfl
      refine key (xA σ 2 (xA σ 14 (nI j))) (if_pos h11) (fun rec => ?_)
      rw [hB, if_neg hne, r13, if_pos h11, e14, e2, hgd, ms_go _ j0 j6 l1 l9 hk16 hcc, bd_of]
    · refine key 0 (if_neg h11) (fun rec => ?_)
      rw [hB, if_neg hne, r13, if_neg h11, ms_go _ j0 j6 l1 l9 hk16 hcc, bd_of]
theorem pn_go {σ ν τr τv τu : S5} {k U F : Nat} {S : Int32} {sc : Nat → Int32} {cf : Nat → Nat} (hL : LXc σ ν τr τv k U F S sc cf) (hPU : PU σ τv k F sc cf U τu) {C : Nat} (hC : gI σ 8 = nI C) (hC6 : C ≤ 6200) : ∃ τp, f_X2_plantNodes τu = some ((), τp) ∧ PNs σ τr τv τu S F sc cf C C τp := by
  have hbig := FU_big (n := 30000) (by decide)
  have h80 := hL.2.2.2.2.2.2.2.2.2.2.2
  have g8 := hL.2.2.2.2.1.2.2.1
  rw [hC] at h80 g8
  have hroom : C + pre (wlN σ τr cf) C ≤ 6100 := by
    have := h80
    unfold prI at this
    rw [nI_clamp (by omega)] at this
    exact this
  have hmono : ∀ x, x ≤ C → pre (wlN σ τr cf) x ≤ pre (wlN σ τr cf) C := fun x hx => by
    have := pre_mono (w := wlN σ τr cf) (C - x) x
    rw [show x + (C - x) = C by omega] at this
    exact this
  have loop : ∀ (d j m : Nat) (τ : S5), j + d = C → d < m → PNs σ τr τv τu S F sc cf C j τ → ∃ τp, f_X2_plantNodes_L10 m (nI C) (nI j) τ = some ((), τp) ∧ PNs σ τr τv τu S F sc cf C C τp := by
    intro d
    induction d with
    | zero =>
      intro j m τ hj hm h
      obtain ⟨m, rfl⟩ : ∃ m', m = m' + 1 := ⟨m - 1, by omega⟩
      have : j = C := by omega
      subst this
      refine ⟨τ, ?_, h⟩
      show f_X2_plantNodes_B10 _ _ _ _ = _
      unfold f_X2_plantNodes_B10
      rw [if_pos (Int32.le_refl _)]
    | succ d ih =>
      intro j m τ hj hm h
      obtain ⟨m, rfl⟩ : ∃ m', m = m' + 1 := ⟨m - 1, by omega⟩
      have := hmono (j + 1) (by omega)
      obtain ⟨τ', a1, a2⟩ := pn_step hL hPU hC hC6 (by omega) h (by omega)
      show ∃ τp, f_X2_plantNodes_B10 _ _ _ _ = _ ∧ _
      rw [a1]
      exact ih (j + 1) m τ' (by omega) (by omega) a2
  have e8 : gI τu 8 = nI C := by rw [hPU.1.1 8]; exact g8
  unfold f_X2_plantNodes
  rw [e8]
  exact loop C 0 FU τu (by omega) (by omega) ⟨FrPN.rf τu, e8, fun i i0 i1 => absurd i1 (by have : nI 0 = 0 := rfl; rw [this]; grind), fun _ _ _ => ⟨rfl, rfl, rfl, rfl, rfl⟩⟩
