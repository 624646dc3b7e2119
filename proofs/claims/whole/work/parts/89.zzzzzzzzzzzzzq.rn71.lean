/-- the program that stands, with its numbers -/
def PRgW (τ μ : S5) (F k T : Nat) (pa nv : Nat → Nat) (Tt : Nat → (Nat → Bool) → Bool) : Prop := (F ≤ 630 ∧ k ≤ F ∧ k ≤ 30 ∧ T ≤ 14000) ∧ (gI τ 6 = nI F ∧ gI μ 22 = nI F) ∧ (gI τ 5 = nI k ∧ gI μ 13 = nI k ∧ (∀ i, i < k → xB τ 1 (nI i) = xB μ 2 (nI i)) ∧ ∀ i j, i < j → j < k → ¬ xB τ 1 (nI i) = xB τ 1 (nI j)) ∧ (gI τ 7 = tp (xB τ 1) 1835100526 k 0 ∧ ¬ gI τ 7 = -1) ∧ Ct τ μ ∧ gI τ 13 = gI μ 11 ∧ (∀ g, F ≤ g → 8 < pa g) ∧ (TBc τ pa = Tt ∧ TBm μ pa = Tt ∧ T01 μ F) ∧ ∀ f, f < F → PRf τ μ F k T pa nv Tt f
theorem mS_r {τ τ2 : S5} (h2 : TR2 τ τ2) {cc : Nat → Int32} : ∀ l, mS τ2 cc l = mS τ cc l
  | 0 => rfl
  | l + 1 => by
    show mS τ2 cc l ||| (if xA τ2 13 (cc l) = 10 then spn (xA τ2 14 (cc l)) 1 else 0) = mS τ cc l ||| (if xA τ 13 (cc l) = 10 then spn (xA τ 14 (cc l)) 1 else 0)
    rw [mS_r h2 l, h2.1 13 _ (by decide)]
    by_cases h : xA τ 13 (cc l) = 10
    · rw [if_pos h, if_pos h, h2.2.1 _ (by rw [h]; decide)]
    · rw [if_neg h, if_neg h]
theorem mU_r {τ τ2 : S5} (h2 : TR2 τ τ2) {cc : Nat → Int32} : ∀ l, mU τ2 cc l = mU τ cc l
  | 0 => rfl
  | l + 1 => by
    show mU τ2 cc l ||| xB τ2 2 (cc l) = mU τ cc l ||| xB τ 2 (cc l)
    rw [mU_r h2 l, h2.2.2.2]
theorem mB_r {τ τ2 : S5} (h2 : TR2 τ τ2) (c a2 : Int32) (l : Nat) (cc : Nat → Int32) : mB τ2 c a2 l cc = mB τ c a2 l cc := by
  unfold mB
  rw [mU_r h2, mS_r h2, h2.1 13 _ (by decide), h2.1 15 _ (by decide)]
theorem lbit_r {τ τ2 : S5} (h2 : TR2 τ τ2) (c : Int32) : lbit (xA τ2 13 c) (xA τ2 14 c) = lbit (xA τ 13 c) (xA τ 14 c) := by
  rw [h2.1 13 _ (by decide)]
  by_cases h : xA τ 13 c = 7
  · rw [h]
    unfold lbit
    rw [if_neg (by decide), if_neg (by decide)]
  · rw [h2.2.1 _ h]
/-- the bits of all nodes -/
def DomP (τ2 : S5) (C : Nat) (c : Int32) : Prop := (0 ≤ c ∧ c < nI C) ∨ (xA τ2 16 c = -1 ∧ xB τ2 2 c = lbit (xA τ2 13 c) (xA τ2 14 c))
theorem dm_of {σ ν τr τv τu τp τ2 : S5} {k U F C : Nat} {S : Int32} {sc : Nat → Int32} {cf : Nat → Nat} (hX : PX σ ν τr τv τu τp k U F C S sc cf) (h2 : TR2 τp τ2) : DmB τ2 (DomP τ2 C) := by
  intro c hd
  rcases hd with ⟨c0, cC⟩ | w
  · obtain ⟨⟨hL0, hS6, hSe, hF6, hkF, hU⟩, hown, hsc, hnum, hrow, hbase, htg, hku, hkf, hcov, ⟨h80, hg4, hw3⟩, hroom⟩ := hX.1
    have hC : gI σ 8 = nI C := hX.2.2.2.1
    have hC6 : C ≤ 6200 := hX.2.2.2.2
    obtain ⟨fr, fm⟩ := hX.2.2.1.2.2.1 c c0 cC
    obtain ⟨hK, hNk⟩ := (hcov.1 c c0 (by rw [hC]; exact cC)).nk
    have e16 : xA τ2 16 c = xA τp 16 c := h2.1 16 c (by decide)
    have leaf : xA τp 16 c = -1 → xA τ2 16 c = -1 ∧ xB τ2 2 c = lbit (xA τ2 13 c) (xA τ2 14 c) := fun w => ⟨e16.trans w, by rw [h2.2.2.2, lbit_r h2]; exact (fm.1 w).2.2⟩
    by_cases h14 : xA σ 13 c = 14
    · obtain ⟨⟨s0, s1⟩, s2, s3, s4⟩ := hNk.2.2.2 h14
      obtain ⟨f, f1, f2⟩ := hnum _ s0 s1
      rw [s2] at f2
      by_cases hz : cf f = 0
      · exact Or.inl (leaf ((fr.2.2.2.2.2 h14 f f1 f2).1 hz).2.2)
      · obtain ⟨n0, g, ⟨z1, z1'⟩, z2, z3, z4, z5, z6, z7, z8⟩ := (fr.2.2.2.2.2 h14 f f1 f2).2 hz
        have hc8 : cf f ≤ 8 := (hsc f f1).2.2.2.2.1
        have hc6 : c < 6200 := i_lt_le cC ((nI_le31 (b := 6200) (by omega) (by omega)).mpr hC6)
        have hn0 : n0 + cf f + 1 ≤ 6100 := by
          have w1 := hroom
          rw [hC, nI_clamp (by omega)] at w1
          have w2 : pre (wlN σ τr cf) (c.toNatClampNeg + 1) ≤ prI (wlN σ τr cf) (nI C) := by
            have := prM (w := wlN σ τr cf) (x := c + 1) (y := nI C) (i_su cC)
            unfold prI at this
            rw [tn_s c0 (i_lt_le hc6 (by decide))] at this
            exact this
          omega
        have hM := fm.2.2 h14 f f1 f2 hz n0 z7 (by omega)
        refine Or.inr ⟨cf f + 1, fun p => nI (n0 + p), by omega, ⟨by rw [e16]; exact z7, fun i hi => ⟨i_le0 (nI_nneg (by omega)), ?_⟩⟩, ?_, fun p hp => Or.inr ?_⟩
        · rw [h2.1 17 _ (by decide), (z8 i (by omega)).2.2.2.1]
          by_cases hi2 : i < cf f
          · rw [if_pos hi2, if_pos (by omega)]
            rfl
          · rw [if_neg hi2, if_neg (by omega)]
        · rw [h2.2.2.2, mB_r h2, h2.1 13 _ (by decide), if_neg (by rw [z4]; decide)]
          exact hM.2.2
        · obtain ⟨y1, y2, y3, y4, y5, y6, y7⟩ := z8 p (by omega)
          refine ⟨by rw [h2.1 16 _ (by decide)]; exact y3, ?_⟩
          rw [h2.2.2.2, lbit_r h2, y1, y2]
          exact y7
    · rcases hK with ⟨k1, k2⟩ | ⟨l, cc, k1, k2, k3⟩
      · exact Or.inl (leaf ((fr.2.1 h14).2.1.trans k1))
      · obtain ⟨hM, m13⟩ := hX.ch c0 cC k1 k2 k3
        have h3 : ¬ xA σ 13 c = 3 := fun w => by rw [w] at k2; exact absurd k2 (by decide)
        obtain ⟨t13, t14, t15, t16, t17⟩ := hX.fr c0 cC h14 h3
        refine Or.inr ⟨l, cc, k1.1.1, ⟨by rw [e16, t16]; exact k1.2.1, fun i hi => ?_⟩, ?_, fun p hp => ?_⟩
        · obtain ⟨q0, q1, q2⟩ := k1.2.2 i hi
          have qC : cc i < nI C := i_lt_le q1 (i_le_of_lt cC)
          refine ⟨q0, ?_⟩
          rw [h2.1 17 _ (by decide), (hX.2.2.1.2.2.1 (cc i) q0 qC).1.1]
          exact q2
        · rw [h2.2.2.2, mB_r h2, h2.1 13 _ (by decide), m13]
          have ea : (if xA σ 13 c = 11 then xA τ2 2 (xA τ2 14 c) else 0) = (if xA σ 13 c = 11 then xA σ 2 (xA σ 14 c) else 0) := by
            by_cases h11 : xA σ 13 c = 11
            · rw [if_pos h11, if_pos h11, h2.2.1 c (by rw [m13, h11]; decide), t14 (by rw [h11]; decide), h2.1 2 _ (by decide), hX.2.2.1.1.x 2 _ (by decide), hX.2.1.1.x 2 _ (by decide) (by decide), hrow.1 2 _ (by decide)]
            · rw [if_neg h11, if_neg h11]
          rw [ea]
          exact hM.2.2
        · obtain ⟨q0, q1, -⟩ := k1.2.2 p hp
          exact Or.inl ⟨q0, i_lt_le q1 (i_le_of_lt cC)⟩
  · exact Or.inl w
/-- the marks of lets -/
def X3s (τp τ2 : S5) : Prop := ∀ c, 0 ≤ c → c < gI τ2 8 → xA τ2 13 c = 7 → ¬ xA τ2 14 c = 0 → xA τp 17 (xA τp 17 (xA τp 16 c)) = -1 ∧ (j_lushr (xB τp 2 (xA τp 16 (xA τp 17 (xA τp 16 c)))) (xA τp 14 (xA τp 17 (xA τp 16 c)))) &&& 1 = 0
/-- WHEN BOTH HAVE FOUND WHAT IS NEEDED: what running must know -/
theorem prw_of {σ μ τs μ' τ2 μ2 : S5} (h : DUp σ τs μ' τ2 μ2) (hKI : ∀ j, j = 4 ∨ j = 5 ∨ j = 13 → gI τs j = gI σ j) (hKA : gA τs 2 = gA σ 2) (hKB : ∀ j, ¬ j = 2 → gB τs j = gB σ j) (hKM : KM μ μ') (hct : Ct σ μ) (h13 : gI σ 13 = gI μ 11) (hk30 : (gI σ 5).toNatClampNeg ≤ 30) (hm13 : gI μ 13 = gI σ 5) (hnm : ∀ i, i < (gI σ 5).toNatClampNeg → xB σ 1 (nI i) = xB μ 2 (nI i)) (hnp : prI (wp σ) (gI σ 8) ≤ 600) : ∃ (F k T : Nat) (pa nv : Nat → Nat) (Tt : Nat → (Nat → Bool) → Bool) (Dom : Int32 → Prop) (τp : S5), PRgW τ2 μ2 F k T pa nv Tt ∧ (DmB τ2 Dom ∧ ∀ f, f < F → Dom (xA τ2 7 (nI f))) ∧ (∀ f, f < F → wtN (wD μ2 pa) μ2 (xA μ2 45 (nI f)).toNatClampNeg ≤ 600) ∧ TR2 τp τ2 ∧ X3s τp τ2 := by
  obtain ⟨ν, τr, τv, τu, τp, μ0, τm, τ', k, U, F, C, sc, fs, cc, fu, fn, ft, cf, pa, Q, hX, ⟨hM, hpg, hN, hG⟩, hK, hA, hB, ⟨m7, m7'⟩, h5, hpa1, hD, hMD, ⟨g6, g22⟩, ⟨hTF, hAs⟩, ⟨hFY, hDM, hQ, hQe⟩, hDT⟩ := h
  have hF6 : F ≤ 630 := hD.1
  have hkF : k ≤ F := hX.1.1.2.2.2.2.1
  have hk : k ≤ 30 := by rw [h5, nI_clamp (by omega)] at hk30; exact hk30
  have hxp : ∀ j x, j < 13 ∨ 19 < j → xA τp j x = xA τu j x := fun j x hj => hX.2.2.1.1.x j x hj
  have hxu : ∀ j x, ¬ j = 13 → ¬ j = 14 → xA τu j x = xA τv j x := fun j x a b => hX.2.1.1.x j x a b
  have kx : ∀ j x, ¬ j = 9 → ¬ j = 10 → xA τ' j x = xA τp j x := fun j x a b => hK.1.x j x a b
  have yx : ∀ j x, ¬ j = 11 → ¬ j = 12 → ¬ j = 14 → xA τ2 j x = xA τ' j x := fun j x a b c => by
    show gA τ2 j _ = gA τ' j _
    rw [hFY.2.2.1 j a b c, hAs.2.1 j]
  have zx : ∀ j x, ¬ j = 36 → ¬ j = 49 → ¬ j = 50 → ¬ j = 51 → ¬ j = 52 → xA μ2 j x = xA μ' j x := fun j x a b c d e => by
    show gA μ2 j _ = gA μ' j _
    rw [hDT.2.2.2.1.2.2.1 j a b c d e]
  have gp : ∀ j, ¬ j = 8 → gI τp j = gI τv j := fun j hj => by rw [hX.2.2.1.1.1 j hj, hX.2.1.1.1 j]
  have yI : ∀ j, j < 23 → gI τ2 j = gI τ' j := fun j a => by rw [hFY.1 j (by omega) (by omega), hAs.1 j (by omega)]
  have yB : ∀ j x, ¬ j = 5 → ¬ j = 6 → ¬ j = 7 → xB τ2 j x = xB τ' j x := fun j x a b c => by
    show gB τ2 j _ = gB τ' j _
    rw [hFY.2.2.2.1 j a b c, hAs.2.2 j]
  have lB : ∀ j x, ¬ j = 2 → xB τ' j x = xB σ j x := fun j x a => by
    show gB τ' j _ = gB σ j _
    rw [← hAs.2.2 j, hKB j a]
  have lI : ∀ j, j = 4 ∨ j = 5 ∨ j = 13 → gI τ' j = gI σ j := fun j a => by rw [← hAs.1 j (by omega), hKI j a]
  have zI : ∀ j, ¬ j = 29 → ¬ j = 30 → ¬ j = 31 → gI μ2 j = gI μ' j := fun j a b c => hDT.2.2.2.1.1 j a b c
  have zB : ∀ j x, j < 4 → xB μ2 j x = xB μ j x := fun j x a => by
    show gB μ2 j _ = gB μ j _
    rw [hDT.2.2.2.1.2.2.2.1 j, hKM.2.2.2.1 j (Or.inl a)]
  have e1 : ∀ x, xB τ2 1 x = xB σ 1 x := fun x => by rw [yB 1 x (by decide) (by decide) (by decide), lB 1 x (by decide)]
  have hTR2 : TR2 τp τ2 := by
    refine ⟨fun j x hj => ?_, fun x hx => ?_, ?_, fun x => ?_⟩
    · rw [yx j x (by omega) (by omega) (by omega), kx j x (by omega) (by omega)]
    · by_cases hx0 : 0 ≤ x
      · have := hDM.2.2.1 x hx0
        rw [if_neg (fun w => hx w.2)] at this
        rw [this]
        show gA τs 14 _ = _
        rw [hAs.2.1 14]
        exact kx 14 x (by decide) (by decide)
      · have hc : x.toNatClampNeg = (0 : Int32).toNatClampNeg := by
          rw [Int32.le_iff_toInt_le, show (0 : Int32).toInt = 0 from rfl] at hx0
          show x.toInt.toNat = 0
          omega
        have hx' : ∀ (s : S5) j, xA s j x = xA s j 0 := fun s j => by
          show gA s j x.toNatClampNeg = gA s j (0 : Int32).toNatClampNeg
          rw [hc]
        have := hDM.2.2.1 0 (by decide)
        rw [if_neg (fun w => hx (by rw [hx']; exact w.2))] at this
        rw [hx' τ2, hx' τp, this]
        show gA τs 14 _ = _
        rw [hAs.2.1 14]
        exact kx 14 0 (by decide) (by decide)
    · rw [yI 4 (by decide), hK.1.1 4 (by decide) (by decide)]
    · rw [yB 2 x (by decide) (by decide) (by decide)]
      show gB τ' 2 _ = gB τp 2 _
      rw [hK.1.2.2.2.1 2]
  have hTR3 : TR3 μ' μ2 := ⟨fun j x hj => zx j x (by omega) (by omega) (by omega) (by omega) (by omega), fun x => by
    show gB μ2 5 _ = gB μ' 5 _
    rw [hDT.2.2.2.1.2.2.2.1 5]⟩
  have hpre : ∀ f, f < F → mmF σ τp sc (f + 1) ≤ mmF σ τp sc F := fun f hf => by
    have := pre_mono (w := ptF σ τp sc) (F - (f + 1)) (f + 1)
    rw [show f + 1 + (F - (f + 1)) = F by omega] at this
    exact this
  have h14 : ctF σ τp sc F ≤ 14000 := by
    by_cases hF0 : F = 0
    · rw [hF0]
      exact Nat.zero_le _
    · obtain ⟨-, -, w6⟩ := hA.2.2 0 (by omega)
      exact w6.un.1.2.2.1
  have hW : PRgW τ2 μ2 F k (ctF σ τp sc F) pa (nvF σ (gI σ 9) sc cf) (Tl τp pa (rtF σ sc) 41) := by
    refine ⟨⟨hF6, hkF, hk, h14⟩, ⟨by rw [yI 6 (by decide)]; exact g6, by rw [zI 22 (by decide) (by decide) (by decide)]; exact g22⟩, ⟨?_, ?_, fun i hi => ?_, fun i j hij hj => ?_⟩, ⟨?_, ?_⟩, ?_, ?_, hD.2.2.1, ⟨hDM.1, hDT.1.2, hDT.1.1⟩, fun f hf => ?_⟩
    · rw [yI 5 (by decide), lI 5 (by decide)]; exact h5
    · rw [zI 13 (by decide) (by decide) (by decide), hKM.1 13 (by omega), hm13]; exact h5
    · rw [e1, zB 2 _ (by decide)]
      exact hnm i (by rw [h5, nI_clamp (by omega)]; exact hi)
    · rw [e1, e1]
      exact hpg.2.2 i j hij hj
    · have e : xB τ2 1 = xB σ 1 := funext e1
      rw [e, yI 7 (by decide), hK.1.1 7 (by decide) (by decide), gp 7 (by decide), hB.1 7]
      exact m7
    · rw [yI 7 (by decide), hK.1.1 7 (by decide) (by decide), gp 7 (by decide), hB.1 7]
      exact m7'
    · obtain ⟨c1, c2, c3, c4⟩ := hct
      have e4 : gI τ2 4 = gI σ 4 := by rw [yI 4 (by decide), lI 4 (by decide)]
      refine ⟨by rw [e4, zI 14 (by decide) (by decide) (by decide), hKM.1 14 (by omega)]; exact c1, by rw [e4]; exact c2, by rw [e4]; exact c3, fun i i0 i1 => ?_⟩
      rw [e4] at i1
      have e2 : xA τ2 2 i = xA σ 2 i := by
        rw [yx 2 i (by decide) (by decide) (by decide)]
        show gA τ' 2 _ = gA σ 2 _
        rw [← hAs.2.1 2, hKA]
      have e13 : xA μ2 13 i = xA μ 13 i := by
        rw [zx 13 i (by decide) (by decide) (by decide) (by decide) (by decide)]
        show gA μ' 13 _ = gA μ 13 _
        rw [hKM.2.2.1 13 (by omega)]
      rw [yB 0 i (by decide) (by decide) (by decide), lB 0 i (by decide), zB 3 i (by decide), e2, e13]
      exact c4 i i0 i1
    · rw [yI 13 (by decide), lI 13 (by decide), zI 11 (by decide) (by decide) (by decide), hKM.1 11 (by omega)]
      exact h13
    · obtain ⟨⟨w1, w2, w3, w4⟩, w5, w6⟩ := hA.2.2 f hf
      obtain ⟨d1, d2, d3, d4, ⟨hi, d5, d6⟩, -⟩ := hD.2.2.2 f hf
      obtain ⟨l0, l1, l2, l3, l4⟩ := (hX.1.2.2.1 f hf).2
      have hu := w6.un
      have hq := hu.1.1
      have hnn := hu.2.2.1
      have hss : mmF σ τp sc (f + 1) = mmF σ τp sc f + (xA τp 19 (rtF σ sc f)).toNatClampNeg := rfl
      have e7 : xA τ2 7 (nI f) = rtF σ sc f := by rw [yx 7 _ (by decide) (by decide) (by decide), kx 7 _ (by decide) (by decide)]; exact d1
      have e19 : xA τp 19 (rtF σ sc f) = nI (mmF σ τp sc (f + 1) - 1 + 1 - mmF σ τp sc f) := by
        have hp : 0 ≤ xA τp 19 (rtF σ sc f) := tn_pos (by omega)
        rw [show mmF σ τp sc (f + 1) - 1 + 1 - mmF σ τp sc f = (xA τp 19 (rtF σ sc f)).toNatClampNeg by omega]
        exact nI_tn hp
      have hfM := hpre f hf
      have hLT : LTN τ2 μ2 F (nvF σ (gI σ 9) sc cf f) (ctF σ τp sc F) (rtF σ sc f) (mmF σ τp sc f) (mmF σ τp sc (f + 1) - 1) := by
        refine ltn_of (M := mmF σ τp sc F) d3 hTR2 hTR3 (fun c q p Sc lo hi' hJ h40 h41 c0 hpM => ⟨fun hk7 => ?_, fun hk7 => ?_⟩) w6 _ _ _ d5 (fun x w => w) (by omega) (by omega) (by omega)
        · have hn := hDT.2.1 p hpM c q Sc lo hi' hJ h40 h41
          have hcQ : c < nI Q := by
            rcases hJ.un.1.2.2.2.1.un with ⟨⟨-, q1⟩, -⟩ | ⟨q1, -⟩ | ⟨-, l, bb, ll, -, -, ⟨-, -, q4⟩, -⟩ | ⟨q1, -⟩
            · rw [hk7] at q1; exact absurd q1 (by decide)
            · rw [hk7] at q1; exact absurd q1 (by decide)
            · rw [← hQ, hK.1.1 8 (by decide) (by decide)]; exact q4
            · rw [hk7] at q1; exact absurd q1 (by decide)
          have hc := hDM.2.2.1 c c0
          rw [if_pos ⟨hcQ, hk7⟩] at hc
          have eb : bP (xA τp 13 c = 7 ∧ NdL τp pa (Tl τp pa (rtF σ sc) 41) c) = bP (NdL τp pa (Tl τp pa (rtF σ sc) 41) c) := by
            have : (xA τp 13 c = 7 ∧ NdL τp pa (Tl τp pa (rtF σ sc) 41) c) = NdL τp pa (Tl τp pa (rtF σ sc) 41) c := propext ⟨fun w => w.2, fun w => ⟨hk7, w⟩⟩
            rw [this]
          rw [eb] at hn
          have ec : xA τ2 14 c = xA μ2 36 (nI p) := by
            rw [hc, hn]
            cases bP (NdL τp pa (Tl τp pa (rtF σ sc) 41) c) <;> rfl
          refine ⟨ec, ?_⟩
          rw [ec, hn]
          exact b2i01 _
        · have hn := hDT.2.1 p hpM c q Sc lo hi' hJ h40 h41
          rw [hn]
          have : bP (xA τp 13 c = 7 ∧ NdL τp pa (Tl τp pa (rtF σ sc) 41) c) = false := by
            cases hb : bP (xA τp 13 c = 7 ∧ NdL τp pa (Tl τp pa (rtF σ sc) 41) c)
            · rfl
            · exact absurd (bP_t.mp hb).1 hk7
          rw [this]
          rfl
      refine ⟨mmF σ τp sc f, mmF σ τp sc (f + 1) - 1, hi, ⟨?_, ?_, (hD.2.1 f hf).2, fun w => ?_⟩, ?_, ⟨?_, ?_, d3⟩, ⟨?_, ?_, fun x x0 x1 => ?_⟩, ⟨?_, ?_⟩, by rw [e7]; exact hLT, ⟨?_, d6, ?_⟩, hDM.2.1 f hf, fun j hj => hDT.2.2.1 f j hf hj, ?_⟩
      · rw [yx 3 _ (by decide) (by decide) (by decide), kx 3 _ (by decide) (by decide)]; exact (hD.2.1 f hf).1
      · rw [zx 47 _ (by decide) (by decide) (by decide) (by decide) (by decide), hpa1 f hf]; exact w4
      · rw [hpa1 f hf]; exact np1 hX.1 hpg hN f hf w
      · rw [yx 4 _ (by decide) (by decide) (by decide), kx 4 _ (by decide) (by decide), hxp 4 _ (by omega), hxu 4 _ (by decide) (by decide), l2, zx 20 _ (by decide) (by decide) (by decide) (by decide) (by decide)]
        show _ = gA μ' 20 _
        rw [hA.1.2.2.1 20 (by omega)]
        exact (hM.2.2.2.2.1 f hf).1.symm
      · rw [yx 6 _ (by decide) (by decide) (by decide), kx 6 _ (by decide) (by decide)]; exact d2
      · rw [zx 46 _ (by decide) (by decide) (by decide) (by decide) (by decide)]; exact w3
      · rw [zx 44 _ (by decide) (by decide) (by decide) (by decide) (by decide)]; exact w1
      · rw [zx 45 _ (by decide) (by decide) (by decide) (by decide) (by decide)]; exact w2
      · rw [zx 38 _ (by decide) (by decide) (by decide) (by decide) (by decide)]; exact w5 x x0 (by omega)
      · rw [yx 9 _ (by decide) (by decide) (by decide), (hK.2.1 f hf).1]; exact e19
      · rw [yx 10 _ (by decide) (by decide) (by decide), (hK.2.1 f hf).2, zx 37 _ (by decide) (by decide) (by decide) (by decide) (by decide)]; exact hu.2.1.symm
      · rw [e7]
        exact vs_tr hTR2 (by rw [yI 8 (by decide), hK.1.1 8 (by decide) (by decide)]) w6 _ _ _ d5
      · rw [e7]
        have : hF τ2 (rtF σ sc f) = hF τp (rtF σ sc f) := by unfold hF; rw [hTR2.1 18 _ (by decide)]
        omega
      · obtain ⟨W, hW⟩ : ∃ W, pre (wMn μ2) (mmF σ τp sc (f + 1) - 1 + 1) = pre (wMn μ2) (mmF σ τp sc f) + W := by
          have := pre_mono (w := wMn μ2) (mmF σ τp sc (f + 1) - 1 + 1 - mmF σ τp sc f) (mmF σ τp sc f)
          rw [show mmF σ τp sc f + (mmF σ τp sc (f + 1) - 1 + 1 - mmF σ τp sc f) = mmF σ τp sc (f + 1) - 1 + 1 by omega] at this
          exact ⟨_, (Nat.add_sub_cancel' this).symm⟩
        refine ⟨W, hW, ?_⟩
        have hall := ct_all hX hpg hTR2 hf hLT hW
        rw [hDM.2.2.2 f hf]
        have hC6 : C ≤ 6200 := hX.2.2.2.2
        have hQ6 : C + pre (wlN σ τr cf) C ≤ 6200 := by
          have w1 := hX.1.2.2.2.2.2.2.2.2.2.2.2
          rw [hX.2.2.2.1, nI_clamp (by omega)] at w1
          unfold prI at w1
          rw [nI_clamp (by omega)] at w1
          omega
        have hz : pre (wL τp pa (Tl τp pa (rtF σ sc) 41) f) Q = pre (wL τp pa (Tl τp pa (rtF σ sc) 41) f) C := by
          rw [hQe]
          refine pre_z _ (fun i a b => ?_)
          unfold wL
          rw [if_neg (fun w => hX.out i a b (bP_t.mp w).1)]
        have hc : pre (wL τp pa (Tl τp pa (rtF σ sc) 41) f) C = pre (wCn τp τ2 f) C := pre_cg C (fun i hi => by
          have h14 := hDM.2.2.1 (nI i) (i_le0 (nI_nneg (by omega)))
          have hlt : nI i < nI Q := (nI_lt31 (by omega) (by omega)).mpr (by omega)
          unfold wL wCn
          by_cases hk7 : xA τp 13 (nI i) = 7
          · rw [if_pos ⟨hlt, hk7⟩] at h14
            by_cases hn : NdL τp pa (Tl τp pa (rtF σ sc) 41) (nI i)
            · rw [if_pos (bP_t.mpr hn)] at h14
              by_cases hs : xA τp 15 (nI i) = nI f
              · rw [if_pos (bP_t.mpr ⟨hk7, hs, hn⟩), if_pos ⟨hk7, hs, h14⟩]
              · rw [if_neg (fun w => hs (bP_t.mp w).2.1), if_neg (fun w => hs w.2.1)]
            · rw [if_neg (fun w => hn (bP_t.mp w))] at h14
              rw [if_neg (fun w => hn (bP_t.mp w).2.2), if_neg (fun w => by rw [h14] at w; exact absurd w.2.2 (by decide))]
          · rw [if_neg (fun w => hk7 (bP_t.mp w).1), if_neg (fun w => hk7 w.1)])
        rw [hz, hc, hall]
  have hC : gI σ 8 = nI C := hX.2.2.2.1
  have hC6 : C ≤ 6200 := hX.2.2.2.2
  have fnh := fn_all hX.1 hM hpg hG hN
  have e7' : ∀ f, f < F → xA τ2 7 (nI f) = rtF σ sc f := fun f hf => by
    obtain ⟨d1, -⟩ := hD.2.2.2 f hf
    rw [yx 7 _ (by decide) (by decide) (by decide), kx 7 _ (by decide) (by decide)]
    exact d1
  refine ⟨F, k, ctF σ τp sc F, pa, nvF σ (gI σ 9) sc cf, Tl τp pa (rtF σ sc) 41, DomP τ2 C, τp, hW, ⟨dm_of hX hTR2, fun f hf => ?_⟩, fun f hf => ?_, hTR2, fun c c0 c8 k7 hm => ?_⟩
  · obtain ⟨s', u, u', y, b, t, c, -, -, q5, -, q7, -, q9, -, -, -, -, -, q15⟩ := fnh f hf
    rw [e7' f hf, show rtF σ sc f = c from q5]
    exact Or.inl ⟨q7.c.1, by rw [← hC]; exact q15⟩
  · obtain ⟨s', u, u', y, b, t, c, -, -, q5, -, q7, -, q9, -, -, -, -, -, q15⟩ := fnh f hf
    obtain ⟨q, p, hi, -, -, -, ⟨-, z2, -⟩, -, z3, -⟩ := hW.2.2.2.2.2.2.2.2 f hf
    have hp7 := z3.un.1.1.2.1
    rw [e7' f hf, show rtF σ sc f = c from q5] at z3
    have h1 := q7.dt hX hTR2 hpa1 (by rw [← hC]; exact q15) q9 _ _ z3
    rw [z2, nI_clamp (by omega)]
    have h3 : prI (wp σ) (c + 1) ≤ prI (wp σ) (gI σ 8) := prM (i_su q15)
    omega
  · have e8 : gI τ2 8 = nI Q := by rw [yI 8 (by decide)]; exact hQ
    rw [e8] at c8
    have k7' : xA τp 13 c = 7 := (hTR2.1 13 c (by decide)).symm.trans k7
    have hc := hDM.2.2.1 c c0
    rw [if_pos ⟨c8, k7'⟩] at hc
    by_cases hn : NdL τp pa (Tl τp pa (rtF σ sc) 41) c
    · exact ⟨hn.1, hn.2.1⟩
    · rw [if_neg (fun w => hn (bP_t.mp w))] at hc
      exact absurd hc hm
