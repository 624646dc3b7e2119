/-- a function within another has a parameter -/
theorem np1 {σ ν τr τv : S5} {k U F : Nat} {S : Int32} {sc fs cc fu fn ft : Nat → Int32} {cf : Nat → Nat} (hL : LXc σ ν τr τv k U F S sc cf) (hp : PG σ ν k cc fs fu fn ft) (hN : NX σ ν k sc fs) : ∀ f, f < F → k ≤ f → 1 ≤ paF σ sc cf f := by
  intro f hf hkf
  obtain ⟨⟨l0, l1, l2, l3⟩, -⟩ := hL.2.2.1 f hf
  have hS : S = gI σ 9 := hL.1.2.2.1
  have hF6 : F ≤ 630 := hL.1.2.2.2.1
  have hkF : k ≤ F := hL.1.2.2.2.2.1
  obtain ⟨⟨p1, p2, -⟩, p3, -⟩ := hp
  have key : ∀ n, n ≤ k → sc f < fs n → ∃ i, i < n ∧ fs i ≤ sc f ∧ sc f < fs (i + 1) := by
    intro n
    induction n with
    | zero =>
      intro _ w
      rw [p1] at w
      exact absurd w (not_neg l0)
    | succ n ih =>
      intro hn w
      by_cases h : sc f < fs n
      · obtain ⟨i, i1, i2⟩ := ih (by omega) h
        exact ⟨i, by omega, i2⟩
      · exact ⟨n, by omega, by clear ih p3 hL hN; grind, w⟩
  obtain ⟨i, i1, i2, i3⟩ := key k (Nat.le_refl _) (by rw [p2, ← hS]; exact l1)
  obtain ⟨⟨-, -, -, ⟨q1, q2, -⟩, -, -, -, q3⟩, ⟨r1, r2, r3⟩, -⟩ := p3 i i1
  have hne : ¬ sc f = fs i := fun w => by
    have e := (hL.2.2.1 i (by omega)).1.2.2.2
    rw [hN.2.1 i i1, ← w, l3] at e
    have e2 := congrArg Int32.toNatClampNeg e
    rw [nI_clamp (by omega), nI_clamp (by omega)] at e2
    omega
  have h9 : gI σ 9 ≤ 630 := hN.2.2.1
  have hle : fs i + 1 ≤ sc f := by
    clear key p3 q3 hL hN
    grind
  have h := q3.ow (sc f) hle i3
  have hpos : 0 < xA σ 20 (sc f) := by
    rcases h with w | ⟨-, w⟩
    · rw [l2, q2] at w
      exact absurd w hne
    · rw [l2] at w
      exact w
  have h1 := i_lt (a := 0) (by decide) hpos
  unfold paF
  have h0 : (0 : Int32).toNatClampNeg = 0 := rfl
  omega
/-- a function, on both sides -/
def PRf (τ μ : S5) (F k T : Nat) (pa nv : Nat → Nat) (Tt : Nat → (Nat → Bool) → Bool) (f : Nat) : Prop := ∃ q p hi, (xA τ 3 (nI f) = nI (pa f) ∧ xA μ 47 (nI f) = nI (pa f) ∧ pa f ≤ 8 ∧ (k ≤ f → 1 ≤ pa f)) ∧ xA τ 4 (nI f) = xA μ 20 (nI f) ∧ (xA τ 6 (nI f) = nI (nv f) ∧ xA μ 46 (nI f) = nI (nv f) ∧ nv f ≤ 40) ∧ (xA μ 44 (nI f) = nI q ∧ xA μ 45 (nI f) = nI p ∧ ∀ x, q ≤ x → x ≤ p → xA μ 38 (nI x) = nI f) ∧ (xA τ 9 (nI f) = nI (p + 1 - q) ∧ xA τ 10 (nI f) = xA μ 37 (nI p)) ∧ LTN τ μ F (nv f) T (xA τ 7 (nI f)) q p ∧ (VS τ (xA τ 7 (nI f)) (fun x => x < pa f) (pa f) hi ∧ hi ≤ nv f ∧ hF τ (xA τ 7 (nI f)) ≤ 40) ∧ xA τ 12 (nI f) = nI (ndN Tt pa f) ∧ (∀ j, j < pa f → xA μ 52 (nI (8 * f + j)) = b2i (!Tt f (fun k => decide (¬ k = j)))) ∧ ∃ W, pre (wMn μ) (p + 1) = pre (wMn μ) q + W ∧ xA τ 11 (nI f) = nI W
/-- THE PROGRAM THAT STANDS, on both sides -/
def PRg (τ μ : S5) : Prop := ∃ (F k T : Nat) (pa nv : Nat → Nat) (Tt : Nat → (Nat → Bool) → Bool), (F ≤ 630 ∧ k ≤ F ∧ k ≤ 30 ∧ T ≤ 14000) ∧ (gI τ 6 = nI F ∧ gI μ 22 = nI F) ∧ (gI τ 5 = nI k ∧ gI μ 13 = nI k ∧ (∀ i, i < k → xB τ 1 (nI i) = xB μ 2 (nI i)) ∧ ∀ i j, i < j → j < k → ¬ xB τ 1 (nI i) = xB τ 1 (nI j)) ∧ (gI τ 7 = tp (xB τ 1) 1835100526 k 0 ∧ ¬ gI τ 7 = -1) ∧ Ct τ μ ∧ gI τ 13 = gI μ 11 ∧ (∀ g, F ≤ g → 8 < pa g) ∧ (TBc τ pa = Tt ∧ TBm μ pa = Tt ∧ T01 μ F) ∧ ∀ f, f < F → PRf τ μ F k T pa nv Tt f
theorem tn_pos {x : Int32} (h : 1 ≤ x.toNatClampNeg) : 0 ≤ x := by
  by_cases h0 : 0 ≤ x
  · exact h0
  · exfalso
    have h1 : x.toInt < 0 := by
      rw [Int32.le_iff_toInt_le] at h0
      rw [show (0 : Int32).toInt = 0 from rfl] at h0
      omega
    have h2 : x.toNatClampNeg = x.toInt.toNat := rfl
    omega
theorem b2i01 (b : Bool) : b2i b = 0 ∨ b2i b = 1 := by
  cases b
  · exact Or.inl rfl
  · exact Or.inr rfl
/-- WHEN BOTH HAVE FOUND WHAT IS NEEDED, THE PROGRAM STANDS -/
theorem prg_of {σ μ τs μ' τ2 μ2 : S5} (h : DUp σ τs μ' τ2 μ2) (hKI : ∀ j, j = 4 ∨ j = 5 ∨ j = 13 → gI τs j = gI σ j) (hKA : gA τs 2 = gA σ 2) (hKB : ∀ j, ¬ j = 2 → gB τs j = gB σ j) (hKM : KM μ μ') (hct : Ct σ μ) (h13 : gI σ 13 = gI μ 11) (hk30 : (gI σ 5).toNatClampNeg ≤ 30) (hm13 : gI μ 13 = gI σ 5) (hnm : ∀ i, i < (gI σ 5).toNatClampNeg → xB σ 1 (nI i) = xB μ 2 (nI i)) : PRg τ2 μ2 := by
  obtain ⟨ν, τr, τv, τu, τp, μ0, τm, τ', k, U, F, C, sc, fs, cc, fu, fn, ft, cf, pa, Q, hX, ⟨hM, hpg, hN, hG⟩, hK, hA, hB, ⟨m7, m7'⟩, h5, hpa1, hD, hMD, ⟨g6, g22⟩, ⟨hTF, hAs⟩, ⟨hFY, hDM, hQ, hQe⟩, hDT⟩ := h
  have hF6 : F ≤ 630 := hD.1
  have hkF : k ≤ F := hX.1.1.2.2.2.2.1
  have hk : k ≤ 30 := by rw [h5, nI_clamp (by omega)] at hk30; exact hk30
  have hxp : ∀ j x, j < 13 ∨ 19 < j → xA τp j x = xA τu j x := fun j x hj => hX.2.2.1.1.x j x hj
  have hxu : ∀ j x, ¬ j = 13 → ¬ j = 14 → xA τu j x = xA τv j x := fun j x a b => hX.2.1.1.x j x a b
  have kx : ∀ j x, ¬ j = 9 → ¬ j = 10 → xA τ' j x = xA τp j x := fun j x a b => hK.1.x j x a b
  have yx : ∀ j x, ¬ j = 11 → ¬ j = 12 → ¬ j = 14 → xA τ2 j x = xA τ' j x := fun j x a b c => by
    show gA τ2 j _ = gA τ' j _
    rw [hFY.2.2.1 j a b c, hAs.2.1 j]
  have zx : ∀ j x, ¬ j = 36 → ¬ j = 49 → ¬ j = 50 → ¬ j = 51 → ¬ j = 52 → xA μ2 j x = xA μ' j x := fun j x a b c d e => by
    show gA μ2 j _ = gA μ' j _
    rw [hDT.2.2.2.1.2.2.1 j a b c d e]
  have gp : ∀ j, ¬ j = 8 → gI τp j = gI τv j := fun j hj => by rw [hX.2.2.1.1.1 j hj, hX.2.1.1.1 j]
  have yI : ∀ j, j < 23 → gI τ2 j = gI τ' j := fun j a => by rw [hFY.1 j (by omega) (by omega), hAs.1 j (by omega)]
  have yB : ∀ j x, ¬ j = 5 → ¬ j = 6 → ¬ j = 7 → xB τ2 j x = xB τ' j x := fun j x a b c => by
    show gB τ2 j _ = gB τ' j _
    rw [hFY.2.2.2.1 j a b c, hAs.2.2 j]
  have lB : ∀ j x, ¬ j = 2 → xB τ' j x = xB σ j x := fun j x a => by
    show gB τ' j _ = gB σ j _
    rw [← hAs.2.2 j, hKB j a]
  have lI : ∀ j, j = 4 ∨ j = 5 ∨ j = 13 → gI τ' j = gI σ j := fun j a => by rw [← hAs.1 j (by omega), hKI j a]
  have zI : ∀ j, ¬ j = 29 → ¬ j = 30 → ¬ j = 31 → gI μ2 j = gI μ' j := fun j a b c => hDT.2.2.2.1.1 j a b c
  have zB : ∀ j x, j < 4 → xB μ2 j x = xB μ j x := fun j x a => by
    show gB μ2 j _ = gB μ j _
    rw [hDT.2.2.2.1.2.2.2.1 j, hKM.2.2.2.1 j (Or.inl a)]
  have e1 : ∀ x, xB τ2 1 x = xB σ 1 x := fun x => by rw [yB 1 x (by decide) (by decide) (by decide), lB 1 x (by decide)]
  have hTR2 : TR2 τp τ2 := by
    refine ⟨fun j x hj => ?_, fun x hx => ?_, ?_, fun x => ?_⟩
    · rw [yx j x (by omega) (by omega) (by omega), kx j x (by omega) (by omega)]
    · by_cases hx0 : 0 ≤ x
      · have := hDM.2.2.1 x hx0
        rw [if_neg (fun w => hx w.2)] at this
        rw [this]
        show gA τs 14 _ = _
        rw [hAs.2.1 14]
        exact kx 14 x (by decide) (by decide)
      · have hc : x.toNatClampNeg = (0 : Int32).toNatClampNeg := by
          rw [Int32.le_iff_toInt_le, show (0 : Int32).toInt = 0 from rfl] at hx0
          show x.toInt.toNat = 0
          omega
        have hx' : ∀ (s : S5) j, xA s j x = xA s j 0 := fun s j => by
          show gA s j x.toNatClampNeg = gA s j (0 : Int32).toNatClampNeg
          rw [hc]
        have := hDM.2.2.1 0 (by decide)
        rw [if_neg (fun w => hx (by rw [hx']; exact w.2))] at this
        rw [hx' τ2, hx' τp, this]
        show gA τs 14 _ = _
        rw [hAs.2.1 14]
        exact kx 14 0 (by decide) (by decide)
    · rw [yI 4 (by decide), hK.1.1 4 (by decide) (by decide)]
    · rw [yB 2 x (by decide) (by decide) (by decide)]
      show gB τ' 2 _ = gB τp 2 _
      rw [hK.1.2.2.2.1 2]
  have hTR3 : TR3 μ' μ2 := ⟨fun j x hj => zx j x (by omega) (by omega) (by omega) (by omega) (by omega), fun x => by
    show gB μ2 5 _ = gB μ' 5 _
    rw [hDT.2.2.2.1.2.2.2.1 5]⟩
  have hpre : ∀ f, f < F → mmF σ τp sc (f + 1) ≤ mmF σ τp sc F := fun f hf => by
    have := pre_mono (w := ptF σ τp sc) (F - (f + 1)) (f + 1)
    rw [show f + 1 + (F - (f + 1)) = F by omega] at this
    exact this
  have h14 : ctF σ τp sc F ≤ 14000 := by
    by_cases hF0 : F = 0
    · rw [hF0]
      exact Nat.zero_le _
    · obtain ⟨-, -, w6⟩ := hA.2.2 0 (by omega)
      exact w6.un.1.2.2.1
  refine ⟨F, k, ctF σ τp sc F, pa, nvF σ (gI σ 9) sc cf, Tl τp pa (rtF σ sc) 41, ⟨hF6, hkF, hk, h14⟩, ⟨by rw [yI 6 (by decide)]; exact g6, by rw [zI 22 (by decide) (by decide) (by decide)]; exact g22⟩, ⟨?_, ?_, fun i hi => ?_, fun i j hij hj => ?_⟩, ⟨?_, ?_⟩, ?_, ?_, hD.2.2.1, ⟨hDM.1, hDT.1.2, hDT.1.1⟩, fun f hf => ?_⟩
  · rw [yI 5 (by decide), lI 5 (by decide)]; exact h5
  · rw [zI 13 (by decide) (by decide) (by decide), hKM.1 13 (by omega), hm13]; exact h5
  · rw [e1, zB 2 _ (by decide)]
    exact hnm i (by rw [h5, nI_clamp (by omega)]; exact hi)
  · rw [e1, e1]
    exact hpg.2.2 i j hij hj
  · have e : xB τ2 1 = xB σ 1 := funext e1
    rw [e, yI 7 (by decide), hK.1.1 7 (by decide) (by decide), gp 7 (by decide), hB.1 7]
    exact m7
  · rw [yI 7 (by decide), hK.1.1 7 (by decide) (by decide), gp 7 (by decide), hB.1 7]
    exact m7'
  · obtain ⟨c1, c2, c3, c4⟩ := hct
    have e4 : gI τ2 4 = gI σ 4 := by rw [yI 4 (by decide), lI 4 (by decide)]
    refine ⟨by rw [e4, zI 14 (by decide) (by decide) (by decide), hKM.1 14 (by omega)]; exact c1, by rw [e4]; exact c2, by rw [e4]; exact c3, fun i i0 i1 => ?_⟩
    rw [e4] at i1
    have e2 : xA τ2 2 i = xA σ 2 i := by
      rw [yx 2 i (by decide) (by decide) (by decide)]
      show gA τ' 2 _ = gA σ 2 _
      rw [← hAs.2.1 2, hKA]
    have e13 : xA μ2 13 i = xA μ 13 i := by
      rw [zx 13 i (by decide) (by decide) (by decide) (by decide) (by decide)]
      show gA μ' 13 _ = gA μ 13 _
      rw [hKM.2.2.1 13 (by omega)]
    rw [yB 0 i (by decide) (by decide) (by decide), lB 0 i (by decide), zB 3 i (by decide), e2, e13]
    exact c4 i i0 i1
  · rw [yI 13 (by decide), lI 13 (by decide), zI 11 (by decide) (by decide) (by decide), hKM.1 11 (by omega)]
    exact h13
  · obtain ⟨⟨w1, w2, w3, w4⟩, w5, w6⟩ := hA.2.2 f hf
    obtain ⟨d1, d2, d3, d4, ⟨hi, d5, d6⟩, -⟩ := hD.2.2.2 f hf
    obtain ⟨l0, l1, l2, l3, l4⟩ := (hX.1.2.2.1 f hf).2
    have hu := w6.un
    have hq := hu.1.1
    have hnn := hu.2.2.1
    have hss : mmF σ τp sc (f + 1) = mmF σ τp sc f + (xA τp 19 (rtF σ sc f)).toNatClampNeg := rfl
    have e7 : xA τ2 7 (nI f) = rtF σ sc f := by rw [yx 7 _ (by decide) (by decide) (by decide), kx 7 _ (by decide) (by decide)]; exact d1
    have e19 : xA τp 19 (rtF σ sc f) = nI (mmF σ τp sc (f + 1) - 1 + 1 - mmF σ τp sc f) := by
      have hp : 0 ≤ xA τp 19 (rtF σ sc f) := tn_pos (by omega)
      rw [show mmF σ τp sc (f + 1) - 1 + 1 - mmF σ τp sc f = (xA τp 19 (rtF σ sc f)).toNatClampNeg by omega]
      exact nI_tn hp
    have hfM := hpre f hf
    have hLT : LTN τ2 μ2 F (nvF σ (gI σ 9) sc cf f) (ctF σ τp sc F) (rtF σ sc f) (mmF σ τp sc f) (mmF σ τp sc (f + 1) - 1) := by
      refine ltn_of (M := mmF σ τp sc F) d3 hTR2 hTR3 (fun c q p Sc lo hi' hJ h40 h41 c0 hpM => ⟨fun hk7 => ?_, fun hk7 => ?_⟩) w6 _ _ _ d5 (fun x w => w) (by omega) (by omega) (by omega)
      · have hn := hDT.2.1 p hpM c q Sc lo hi' hJ h40 h41
        have hcQ : c < nI Q := by
          rcases hJ.un.1.2.2.2.1.un with ⟨⟨-, q1⟩, -⟩ | ⟨q1, -⟩ | ⟨-, l, bb, ll, -, -, ⟨-, -, q4⟩, -⟩ | ⟨q1, -⟩
          · rw [hk7] at q1; exact absurd q1 (by decide)
          · rw [hk7] at q1; exact absurd q1 (by decide)
          · rw [← hQ, hK.1.1 8 (by decide) (by decide)]; exact q4
          · rw [hk7] at q1; exact absurd q1 (by decide)
        have hc := hDM.2.2.1 c c0
        rw [if_pos ⟨hcQ, hk7⟩] at hc
        have eb : bP (xA τp 13 c = 7 ∧ NdL τp pa (Tl τp pa (rtF σ sc) 41) c) = bP (NdL τp pa (Tl τp pa (rtF σ sc) 41) c) := by
          have : (xA τp 13 c = 7 ∧ NdL τp pa (Tl τp pa (rtF σ sc) 41) c) = NdL τp pa (Tl τp pa (rtF σ sc) 41) c := propext ⟨fun w => w.2, fun w => ⟨hk7, w⟩⟩
          rw [this]
        rw [eb] at hn
        have ec : xA τ2 14 c = xA μ2 36 (nI p) := by
          rw [hc, hn]
          cases bP (NdL τp pa (Tl τp pa (rtF σ sc) 41) c) <;> rfl
        refine ⟨ec, ?_⟩
        rw [ec, hn]
        exact b2i01 _
      · have hn := hDT.2.1 p hpM c q Sc lo hi' hJ h40 h41
        rw [hn]
        have : bP (xA τp 13 c = 7 ∧ NdL τp pa (Tl τp pa (rtF σ sc) 41) c) = false := by
          cases hb : bP (xA τp 13 c = 7 ∧ NdL τp pa (Tl τp pa (rtF σ sc) 41) c)
          · rfl
          · exact absurd (bP_t.mp hb).1 hk7
        rw [this]
        rfl
    refine ⟨mmF σ τp sc f, mmF σ τp sc (f + 1) - 1, hi, ⟨?_, ?_, (hD.2.1 f hf).2, fun w => ?_⟩, ?_, ⟨?_, ?_, d3⟩, ⟨?_, ?_, fun x x0 x1 => ?_⟩, ⟨?_, ?_⟩, by rw [e7]; exact hLT, ⟨?_, d6, ?_⟩, hDM.2.1 f hf, fun j hj => hDT.2.2.1 f j hf hj, ?_⟩
    · rw [yx 3 _ (by decide) (by decide) (by decide), kx 3 _ (by decide) (by decide)]; exact (hD.2.1 f hf).1
    · rw [zx 47 _ (by decide) (by decide) (by decide) (by decide) (by decide), hpa1 f hf]; exact w4
    · rw [hpa1 f hf]; exact np1 hX.1 hpg hN f hf w
    · rw [yx 4 _ (by decide) (by decide) (by decide), kx 4 _ (by decide) (by decide), hxp 4 _ (by omega), hxu 4 _ (by decide) (by decide), l2, zx 20 _ (by decide) (by decide) (by decide) (by decide) (by decide)]
      show _ = gA μ' 20 _
      rw [hA.1.2.2.1 20 (by omega)]
      exact (hM.2.2.2.2.1 f hf).1.symm
    · rw [yx 6 _ (by decide) (by decide) (by decide), kx 6 _ (by decide) (by decide)]; exact d2
    · rw [zx 46 _ (by decide) (by decide) (by decide) (by decide) (by decide)]; exact w3
    · rw [zx 44 _ (by decide) (by decide) (by decide) (by decide) (by decide)]; exact w1
    · rw [zx 45 _ (by decide) (by decide) (by decide) (by decide) (by decide)]; exact w2
    · rw [zx 38 _ (by decide) (by decide) (by decide) (by decide) (by decide)]; exact w5 x x0 (by omega)
    · rw [yx 9 _ (by decide) (by decide) (by decide), (hK.2.1 f hf).1]; exact e19
    · rw [yx 10 _ (by decide) (by decide) (by decide), (hK.2.1 f hf).2, zx 37 _ (by decide) (by decide) (by decide) (by decide) (by decide)]; exact hu.2.1.symm
    · rw [e7]
      exact vs_tr hTR2 (by rw [yI 8 (by decide), hK.1.1 8 (by decide) (by decide)]) w6 _ _ _ d5
    · rw [e7]
      have : hF τ2 (rtF σ sc f) = hF τp (rtF σ sc f) := by unfold hF; rw [hTR2.1 18 _ (by decide)]
      omega
    · obtain ⟨W, hW⟩ : ∃ W, pre (wMn μ2) (mmF σ τp sc (f + 1) - 1 + 1) = pre (wMn μ2) (mmF σ τp sc f) + W := by
        have := pre_mono (w := wMn μ2) (mmF σ τp sc (f + 1) - 1 + 1 - mmF σ τp sc f) (mmF σ τp sc f)
        rw [show mmF σ τp sc f + (mmF σ τp sc (f + 1) - 1 + 1 - mmF σ τp sc f) = mmF σ τp sc (f + 1) - 1 + 1 by omega] at this
        exact ⟨_, (Nat.add_sub_cancel' this).symm⟩
      refine ⟨W, hW, ?_⟩
      have hall := ct_all hX hpg hTR2 hf hLT hW
      rw [hDM.2.2.2 f hf]
      have hC6 : C ≤ 6200 := hX.2.2.2.2
      have hQ6 : C + pre (wlN σ τr cf) C ≤ 6200 := by
        have w1 := hX.1.2.2.2.2.2.2.2.2.2.2.2
        rw [hX.2.2.2.1, nI_clamp (by omega)] at w1
        unfold prI at w1
        rw [nI_clamp (by omega)] at w1
        omega
      have hz : pre (wL τp pa (Tl τp pa (rtF σ sc) 41) f) Q = pre (wL τp pa (Tl τp pa (rtF σ sc) 41) f) C := by
        rw [hQe]
        refine pre_z _ (fun i a b => ?_)
        unfold wL
        rw [if_neg (fun w => hX.out i a b (bP_t.mp w).1)]
      have hc : pre (wL τp pa (Tl τp pa (rtF σ sc) 41) f) C = pre (wCn τp τ2 f) C := pre_cg C (fun i hi => by
        have h14 := hDM.2.2.1 (nI i) (i_le0 (nI_nneg (by omega)))
        have hlt : nI i < nI Q := (nI_lt31 (by omega) (by omega)).mpr (by omega)
        unfold wL wCn
        by_cases hk7 : xA τp 13 (nI i) = 7
        · rw [if_pos ⟨hlt, hk7⟩] at h14
          by_cases hn : NdL τp pa (Tl τp pa (rtF σ sc) 41) (nI i)
          · rw [if_pos (bP_t.mpr hn)] at h14
            by_cases hs : xA τp 15 (nI i) = nI f
            · rw [if_pos (bP_t.mpr ⟨hk7, hs, hn⟩), if_pos ⟨hk7, hs, h14⟩]
            · rw [if_neg (fun w => hs (bP_t.mp w).2.1), if_neg (fun w => hs w.2.1)]
          · rw [if_neg (fun w => hn (bP_t.mp w))] at h14
            rw [if_neg (fun w => hn (bP_t.mp w).2.2), if_neg (fun w => by rw [h14] at w; exact absurd w.2.2 (by decide))]
        · rw [if_neg (fun w => hk7 (bP_t.mp w).1), if_neg (fun w => hk7 w.1)])
      rw [hz, hc, hall]
