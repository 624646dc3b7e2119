/-- alike but for numbers of the forge -/
def AsS (τ τs : S5) : Prop := (∀ j, j < 40 → gI τs j = gI τ j) ∧ (∀ j, gA τs j = gA τ j) ∧ ∀ j, gB τs j = gB τ j
/-- both know what is needed -/
def DUp (σ τs μ' τ2 μ2 : S5) : Prop := ∃ (ν τr τv τu τp μ0 τm τ' : S5) (k U F C : Nat) (sc fs cc fu fn ft : Nat → Int32) (cf : Nat → Nat) (pa : Nat → Nat) (Q : Nat), PX σ ν τr τv τu τp k U F C (gI σ 9) sc cf ∧ (MX σ ν τr τv μ0 k U F (gI σ 9) cf ∧ PG σ ν k cc fs fu fn ft ∧ NX σ ν k sc fs ∧ GS σ k fs (gI σ 9)) ∧ KMs σ τp (gI σ 9) sc cf F τ' ∧ LAs σ τp μ0 F (gI σ 9) sc cf F μ' ∧ FrB τm τv ∧ (gI τm 7 = tp (xB σ 1) 1835100526 k 0 ∧ ¬ gI τm 7 = -1) ∧ gI σ 5 = nI k ∧ (∀ f, f < F → pa f = paF σ sc cf f) ∧ DX τp pa (rtF σ sc) (nvF σ (gI σ 9) sc cf) F ∧ MD τp μ' pa (rtF σ sc) F ∧ (gI τ' 6 = nI F ∧ gI μ' 22 = nI F) ∧ (TF2 τp τ' ∧ AsS τ' τs) ∧ (FrY τs τ2 ∧ DM τp pa (rtF σ sc) F Q τs τ2 ∧ gI τ' 8 = nI Q ∧ Q = C + pre (wlN σ τr cf) C) ∧ DMm τp μ' pa (rtF σ sc) F (mmF σ τp sc F) μ2
/-- DEMAND, BOTH -/
theorem dem_go {σ τ' μ' τs : S5} (h : LUp σ τ' μ') (hs : AsS τ' τs) (h22 : gI σ 22 = 0) (h7 : gI μ' 7 = 0) : ∃ F τ2 μ2, f_X1_solve (f_wordE 64) τs = some ((), τ2) ∧ f_X12_program_b83 μ' = some (nI F, μ2) ∧ gI τ2 6 = nI F ∧ DUp σ τs μ' τ2 μ2 := by
  obtain ⟨ν, τr, τv, τu, τp, μ0, τm, k, U, F, C, sc, fs, cc, fu, fn, ft, cf, hX, hM, hpg, hN, hK, hA, hbad, hB, h3, ⟨m7, m7', m22⟩, h5, ⟨g22, hN6⟩, hAn, hG, hvs⟩ := h
  obtain ⟨pa, epa⟩ : ∃ pa : Nat → Nat, pa = fun f => if f < F then paF σ sc cf f else 9 := ⟨_, rfl⟩
  have hpa1 : ∀ f, f < F → pa f = paF σ sc cf f := fun f hf => by rw [epa]; exact if_pos hf
  have hpF : ∀ g, F ≤ g → 8 < pa g := fun g hg => by
    rw [epa]
    show 8 < if g < F then _ else 9
    rw [if_neg (by omega)]
    omega
  have hF6 : F ≤ 630 := hX.1.1.2.2.2.1
  have hC : gI σ 8 = nI C := hX.2.2.2.1
  have hC6 : C ≤ 6200 := hX.2.2.2.2
  have hxp : ∀ j x, j < 13 ∨ 19 < j → xA τp j x = xA τu j x := fun j x hj => hX.2.2.1.1.x j x hj
  have hxu : ∀ j x, ¬ j = 13 → ¬ j = 14 → xA τu j x = xA τv j x := fun j x a b => hX.2.1.1.x j x a b
  have hxv : ∀ j x, ¬ j = 25 → ¬ j = 6 → xA τv j x = xA τm j x := fun j x a b => by
    show gA τv j _ = gA τm j _
    rw [hB.2.2.1 j a b]
  have fnh := fn_all hX.1 hM hpg hG hN
  have hrt : ∀ f, f < F → 0 ≤ rtF σ sc f ∧ rtF σ sc f < nI C := fun f hf => by
    obtain ⟨s', u, u', y, b, t, c, -, -, q5, -, q7, -, q9, q10, -, -, -, -, q15⟩ := fnh f hf
    have e : rtF σ sc f = c := q5
    rw [e]
    exact ⟨q7.c.1, by rw [← hC]; exact q15⟩
  have hnb : ∀ f, f < F → nvF σ (gI σ 9) sc cf f ≤ 40 ∧ hF τp (rtF σ sc f) ≤ 40 := fun f hf => by
    have hb := hbad f hf
    refine ⟨?_, ?_⟩
    · exact Classical.byContradiction (fun z => hb (Or.inr (by omega)))
    · have h1 : ¬ 40 < xA τp 18 (rtF σ sc f) := fun z => hb (Or.inl z)
      have h2 : xA τp 18 (rtF σ sc f) ≤ 40 := by
        generalize xA τp 18 (rtF σ sc f) = y at h1
        clear hX hM hpg hN hK hA hbad hB h3 hAn hG hvs fnh hrt hb hxp hxu hxv
        grind
      have h3 := tn_mono h2
      have h4 : (40 : Int32).toNatClampNeg = 40 := rfl
      unfold hF
      omega
  have hpa8 : ∀ f, f < F → xA τp 3 (nI f) = nI (pa f) ∧ pa f ≤ 8 := fun f hf => by
    obtain ⟨a1, a2, a3⟩ := h3 f hf
    obtain ⟨hi, v1, v2⟩ := hvs f hf
    have hle := v1.le
    have hnv := (hnb f hf).1
    have e1 : cf f + vC σ (sc f).toNatClampNeg = pa f := by
      rw [hpa1 f hf]
      unfold paF vC
      rw [xA_tn]
    rw [e1] at a1
    rw [← hpa1 f hf] at hle
    refine ⟨by rw [hxp 3 _ (by omega), hxu 3 _ (by decide) (by decide), hxv 3 _ (by decide) (by decide)]; exact a1, ?_⟩
    rw [a1] at a2
    exact (nI_le31 (b := 8) (by omega) (by omega)).mp a2
  have h40 := hX.h40 (μ := ν) hpg (fun f hf => (hnb f hf).2)
  have hD : DX τp pa (rtF σ sc) (nvF σ (gI σ 9) sc cf) F := by
    refine ⟨hF6, hpa8, hpF, fun f hf => ?_⟩
    obtain ⟨l0, l1, l2, l3, l4⟩ := (hX.1.2.2.1 f hf).2
    obtain ⟨hi, v1, v2⟩ := hvs f hf
    refine ⟨by rw [hxp 7 _ (by omega), hxu 7 _ (by decide) (by decide)]; exact l1, by rw [hxp 6 _ (by omega), hxu 6 _ (by decide) (by decide)]; exact l4, (hnb f hf).1, (hnb f hf).2, ⟨hi, by rw [hpa1 f hf]; exact v1, v2⟩, hX.rg hM hG 41 _ (hrt f hf).1 (hrt f hf).2⟩
  have gp : ∀ j, ¬ j = 8 → gI τp j = gI τv j := fun j hj => by rw [hX.2.2.1.1.1 j hj, hX.2.1.1.1 j]
  have h6p : gI τp 6 = nI F := by
    rw [gp 6 (by decide)]
    exact hX.1.2.2.2.2.1.2.2.2.2.1
  have kx : ∀ j x, ¬ j = 9 → ¬ j = 10 → xA τ' j x = xA τp j x := fun j x a b => hK.1.x j x a b
  have hTF : TF2 τp τ' := ⟨⟨fun c => ⟨kx 13 _ (by decide) (by decide), kx 15 _ (by decide) (by decide), kx 16 _ (by decide) (by decide), kx 17 _ (by decide) (by decide), fun _ => kx 14 _ (by decide) (by decide)⟩, fun g => kx 2 _ (by decide) (by decide), fun g => kx 3 _ (by decide) (by decide)⟩, fun x => kx 7 _ (by decide) (by decide), fun x => kx 6 _ (by decide) (by decide)⟩
  have hQ : gI τ' 8 = nI (C + pre (wlN σ τr cf) C) := by
    rw [hK.1.1 8 (by decide) (by decide)]
    exact hX.2.2.1.2.1
  have hQ6 : C + pre (wlN σ τr cf) C ≤ 6200 := by
    have w1 := hX.1.2.2.2.2.2.2.2.2.2.2.2
    rw [hC, nI_clamp (by omega)] at w1
    unfold prI at w1
    rw [nI_clamp (by omega)] at w1
    omega
  have sx : ∀ j x, xA τs j x = xA τ' j x := fun j x => by
    show gA τs j _ = gA τ' j _
    rw [hs.2.1 j]
  have hTFs : TF2 τp τs := ⟨⟨fun c => by rw [sx, sx, sx, sx, sx]; exact hTF.1.1 c, fun g => by rw [sx]; exact hTF.1.2.1 g, fun g => by rw [sx]; exact hTF.1.2.2 g⟩, fun x => by rw [sx]; exact hTF.2.1 x, fun x => by rw [sx]; exact hTF.2.2 x⟩
  obtain ⟨τ2, s1, s2, s3⟩ := solve_go (σ := τs) hD hQ6 hTFs (fun x => by show gB τs 2 _ = gB τp 2 _; rw [hs.2.2 2, hK.1.2.2.2.1 2]) (by rw [hs.1 22 (by decide), hK.1.1 22 (by decide) (by decide), gp 22 (by decide), hB.1 22, m22]; exact h22) (by rw [hs.1 6 (by decide), hK.1.1 6 (by decide) (by decide)]; exact h6p) (by rw [hs.1 8 (by decide)]; exact hQ) (fun g hg => by rw [sx, kx 11 _ (by decide) (by decide), hxp 11 _ (by omega), hxu 11 _ (by decide) (by decide), hxv 11 _ (by decide) (by decide)]; exact (h3 g hg).2.2) (fun c c0 cQ hk7 => by
    by_cases hcC : c < nI C
    · obtain ⟨f, f1, f2, Sc, lo, hi, v1, v2, v3⟩ := hX.lts hAn hG c0 hcC hk7
      exact ⟨f, f1, f2, Sc, lo, hi, v1, v2, v3, (hnb f f1).1, (hD.2.2.2 f f1).2.1, hX.rg hM hG 42 c c0 hcC, h40 c c0 hcC⟩
    · exfalso
      have hc1 := i_lt (not_neg c0) cQ
      rw [nI_clamp (by omega)] at hc1
      have hc2 : C ≤ c.toNatClampNeg := by
        refine Classical.byContradiction (fun z => hcC ?_)
        rw [nI_tn c0]
        exact (nI_lt31 (by omega) (by omega)).mpr (by omega)
      have := hX.out c.toNatClampNeg hc2 hc1
      rw [← nI_tn c0] at this
      exact this hk7)
  have h22' : gI μ' 22 = nI F := by rw [hA.1.1 22 (by omega)]; exact g22
  have hMD : MD τp μ' pa (rtF σ sc) F := by
    refine ⟨hF6, h22', fun g hg => ?_, hpF, fun f hf => ?_⟩
    · obtain ⟨⟨w1, w2, w3, w4⟩, -, -⟩ := hA.2.2 g hg
      exact ⟨by rw [hpa1 g hg]; exact w4, (hpa8 g hg).2⟩
    · obtain ⟨⟨w1, w2, w3, w4⟩, w5, w6⟩ := hA.2.2 f hf
      obtain ⟨hi, v1, v2⟩ := hvs f hf
      have hnv := hnb f hf
      rw [← hpa1 f hf] at v1
      exact ⟨_, _, hi, w1, w2, jt_of hnv.1 v1 _ _ w6 (fun x w => w) (by omega), by omega, by omega⟩
  have hmm : ∀ f, f < F → mmF σ τp sc (f + 1) ≤ 7000 := fun f hf => by
    obtain ⟨-, -, w6⟩ := hA.2.2 f hf
    have := w6.un.1.2.1
    omega
  have hMle : mmF σ τp sc F ≤ 7000 := by
    by_cases hF0 : F = 0
    · rw [hF0]
      exact Nat.zero_le _
    · have := hmm (F - 1) (by omega)
      rw [show F - 1 + 1 = F by omega] at this
      exact this
  obtain ⟨μ2, t1, t2⟩ := mdem_go (M := mmF σ τp sc F) hMD h7 hA.2.1.1 hMle (fun x hx => by
    have := hN6 x (by rw [hA.2.1.1, nI_clamp (by omega)]; exact hx)
    show gA μ' 36 (nI x).toNatClampNeg = 0
    rw [nI_clamp (by omega)]
    exact this) (fun n hn => by
    obtain ⟨f, f1, f2, f3⟩ := pre_find (w := ptF σ τp sc) F n hn
    obtain ⟨⟨w1, w2, w3, w4⟩, w5, w6⟩ := hA.2.2 f f1
    obtain ⟨hi, v1, v2⟩ := hvs f f1
    have hnv := hnb f f1
    have hj := jt_of (F := F) hnv.1 v1 _ _ w6 (fun x w => w) (by omega)
    have e1 : mmF σ τp sc f ≤ n := f2
    have e2 : n < mmF σ τp sc (f + 1) := f3
    obtain ⟨c', q', Sc', lo', hi', r1, r2, r3, r4, r5⟩ := jt_nl hj n e1 (by omega)
    exact ⟨c', q', Sc', lo', hi', r1, by omega, by omega⟩)
  refine ⟨F, τ2, μ2, s1, t1, ?_, ν, τr, τv, τu, τp, μ0, τm, τ', k, U, F, C, sc, fs, cc, fu, fn, ft, cf, pa, _, hX, ⟨hM, hpg, hN, hG⟩, hK, hA, hB, ⟨m7, m7'⟩, h5, hpa1, hD, hMD, ⟨by rw [hK.1.1 6 (by decide) (by decide)]; exact h6p, h22'⟩, ⟨hTF, hs⟩, ⟨s2, s3, hQ, rfl⟩, t2⟩
  rw [s2.1 6 (by decide) (by decide), hs.1 6 (by decide), hK.1.1 6 (by decide) (by decide)]
  exact h6p
