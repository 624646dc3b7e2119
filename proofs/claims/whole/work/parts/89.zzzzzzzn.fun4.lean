theorem MX.st {σ ν τr τv μm μ' : S5} {k U F : Nat} {S : Int32} {cf : Nat → Nat} (h : MX σ ν τr τv μm k U F S cf) (e : ∀ j x, j < 28 → xA μ' j x = xA μm j x) : MX σ ν τr τv μ' k U F S cf := by
  obtain ⟨m1, m2, m3, m4, m5, m6, m7, m8, m9, m10⟩ := h
  refine ⟨fun j x hj => by rw [e j x (by omega)]; exact m1 j x hj, fun x hx => by rw [e 7 x (by omega), e 8 x (by omega)]; exact m2 x hx, ⟨fun n a b c => ?_, fun n a b c => by rw [e 25 n (by omega)]; exact m3.2 n a b c⟩, ⟨fun x i j a b c d f => by rw [e 22 _ (by omega), e 23 _ (by omega)]; exact m4.1 x i j a b c d f, fun o f a b c d => by rw [e 24 _ (by omega)]; exact m4.2 o f a b c d⟩, fun g hg => ⟨by rw [e 20 _ (by omega)]; exact (m5 g hg).1, fun i hi => by rw [e 21 _ (by omega)]; exact (m5 g hg).2 i hi⟩, m6, m7, m8, m9, m10⟩
  have := m3.1 n a b c
  unfold Sd at *
  rw [e 7 n (by omega), e 8 n (by omega)]
  exact this
/-- numbers of the functions: root, parts, where it begins, parameters -/
def rtF (σ : S5) (sc : Nat → Int32) (f : Nat) : Int32 := xA σ 23 (sc f)
def ptF (σ τp : S5) (sc : Nat → Int32) (f : Nat) : Nat := Nn τp (rtF σ sc f)
def mmF (σ τp : S5) (sc : Nat → Int32) (f : Nat) : Nat := pre (ptF σ τp sc) f
def ctF (σ τp : S5) (sc : Nat → Int32) (f : Nat) : Nat := pre (fun g => ptF σ τp sc g - 1) f
def paF (σ : S5) (sc : Nat → Int32) (cf : Nat → Nat) (f : Nat) : Nat := cf f + (xA σ 20 (sc f)).toNatClampNeg
/-- too high, or too many variables -/
def badF (σ τp : S5) (S : Int32) (sc : Nat → Int32) (cf : Nat → Nat) (f : Nat) : Prop := 40 < xA τp 18 (rtF σ sc f) ∨ 40 < nvF σ S sc cf f
/-- a function that is lifted -/
def LFd (σ τp μ : S5) (F : Nat) (S : Int32) (sc : Nat → Int32) (cf : Nat → Nat) (T g : Nat) : Prop := (xA μ 44 (nI g) = nI (mmF σ τp sc g) ∧ xA μ 45 (nI g) = nI (mmF σ τp sc (g + 1) - 1) ∧ xA μ 46 (nI g) = nI (nvF σ S sc cf g) ∧ xA μ 47 (nI g) = nI (paF σ sc cf g)) ∧ (∀ x, mmF σ τp sc g ≤ x → x < mmF σ τp sc (g + 1) → xA μ 38 (nI x) = nI g) ∧ LT τp μ F (nvF σ S sc cf g) T (rtF σ sc g) (mmF σ τp sc g) (mmF σ τp sc (g + 1) - 1)
def LAs (σ τp μ0 : S5) (F : Nat) (S : Int32) (sc : Nat → Int32) (cf : Nat → Nat) (f : Nat) (μ : S5) : Prop := FrLA μ0 μ ∧ (gI μ 26 = nI (mmF σ τp sc f) ∧ gI μ 27 = nI (ctF σ τp sc f) ∧ gI μ 28 = nI 0) ∧ ∀ g, g < f → LFd σ τp μ F S sc cf (ctF σ τp sc f) g
/-- how lifting ends -/
def LAe (σ τp μ0 : S5) (F : Nat) (S : Int32) (sc : Nat → Int32) (cf : Nat → Nat) (μ' : S5) : Prop := (LAs σ τp μ0 F S sc cf F μ' ∧ ∀ g, g < F → ¬ badF σ τp S sc cf g) ∨ (∃ f, f < F ∧ badF σ τp S sc cf f ∧ (∀ g, g < f → ¬ badF σ τp S sc cf g) ∧ ∃ μ2, FrLA μ0 μ2 ∧ μ' = pI (pI μ2 7 8) 8 (xA μ0 11 (nI f)))
theorem la_L17 {σ ν τr τv τu τp μ0 : S5} {k U F C : Nat} {S : Int32} {sc fs cc fu fn ft : Nat → Int32} {cf : Nat → Nat} (hX : PX σ ν τr τv τu τp k U F C S sc cf) (hM : MX σ ν τr τv μ0 k U F S cf) (hp : PG σ ν k cc fs fu fn ft) (hG : GS σ k fs S) (hN : NX σ ν k sc fs) (h22 : gI μ0 22 = nI F) (h7 : gI μ0 7 = 0) : ∀ (d f n : Nat) (μ : S5), f + d = F → d < n → LAs σ τp μ0 F S sc cf f μ → (∀ g, g < f → ¬ badF σ τp S sc cf g) → ∃ μ', f_X12_liftAll_L17 n (nI f) μ = some ((), μ') ∧ LAe σ τp μ0 F S sc cf μ' := by
  have hfn := fn_all hX.1 hM hp hG hN
  have hF : F ≤ 630 := hX.1.1.2.2.2.1
  have htot : ∀ f, f ≤ F → mmF σ τp sc f ≤ 6100 := by
    intro f hf
    have ht := hp.tot hX hN.2.2.1 hN.2.2.2
    have h1 := pre_inj_le f S.toNatClampNeg (wSs σ τp) (fun g => (sc g).toNatClampNeg) (fun g hg => i_lt (not_neg (hX.1.2.2.1 g (by omega)).1.1) (hX.1.2.2.1 g (by omega)).1.2.1) (fun g g' hg hg' e => by
      have a := nI_tn (hX.1.2.2.1 g (by omega)).1.1
      have b := nI_tn (hX.1.2.2.1 g' (by omega)).1.1
      have e' : (sc g).toNatClampNeg = (sc g').toNatClampNeg := e
      exact sc_inj hX.1 (by omega) (by omega) (by rw [a, b, e']))
    have h2 : mmF σ τp sc f = pre (fun g => wSs σ τp ((fun g => (sc g).toNatClampNeg) g)) f := pre_eq f (fun g hg => by
      show Nn τp (xA σ 23 (sc g)) = wSs σ τp (sc g).toNatClampNeg
      unfold wSs
      rw [xA_tn, ← nI_tn (hX.1.2.2.1 g (by omega)).1.1, if_pos (hX.1.2.2.1 g (by omega)).1.2.2.1])
    unfold prI at ht
    rw [h2]
    exact Nat.le_trans h1 ht
  have hctm : ∀ f, ctF σ τp sc f ≤ mmF σ τp sc f := by
    intro f
    induction f with
    | zero => exact Nat.le_refl _
    | succ f ih =>
      show ctF σ τp sc f + (ptF σ τp sc f - 1) ≤ mmF σ τp sc f + ptF σ τp sc f
      omega
  intro d
  induction d with
  | zero =>
    intro f n μ hfd hn hA hbad
    obtain ⟨n, rfl⟩ : ∃ n', n = n' + 1 := ⟨n - 1, by omega⟩
    have : f = F := by omega
    subst this
    refine ⟨μ, ?_, Or.inl ⟨hA, hbad⟩⟩
    show f_X12_liftAll_B17 _ _ _ = _
    unfold f_X12_liftAll_B17
    rw [hA.1.1 22 (by omega), h22, if_pos (Int32.le_refl _)]
  | succ d ih =>
    intro f n μ hfd hn hA hbad
    obtain ⟨n, rfl⟩ : ∃ n', n = n' + 1 := ⟨n - 1, by omega⟩
    have hf : f < F := by omega
    obtain ⟨fr, ⟨r26, r27, r28⟩, hdone⟩ := hA
    obtain ⟨s', u, u', y, b, t, c, ⟨q1, q2, q3⟩, q4, q5, q6, q7, q8, q9, q10, q11, q12, q13, q14, q15⟩ := hfn f hf
    have hMu : MX σ ν τr τv μ k U F S cf := hM.st (fun j x hj => fr.x j x (by omega))
    have hMb : MX σ ν τr τv (bgF μ f (mmF σ τp sc f) (paF σ sc cf f) (nvF σ S sc cf f)) k U F S cf := hMu.st (fun j x hj => by
      unfold bgF
      rw [xA_pA, if_neg (by omega), xA_pA, if_neg (by omega), xA_pA, if_neg (by omega)])
    have hU : u'.toNatClampNeg ≤ U := by
      have h1 := tn_mono q10
      rw [hX.1.1.2.2.2.2.2.2, nI_clamp (by have := hX.1.1.2.2.2.2.2.1; omega)] at h1
      exact h1
    have hcC : c < nI C := by rw [← hX.2.2.2.1]; exact q15
    have hsc := (hX.1.2.2.1 f hf).1
    have hG0 := q7.gc hX hMb hf hcC q9 q13 hU q8 hsc.2.2.1
    have hm0 : ∀ j, j ≤ 6 ∨ (9 ≤ j ∧ j ≤ 19) → ∀ x, xA μ j x = xA ν j x := fun j hj x => hMu.1 j x hj
    rw [← hm0 3 (by omega)] at hG0
    have hcr : rtF σ sc f = c := q5
    have hpt : ptF σ τp sc f = Nn τp c := by unfold ptF; rw [hcr]
    have hms : mmF σ τp sc (f + 1) = mmF σ τp sc f + Nn τp c := by rw [← hpt]; rfl
    have ht1 := htot (f + 1) (by omega)
    have hct := hctm f
    have hN1 : 1 ≤ Nn τp c := hG0.1
    have hcs : ctF σ τp sc (f + 1) = ctF σ τp sc f + Nn τp c - 1 := by
      have : ctF σ τp sc (f + 1) = ctF σ τp sc f + (ptF σ τp sc f - 1) := rfl
      rw [this, hpt]
      omega
    have hb3 : b ≤ 3200 := q7.un.1.2.2.2.2.2.2.2.2.2.2.1
    have hb3' : b.toNatClampNeg ≤ 3200 := tn_mono hb3
    have hy1 : (y + 1).toNatClampNeg = y.toNatClampNeg + 1 := tn_s q11 (i_lt_le q12 (by decide))
    have h20 := (hMu.2.2.2.2.1 f hf).1
    have h24 : xA μ 24 (nI f) = nI (prI (wO σ (sc f)) S) := hMu.2.2.2.1.2 (sc f) f hsc.1 hsc.2.1 hsc.2.2.1 hsc.2.2.2
    have h10 : xA μ 10 y = nI (xA σ 20 (sc f)).toNatClampNeg := by
      rw [hm0 10 (by omega), q6.1]
      exact nI_tn q6.2.1
    obtain ⟨μ', z1, z2⟩ := lf_fn (c := c) (y := y) (sz := b.toNatClampNeg - (y + 1).toNatClampNeg) (V := nvF σ S sc cf f) (P := paF σ sc cf f) hF hf ((fr.1 22 (by omega)).trans h22) r26 r27 r28 ((hm0 12 (by omega) _).trans q1) q11 q12 (by rw [hm0 2 (by omega)]; exact q3) (by rw [h20, h24, nI_plus]; rfl) (by rw [h20, h10, nI_plus]; rfl) hG0 (by omega) (by omega) (by omega) (by omega) (f_X12_liftAll_L17 n)
    obtain ⟨y1, ⟨y2, y3, y4⟩, ⟨y5, y6⟩, y7, ⟨y8, y9, y10, y11⟩, y12, y13⟩ := z2
    have hA' : LAs σ τp μ0 F S sc cf (f + 1) μ' := by
      refine ⟨fr.tr y1, ⟨by rw [y2, hms], by rw [y3, hcs], y4⟩, fun g hg => ?_⟩
      by_cases hgf : g = f
      · subst hgf
        refine ⟨⟨y8, by rw [y9, hms], y10, y11⟩, fun x x1 x2 => y7 x x1 (by omega), ?_⟩
        rw [hcs, hms, hcr]
        exact y13
      · obtain ⟨⟨w1, w2, w3, w4⟩, w5, w6⟩ := hdone g (by omega)
        have hmg : mmF σ τp sc (g + 1) ≤ mmF σ τp sc f := by
          obtain ⟨e, he⟩ : ∃ e, f = g + 1 + e := ⟨f - (g + 1), by omega⟩
          rw [he]
          exact pre_mono e _
        refine ⟨⟨by rw [y12 g 44 hgf (by omega) (by omega) (by omega)]; exact w1, by rw [y12 g 45 hgf (by omega) (by omega) (by omega)]; exact w2, by rw [y12 g 46 hgf (by omega) (by omega) (by omega)]; exact w3, by rw [y12 g 47 hgf (by omega) (by omega) (by omega)]; exact w4⟩, fun x x1 x2 => ?_, ?_⟩
        · rw [(y5 x (by omega)).2]
          exact w5 x x1 x2
        · have hq := w6.un.2.2.1
          have hpg : mmF σ τp sc (g + 1) = mmF σ τp sc g + (xA τp 19 (rtF σ sc g)).toNatClampNeg := rfl
          exact w6.st (by rw [hcs]; omega) (by rw [hcs]; omega) y6 (fun x x1 x2 => (y5 x (by omega)).1)
    have e37 : xA μ' 37 (xA μ' 45 (nI f)) = xA τp 18 c := by
      rw [y9]
      exact y13.un.2.1
    have hrun : f_X12_liftAll_L17 (n + 1) (nI f) μ = finF (f_X12_liftAll_L17 n) f μ' := z1
    have hfail : f_X12_liftAll_b248 (nI f) μ' = some ((), pI (pI μ' 7 8) 8 (xA μ0 11 (nI f))) := by
      unfold f_X12_liftAll_b248 f_X12_fail
      rw [gdn (by omega) (by omega), (fr.tr y1).1 7 (by omega), h7, if_pos rfl, bd_of, (fr.tr y1).x 11 _ (by omega)]
    have hbd : badF σ τp S sc cf f → ∃ μ'', some ((), pI (pI μ' 7 8) 8 (xA μ0 11 (nI f))) = some ((), μ'') ∧ LAe σ τp μ0 F S sc cf μ'' := fun w => ⟨_, rfl, Or.inr ⟨f, hf, w, hbad, μ', fr.tr y1, rfl⟩⟩
    have hnv := nvF_le hX.1 hf
    rw [hrun]
    unfold finF
    rw [e37, y10]
    by_cases c1 : 40 < xA τp 18 c
    · rw [if_pos c1, hfail]
      exact hbd (Or.inl (by rw [hcr]; exact c1))
    · rw [if_neg c1]
      by_cases c2 : nvF σ S sc cf f ≤ 40
      · rw [if_pos (show nI (nvF σ S sc cf f) ≤ 40 from (nI_le31 (b := 40) (by omega) (by omega)).mpr c2)]
        refine ih (f + 1) n μ' (by omega) (by omega) hA' (fun g hg => ?_)
        by_cases hgf : g = f
        · subst hgf
          rintro (w | w)
          · rw [hcr] at w; exact c1 w
          · omega
        · exact hbad g (by omega)
      · rw [if_neg (show ¬ nI (nvF σ S sc cf f) ≤ 40 from fun w => c2 ((nI_le31 (b := 40) (by omega) (by omega)).mp w)), hfail]
        exact hbd (Or.inr (by omega))
/-- THE REFERENCE'S LIFTING -/
theorem lall_go {σ ν τr τv τu τp μm : S5} {k U F C : Nat} {S : Int32} {sc fs cc fu fn ft : Nat → Int32} {cf : Nat → Nat} (hX : PX σ ν τr τv τu τp k U F C S sc cf) (hM : MX σ ν τr τv μm k U F S cf) (hp : PG σ ν k cc fs fu fn ft) (hG : GS σ k fs S) (hN : NX σ ν k sc fs) (h22 : gI μm 22 = nI F) (h7 : gI μm 7 = 0) : ∃ μ', f_X12_liftAll μm = some ((), μ') ∧ LAe σ τp (pI (pI (pI μm 26 0) 27 0) 28 0) F S sc cf μ' := by
  have hF : F ≤ 630 := hX.1.1.2.2.2.1
  exact la_L17 hX (hM.st (μ' := pI (pI (pI μm 26 0) 27 0) 28 0) (fun j x hj => rfl)) hp hG hN h22 h7 F 0 FU (pI (pI (pI μm 26 0) 27 0) 28 0) (by omega) (by show F < 1099511627776; omega) ⟨FrLA.rf _, ⟨rfl, rfl, rfl⟩, fun g hg => absurd hg (by omega)⟩ (fun g hg => absurd hg (by omega))
