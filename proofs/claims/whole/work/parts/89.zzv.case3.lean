/-- the reference's node of an alternative: its sort and value -/
def srt (ck : Int32) : Int32 := if ck = 4 then 0 else if ck = 5 then 1 else 2
theorem m_130 {μ μc μ1 : S5} {l cr ck : Int32} (h7 : gI μ 7 = 0) (h9 : 0 ≤ gI μ 9) (h9' : gI μ 9 < 3200) (ha : f_X12_append l (gI μ 9) (ndM μ 4) = some ((), μc)) (h4 : gI μc 4 = kMd ck) (hck : ck = 4 ∨ ck = 5 ∨ ck = 95) (e : f_X12_next (pA (pA μc 8 (gI μ 9) (srt ck)) 7 (gI μ 9) (if ck = 4 then cr else gI μc 6)) = some ((), μ1)) : f_X12_branch_b130 l cr μ = f_X12_branch_L215 FU cr (gI μ 9) 0 μ1 := by
  unfold f_X12_branch_b130
  rw [if_pos (by rw [h7]; decide), m_node 4 h9 h9', bd_of, ha, bd_of]
  unfold f_X12_branch_b183 f_X12_branch_b207 srt at *
  simp only [gd3200 h9 h9', h4]
  rcases hck with rfl | rfl | rfl
  · rw [if_pos rfl, if_pos rfl] at e
    rw [if_pos (by decide), if_pos (by decide), e, bd_of]
  · rw [if_neg (by decide), if_pos rfl, if_neg (by decide)] at e
    rw [if_neg (by decide), if_pos (by decide), if_neg (by decide), e, bd_of]
  · rw [if_neg (by decide), if_neg (by decide), if_neg (by decide)] at e
    rw [if_neg (by decide), if_neg (by decide), if_neg (by decide), e, bd_of]
/-- the first word of an alternative is read by both -/
theorem ah_one {σ0 μ0 σ μ : S5} {c0 s1 u1 a1 ck con cr : Int32} {k : Nat} {g cc fs fu fn ft : Nat → Int32} (hs0 : Sim σ0 μ0) (h : CI σ0 μ0 σ μ c0 s1 u1 a1 k g cc fs fu fn ft) (h160 : 0 ≤ gI μ0 16) (hk7 : k ≤ 7) (hck : gI σ 17 = ck) (hpk : (ck = 4 ∧ cr = con ∧ 0 ≤ con ∧ con < gI σ 4) ∨ (ck = 5 ∧ con = -1 ∧ cr = 0) ∨ (ck = 95 ∧ con = -1 ∧ cr = 0)) : ∃ σ1 μ1 : S5, f_X10_advance σ = some ((), σ1) ∧ f_X12_branch_b130 (gI μ0 9) cr μ = f_X12_branch_L215 FU cr (gI μ 9) 0 μ1 ∧ gI σ 18 < gI σ1 18 ∧ CB σ0 μ0 σ1 μ1 c0 s1 u1 a1 k (gI μ 9) ck con (gI σ 19) g cc fs fu fn ft := by
  have hb0 := hs0.2.2
  unfold Bg at hb0
  obtain ⟨l1, lF, ⟨x14, x15, x16, x17⟩, ⟨r1, r2, r3, r4, r5, r6, r7, r8⟩, ⟨p14, p15⟩, ⟨z2, z5, z10, z3, z4⟩, ⟨a17, aT⟩, hk8, hRG, hG, hG2⟩ := h
  have hb := l1.2.2
  have hp3 := l1.p3
  unfold Bg at hb
  obtain ⟨b1, b2, b3, b4, b5, b6, b7, b8, b9, b10, b11, b12, b13, b14, b15, b16, b17, b18, b19, b20, b21, b22, b23⟩ := hb
  have hl00 : 0 ≤ gI μ0 9 ∧ gI μ0 9 < gI μ 9 ∧ gI μ0 9 < 3200 := by grind
  have w3 := l1.1.2.2.1
  have hck3 : ck = 4 ∨ ck = 5 ∨ ck = 95 := by rcases hpk with w | w | w; exact Or.inl w.1; exact Or.inr (Or.inl w.1); exact Or.inr (Or.inr w.1)
  have arow := ndM_row μ 4
  have arow9 : xA (ndM μ 4) 9 (gI μ 9) = gI μ 10 := by simp [ndM, xA_pI, xA_pA, xA_pB]
  have afr := ndM_fr μ 4
  have apl : ∀ j x, 14 ≤ j → xA (ndM μ 4) j x = xA μ j x := fun j x h => ndM_pile μ 4 j x h
  have aI : ∀ j, ¬ j = 9 → gI (ndM μ 4) j = gI μ j := fun j h => ndM_gI μ 4 h
  have a9 : gI (ndM μ 4) 9 = gI μ 9 + 1 := rfl
  have aJ : gJ (ndM μ 4) 0 = gJ μ 0 := rfl
  have aR : EqR μ (ndM μ 4) := (EqR.rf μ).nd
  have hm130 := fun μc μ1 => m_130 (μ := μ) (μc := μc) (μ1 := μ1) (l := gI μ0 9) (cr := cr) (ck := ck) b2 b17 (by grind)
  generalize ndM μ 4 = N at *
  have hRGa := hRG.fr (QA_st (gI σ0 15)) (EqE.rf σ) (FrC.rf σ) afr (by rw [aI 10 (by decide)]; exact Int32.le_refl _) (Int32.le_refl _) (by grind) (Int32.le_refl _) (Int32.le_refl _) (Int32.le_refl _)
  have kl := afr.1 (gI μ0 9) hl00.1 hl00.2.1
  have z3' : xA N 3 (gI μ0 9) = if 0 < k then g 0 else -1 := by rw [kl.2.1]; exact z3
  obtain ⟨μc, c1, c2, c3, c4, c5, c6, c7, c8, c9, c10⟩ := hRGa.ap (QA_st (gI σ0 15)) hl00.1 hl00.2.2 z3' (fun w => by rw [kl.2.2.1]; exact z4 w) (gI μ 9)
  have cI : ∀ j, gI μc j = gI N j := fun j => congrFun c5 j
  have cJ : gJ μc = gJ N := c6
  have cA : ∀ j x, ¬ j = 3 → ¬ j = 4 → ¬ j = 5 → xA μc j x = xA N j x := fun j x q1 q2 q3 => congrFun (c7 j q1 q2 q3) _
  have cB : ∀ j x, xB μc j x = xB N j x := fun j x => congrFun (congrFun c8 j) _
  have hRc : EqR μ μc := aR.tr c9
  have hnc : gI μc 4 = kMd ck := by rw [cI, aI 4 (by decide), w3, hck]
  have hn6 : gI μc 6 = gI μ 6 := by rw [cI, aI 6 (by decide)]
  have hi0 := hRGa.2.2.2.2.2.2.2.2
  have gk : ∀ i, i < k → 0 ≤ g i ∧ g i < gI μ 9 := fun i hk => by
    obtain ⟨d1, hb, d2, d3, d4, d5, d6, d7, d8, d9, d10, d11, d12, d13⟩ := hi0 i hk
    unfold Bi at hb
    grind
  have l5 : xA μc 5 (gI μ0 9) = xA N 5 (gI μ0 9) := by
    by_cases c0' : k = 0
    · subst c0'
      have hf : xA N 3 (gI μ0 9) < 0 := by rw [z3', if_neg (by omega)]; decide
      rw [m_app0 (gI μ 9) hl00.1 hl00.2.2 hf] at c1
      simp only [Option.some.injEq, Prod.mk.injEq, true_and] at c1
      rw [← c1]
      rw [xA_pA, if_neg (fun w => absurd w.1 (by decide)), xA_pA, if_neg (fun w => absurd w.1 (by decide))]
    · have hk0 : 0 < k := by omega
      have g0 := gk 0 hk0
      have gl := gk (k - 1) (by omega)
      obtain ⟨d1, hbi, d2, d3, d4, d5, d6, d7, d8, d9, d10, d11, d12, d13⟩ := hi0 (k - 1) (by omega)
      unfold Bi at hbi
      have e3 : xA N 3 (gI μ0 9) = g 0 := by rw [z3', if_pos hk0]
      have e4 : xA N 4 (gI μ0 9) = g (k - 1) := by rw [kl.2.2.1]; exact z4 hk0
      rw [m_app1 (gI μ 9) hl00.1 hl00.2.2 (by rw [e3]; grind) (by rw [e4]; grind) (by rw [e4]; grind)] at c1
      simp only [Option.some.injEq, Prod.mk.injEq, true_and] at c1
      rw [← c1]
      rw [xA_pA, if_neg (fun w => absurd w.1 (by decide)), xA_pA, e4, if_neg (fun w => i_ne (a := gI μ0 9) (b := g (k - 1)) hl00.1 (by grind) w.2)]
  have hvne : ∀ i, 0 ≤ i → ¬ i = gI μ 9 → ¬ i.toNatClampNeg = (gI μ 9).toNatClampNeg := fun i p w v => w ((i_inj p b17).mp v)
  have dI : ∀ j, gI (pA (pA μc 8 (gI μ 9) (srt ck)) 7 (gI μ 9) (if ck = 4 then cr else gI μc 6)) j = gI μc j := fun j => rfl
  have dA : ∀ j x, ¬ j = 7 → ¬ j = 8 → xA (pA (pA μc 8 (gI μ 9) (srt ck)) 7 (gI μ 9) (if ck = 4 then cr else gI μc 6)) j x = xA μc j x := fun j x q1 q2 => by rw [xA_pA, if_neg (fun w => q1 w.1), xA_pA, if_neg (fun w => q2 w.1)]
  have d78 : ∀ x, 0 ≤ x → ¬ x = gI μ 9 → xA (pA (pA μc 8 (gI μ 9) (srt ck)) 7 (gI μ 9) (if ck = 4 then cr else gI μc 6)) 7 x = xA μc 7 x ∧ xA (pA (pA μc 8 (gI μ 9) (srt ck)) 7 (gI μ 9) (if ck = 4 then cr else gI μc 6)) 8 x = xA μc 8 x := fun x p q => by
    have := hvne x p q
    simp [xA_pA, this]
  have d7 : xA (pA (pA μc 8 (gI μ 9) (srt ck)) 7 (gI μ 9) (if ck = 4 then cr else gI μc 6)) 7 (gI μ 9) = if ck = 4 then cr else gI μc 6 := by simp [xA_pA]
  have d8 : xA (pA (pA μc 8 (gI μ 9) (srt ck)) 7 (gI μ 9) (if ck = 4 then cr else gI μc 6)) 8 (gI μ 9) = srt ck := by simp [xA_pA]
  have dB : ∀ j x, xB (pA (pA μc 8 (gI μ 9) (srt ck)) 7 (gI μ 9) (if ck = 4 then cr else gI μc 6)) j x = xB μc j x := fun j x => rfl
  have dR : EqR μ (pA (pA μc 8 (gI μ 9) (srt ck)) 7 (gI μ 9) (if ck = 4 then cr else gI μc 6)) := (hRc.A (by decide)).A (by decide)
  have dW : Wd σ (pA (pA μc 8 (gI μ 9) (srt ck)) 7 (gI μ 9) (if ck = 4 then cr else gI μc 6)) := Wd_of l1.1 rfl rfl rfl rfl rfl rfl rfl (dR.1 1 (by decide)) ((dI 3).trans (by rw [cI, aI 3 (by decide)])) ((dI 4).trans (by rw [cI, aI 4 (by decide)])) ((dI 5).trans (by rw [cI, aI 5 (by decide)])) ((dI 6).trans (by rw [cI, aI 6 (by decide)])) (show gJ μc 0 = gJ μ 0 by rw [cJ]; exact aJ) (dR.2.2.1 0 (by decide))
  have hm2 := fun μ1 => hm130 μc μ1 c1 hnc hck3
  clear hm130
  generalize pA (pA μc 8 (gI μ 9) (srt ck)) 7 (gI μ 9) (if ck = 4 then cr else gI μc 6) = D at *
  obtain ⟨e, kc, p, v', z, vm, zm, e1, e2, e3, e4, e5, e6⟩ := adv dW (by rw [hck]; rcases hck3 with w | w | w <;> rw [w] <;> decide)
  refine ⟨_, _, e1, hm2 _ e2, by rw [p_wdC]; exact e4, ?_⟩
  have SI : ∀ j, (j < 16 ∨ 19 < j) → gI (wdC σ e kc p v' z) j = gI σ j := fun j w => gI_wdC w
  have S18 : gI (wdC σ e kc p v' z) 18 = p := p_wdC
  have SA : ∀ j x, xA (wdC σ e kc p v' z) j x = xA σ j x := fun j x => xA_wdC ..
  have SB : ∀ j x, xB (wdC σ e kc p v' z) j x = xB σ j x := fun j x => xB_wdC ..
  have SE : EqE σ (wdC σ e kc p v' z) := (EqE.rf σ).w
  have MI : ∀ j, (j < 3 ∨ 6 < j) → gI (wdM D e (kMd kc) p vm zm) j = gI N j := fun j w => (gI_wdM w).trans ((dI j).trans (cI j))
  have MA : ∀ j x, xA (wdM D e (kMd kc) p vm zm) j x = xA D j x := fun j x => xA_wdM ..
  have MB : ∀ j x, xB (wdM D e (kMd kc) p vm zm) j x = xB N j x := fun j x => (xB_wdM ..).trans ((dB j x).trans (cB j x))
  have MR : EqR μ (wdM D e (kMd kc) p vm zm) := dR.w
  clear e1 e2 dW hm2
  generalize wdC σ e kc p v' z = S at *
  generalize wdM D e (kMd kc) p vm zm = M at *
  have M9 : gI M 9 = gI μ 9 + 1 := by rw [MI 9 (by decide), a9]
  have MJ : ∀ j, (j < 3 ∨ 6 < j) → ¬ j = 9 → gI M j = gI μ j := fun j w w2 => (MI j w).trans (aI j w2)
  obtain ⟨fE, fR, fC, fM, fP, f12, f8, f9, f10, fm9, fm10, f18⟩ := lF
  have i8 := iv_eq (SI 8 (by decide))
  have i9 := iv_eq (SI 9 (by decide))
  have i10 := iv_eq (SI 10 (by decide))
  have i13 := iv_eq (SI 13 (by decide))
  have i18 : iv σ 18 < iv S 18 := iv_lt (by rw [S18]; exact e4)
  have j9 := iv_a1 M9 b17 (by grind)
  have j10 := iv_eq (MJ 10 (by decide) (by decide))
  have hGm : Gm 2 1 σ0 S μ0 M := by
    unfold Gm at *
    omega
  have hSim : Sim S M := Sim.mk2 hs0 e3 (fE.tr SE) (fR.tr MR) hGm (by decide) (by decide) (by rw [SI 11 (by decide)]; exact b1) (by rw [MJ 7 (by decide) (by decide)]; exact b2) (by rw [SI 13 (by decide), MJ 11 (by decide) (by decide)]; exact b3) (by rw [SI 13 (by decide)]; exact ⟨b4, b5⟩) (by rw [SI 14 (by decide), MJ 15 (by decide) (by decide)]; exact b6) (by rw [SI 14 (by decide)]; exact ⟨b7, b8⟩) (by rw [SI 8 (by decide)]; exact b9) (by rw [SI 9 (by decide)]; exact b11) (by rw [SI 10 (by decide)]; exact b15) (by rw [M9]; grind) (by rw [MJ 10 (by decide) (by decide)]; exact b19) (by rw [SI 15 (by decide), SI 9 (by decide)]; exact ⟨b21, b22⟩) (by rw [S18]; exact e6)
  have mpl : ∀ j x, 14 ≤ j → xA M j x = xA μ j x := fun j x w => by rw [MA, dA j x (by omega) (by omega), cA j x (by omega) (by omega) (by omega), apl j x w]
  have mrow : ∀ i, 0 ≤ i → i < gI μ 9 → ¬ i = gI μ0 9 → (i < a1 ∨ gI μ 9 ≤ i) → xA M 2 i = xA μ 2 i ∧ xA M 3 i = xA μ 3 i ∧ xA M 4 i = xA μ 4 i ∧ xA M 5 i = xA μ 5 i ∧ xA M 6 i = xA μ 6 i ∧ xA M 7 i = xA μ 7 i ∧ xA M 8 i = xA μ 8 i ∧ xA M 9 i = xA μ 9 i ∧ xA M 10 i = xA μ 10 i ∧ xB M 0 i = xB μ 0 i := by
    intro i p q w1 w2
    have x := afr.1 i p q
    have y := c10 i p w1 w2
    have d := d78 i p (by grind)
    rw [MA, MA, MA, MA, MA, MA, MA, MA, MA, MB, dA 2 _ (by decide) (by decide), dA 3 _ (by decide) (by decide), dA 4 _ (by decide) (by decide), dA 5 _ (by decide) (by decide), dA 6 _ (by decide) (by decide), d.1, d.2, dA 9 _ (by decide) (by decide), dA 10 _ (by decide) (by decide), y.1, y.2.1, y.2.2, cA 2 _ (by decide) (by decide) (by decide), cA 6 _ (by decide) (by decide) (by decide), cA 7 _ (by decide) (by decide) (by decide), cA 8 _ (by decide) (by decide) (by decide), cA 9 _ (by decide) (by decide) (by decide), cA 10 _ (by decide) (by decide) (by decide)]
    exact x
  have hv5 := c10 (gI μ 9) b17 (by grind) (Or.inr (Int32.le_refl _))
  have hl0 : ∀ j, ¬ j = 3 → ¬ j = 4 → ¬ j = 5 → ¬ j = 7 → ¬ j = 8 → xA M j (gI μ0 9) = xA N j (gI μ0 9) := fun j q1 q2 q3 q4 q5 => by rw [MA, dA j _ q4 q5, cA j _ q1 q2 q3]
  have hl7 : xA M 7 (gI μ0 9) = xA μ 7 (gI μ0 9) := by rw [MA, (d78 (gI μ0 9) hl00.1 (by grind)).1, cA 7 _ (by decide) (by decide) (by decide)]; exact kl.2.2.2.2.2.1
  have hvj : ∀ j, ¬ j = 3 → ¬ j = 4 → ¬ j = 5 → ¬ j = 7 → ¬ j = 8 → xA M j (gI μ 9) = xA N j (gI μ 9) := fun j q1 q2 q3 q4 q5 => by rw [MA, dA j _ q4 q5, cA j _ q1 q2 q3]
  refine ⟨hSim, ⟨fE.tr SE, fR.tr MR, ?_, ⟨fun i p q => ?_, fun i p q => ?_⟩, ⟨fun i p q => ?_, fun i p q => ?_⟩, ?_, by rw [SI 8 (by decide)]; exact f8, by rw [SI 9 (by decide)]; exact f9, by rw [SI 10 (by decide)]; exact f10, by rw [M9]; grind, by rw [MJ 10 (by decide) (by decide)]; exact fm10, by rw [S18]; grind⟩, ⟨by rw [SI 14 (by decide)]; exact x14, by rw [SI 15 (by decide)]; exact x15, by rw [MJ 16 (by decide) (by decide)]; exact x16, by rw [MJ 17 (by decide) (by decide)]; exact x17, M9⟩, ⟨r1, by rw [SI 9 (by decide)]; exact r2, r3, by rw [SI 10 (by decide)]; exact r4, r5, r6, r7, by rw [SI 8 (by decide)]; exact r8⟩, ⟨by rw [mpl 14 _ (by decide)]; exact p14, by rw [mpl 15 _ (by decide)]; exact p15⟩, ⟨by rw [hl0 2 (by decide) (by decide) (by decide) (by decide) (by decide), kl.1]; exact z2, ?_, by rw [hl0 10 (by decide) (by decide) (by decide) (by decide) (by decide), kl.2.2.2.2.2.2.2.2.1]; exact z10, by rw [MA, dA 3 _ (by decide) (by decide)]; exact c3, by rw [MA, dA 4 _ (by decide) (by decide)]; exact c4⟩, ⟨by rw [SA]; exact a17, ?_⟩, hk7, ⟨by rw [hvj 2 (by decide) (by decide) (by decide) (by decide) (by decide)]; exact arow.1, ?_, by rw [hvj 10 (by decide) (by decide) (by decide) (by decide) (by decide)]; exact arow.2.2.2.2, by rw [hvj 9 (by decide) (by decide) (by decide) (by decide) (by decide), MJ 10 (by decide) (by decide)]; exact arow9⟩, ?_, ?_, hGm⟩
  · unfold FrC at *
    simp only [SA, SB]
    exact fC
  · have x := mrow i p (by grind) (by grind) (Or.inl (by grind))
    have y := fM.1 i p q
    exact ⟨x.1.trans y.1, x.2.1.trans y.2.1, x.2.2.1.trans y.2.2.1, x.2.2.2.1.trans y.2.2.2.1, x.2.2.2.2.1.trans y.2.2.2.2.1, x.2.2.2.2.2.1.trans y.2.2.2.2.2.1, x.2.2.2.2.2.2.1.trans y.2.2.2.2.2.2.1, x.2.2.2.2.2.2.2.1.trans y.2.2.2.2.2.2.2.1, x.2.2.2.2.2.2.2.2.1.trans y.2.2.2.2.2.2.2.2.1, x.2.2.2.2.2.2.2.2.2.trans y.2.2.2.2.2.2.2.2.2⟩
  · rw [MB, afr.2 i p (by grind)]; exact fM.2 i p q
  · rw [mpl 14 i (by decide), mpl 15 i (by decide), mpl 16 i (by decide), mpl 17 i (by decide)]; exact fP.1 i p q
  · rw [mpl 18 i (by decide)]; exact fP.2 i p q
  · rw [MJ 12 (by decide) (by decide), MJ 11 (by decide) (by decide)]; exact f12
  · rw [MA, dA 5 _ (by decide) (by decide), l5, kl.2.2.2.1]; exact z5
  · rw [hl7]
    have hbd := aT.un.1
    unfold Bd at hbd
    refine aT.st ⟨fun x _ _ => ⟨SA _ _, SA _ _, SA _ _, SA _ _⟩, fun x _ _ => SA _ _, fun x _ _ => ⟨SA _ _, SA _ _, SA _ _, SA _ _⟩, fun x _ _ => SA _ _, fun x _ _ => SB _ _, fun x _ _ => ⟨SA _ _, SA _ _, SA _ _, SB _ _⟩, fun x p q => ?_, fun x p q _ => (mrow x (by grind) (by grind) (by grind) (Or.inl q)).2.2.2.1, fun x p q => (MB _ _).trans (afr.2 x p q), by rw [MJ 10 (by decide) (by decide)]; exact Int32.le_refl _, SE.1 4 (by decide), fun x _ _ => SA _ _⟩
    have y := mrow x (by grind) (by grind) (by grind) (Or.inl q)
    exact ⟨y.1, y.2.1, y.2.2.1, y.2.2.2.2.1, y.2.2.2.2.2.1, y.2.2.2.2.2.2.1, y.2.2.2.2.2.2.2.1, y.2.2.2.2.2.2.2.2.1, y.2.2.2.2.2.2.2.2.2⟩
  · rw [MA, dA 5 _ (by decide) (by decide), hv5.2.2]; exact arow.2.2.1
  · rcases hpk with ⟨q1, q2, q3, q4⟩ | ⟨q1, q2, q3⟩ | ⟨q1, q2, q3⟩
    · exact Or.inl ⟨q1, by rw [MA, d8, q1]; decide, by rw [MA, d7, if_pos q1, q2], q3, by rw [SI 4 (by decide)]; exact q4⟩
    · have w11 := l1.1.2.2.2.2.2.2.2.2.2.2 (by rw [hck]; exact q1)
      exact Or.inr (Or.inl ⟨q2, q1, by rw [MA, d8, q1]; decide, by rw [MA, d7, if_neg (by rw [q1]; decide), hn6]; exact w11.1.symm, w11.2⟩)
    · exact Or.inr (Or.inr ⟨q2, q1, by rw [MA, d8, q1]; decide⟩)
  · rw [SI 9 (by decide), SI 10 (by decide), SI 8 (by decide)]
    have hic := c2.2.2.2.2.2.2.2.2
    refine c2.st (QA_st (gI σ0 15)) (fun i hk => ?_) (fun i hk => SA _ _) (fun i hk => (MA _ _).trans (dA 5 _ (by decide) (by decide))) (fun hk => ?_)
    · obtain ⟨d1, hbi, d2, d3, d4, d5, d6, d7', d8', d9, d10, d11, d12, d13⟩ := hic i hk
      unfold Bi at hbi
      refine ⟨fun x _ _ => ⟨SA _ _, SA _ _, SA _ _, SA _ _⟩, fun x _ _ => SA _ _, fun x _ _ => ⟨SA _ _, SA _ _, SA _ _, SA _ _⟩, fun x _ _ => SA _ _, fun x _ _ => SB _ _, fun x _ _ => ⟨SA _ _, SA _ _, SA _ _, SB _ _⟩, fun x p q => ?_, fun x p q w => (MA _ _).trans (dA 5 _ (by decide) (by decide)), fun x p q => (MB _ _).trans (cB _ _).symm, by rw [MI 10 (by decide), cI]; exact Int32.le_refl _, SE.1 4 (by decide), fun x _ _ => SA _ _⟩
      have d := d78 x (by grind) (by grind)
      rw [MA, MA, MA, MA, MA, MA, MA, MA, MB, dA 2 _ (by decide) (by decide), dA 3 _ (by decide) (by decide), dA 4 _ (by decide) (by decide), dA 6 _ (by decide) (by decide), d.1, d.2, dA 9 _ (by decide) (by decide), dA 10 _ (by decide) (by decide), cB]
      exact ⟨rfl, rfl, rfl, rfl, rfl, rfl, rfl, rfl, rfl⟩
    · obtain ⟨d1, hbi, d2, d3, d4, d5, d6, d7', d8', d9, d10, d11, d12, d13⟩ := hic (k - 1) (by omega)
      rw [if_neg (by omega)] at d12
      rw [MA, dA 5 _ (by decide) (by decide)]; exact d12
