/-- only variables change -/
theorem MSv.vr {τ μ0 : S5} {F k T : Nat} {pa nv D E : Nat → Nat} (hnv : ∀ f, f < F → nv f ≤ 40) {σs μs : S5} {t0 : Nat} {σ μ σ' μ' : S5} {n : Nat} {tg ct : Nat → Nat} {K : List (Nat × Nat × Nat × Nat × Nat)} {t W V b f e r P R i : Nat} (h : MSv τ μ0 F k T pa nv D E σs μs t0 σ μ n tg ct K t W V b f e r P R i) (hC : Fb 13 σ σ') (hM : Fb 9 μ μ') (hv : ∀ j, VL τ F pa n tg ct (gB σ 13 j) (gB μ 9 j) → VL τ F pa n tg ct (gB σ' 13 j) (gB μ' 9 j)) : MSv τ μ0 F k T pa nv D E σs μs t0 σ' μ' n tg ct K t W V b f e r P R i := by
  have hsp : ∀ G : Nat → Nat, spC G μ' = spC G μ := fun G => funext (fun c => by unfold spC; rw [hM.2.2.1 53, hM.2.2.1 54])
  exact h.gr hnv (Gro.rf n tg ct) hC.lc hM.lm (h.2.1.of (by rw [hC.2.2.1 40]) (hC.2.2.2.1 14 (by decide)) (fun j _ _ => hM.1 j) (fun j _ _ => hM.2.2.1 j) (hM.2.2.2.1 6 (by decide)) (hM.2.2.2.1 7 (by decide))) (h.2.2.1.1.st (fun x _ => by rw [hC.2.2.1 40]) (hC.2.2.1 41) (hC.2.2.1 42) (fun j _ => hC.1 j) (fun j _ => hM.1 j) (hM.2.2.1 57) (hM.2.2.1 58)) (by rw [hM.1 44]; exact h.2.2.1.2) (fun c _ => by rw [hM.2.2.1 53]) hv (fun j _ => by rw [hM.2.2.2.1 7 (by decide)]) (B := 0) (by rw [hsp]; omega) (by omega) (B2 := 0) (by rw [hsp]; omega) (Nat.le_refl _)
/-- behind a case's E: CHOOSE -/
theorem rs3 {τ μ0 : S5} {F k T : Nat} {pa nv D E : Nat → Nat} (hS : PSt τ μ0 F k T pa nv) {σs μs : S5} (hPs : eqP τ σs) (hQs : eqQ μ0 μs) {t0 : Nat} {σ μ : S5} {n : Nat} {tg ct : Nat → Nat} {a p i0 z0 : Nat} {K : List (Nat × Nat × Nat × Nat × Nat)} {t W V b f e r P R Z : Nat} (h : MSb τ μ0 F k T pa nv D E σs μs t0 σ μ n tg ct ((3, a, p, i0, z0) :: K) t W V b f e r P R) (hv : VL τ F pa n tg ct (gJ σ 5) (gJ μ 1)) (hZ : R ≤ Z + 1) : GOt τ μ0 F k T pa nv D E σs μs t0 Z σ (f_X3_resume σ) (f_X12_goOn μ) := by
  have hnv := hS.nv
  obtain ⟨t', W', V', ⟨⟨he, hf⟩, -, h5, -⟩, hm, hfq, hpop, h40, h48, hW⟩ := pop_go hnv h (show (3 : Nat) ≤ 6 by omega)
  obtain ⟨-, c2, c3, -, c5, c6, -, ⟨Sc, c8, c9⟩, c10, c11⟩ := h5 (show (3 : Nat) ≤ 5 by omega)
  dsimp only at c2 c3 c5 c6 c8 c9 c10 c11 hm hfq hpop
  have e0 : nvl 3 i0 = 0 := rfl
  rw [e0, Nat.add_zero] at hm hpop c5
  rw [c5, if_neg (show ¬ (3 : Nat) = 5 by omega)] at hpop
  have efp : fpF D μ0 (3, a, p, i0, z0) = sdN D μ0 p 1 := by
    unfold fpF
    dsimp only
    rw [if_neg (by decide), if_pos (Or.inl rfl)]
  have efq : fqF E μ0 (3, a, p, i0, z0) = 2 + (1 + sdN E μ0 p 1) := by
    unfold fqF
    dsimp only
    rw [if_neg (by decide), if_pos (Or.inl rfl)]
  rw [efp, efq] at hm
  rw [efq] at hfq
  obtain ⟨l, ct0, bp, aa, jj, ll, kp, b0, hCS, ⟨e16, eb0, eb1, e17⟩, ⟨nb1, nb2, nb3⟩, ⟨s31, s39⟩, hc⟩ := case_un hS c8 (c11.2.1 rfl)
  obtain ⟨⟨hp7, l1, l8, x33, x14, x34⟩, alt⟩ := id hCS
  have hcn : cnN μ0 p = l + 1 := by
    unfold cnN
    rw [x34, nI_clamp (by omega)]
  have hP' : eqP τ σ := hPs.fm h.1.1
  have hP1 := hPs.fm hm.1.1
  have hQ1 := hQs.fm hm.1.2.1
  have rc : ∀ τ' : S5, f_X3_choose (aa 0) (pI σ 40 (nI t')) = some ((), τ') → gN τ' 1 = gN σ 1 → gN τ' 3 = gN σ 3 → f_X3_resume σ = some ((), τ') := by
    intro τ' w q1 q3
    rw [(rs_hd h40 hpop (by omega) (by omega) (by omega)).2.2.1 rfl, gdn c2 (by omega), hP'.x 16 _ (by decide), e16, gd6200 eb0 eb1, hP'.x 17 _ (by decide), e17, w, bd_of, gq_e q1, gq_e q3]
  have rm : ∀ ν : S5, f_X12_choose (nI p) (gJ μ 1) (pI μ 48 (nI W')) = some ((), ν) → f_X12_goOn μ = some ((), ν) := by
    intro ν w
    rw [(go_hd (kd := 4) h48 hW c6 (by omega) c3).2.2.2.2.1 rfl, w, bd_of]
  rcases ch_go hS hP1 hQ1 hm.2.1 hm.2.2.1.1 hm.2.2.1.2 (hm.ev hf he c9) hCS (x := gJ σ 5) rfl hv with ⟨i, σ1, μ1, hi, w1, w2, w3, w4, w5, w6⟩ | ⟨σ1, μ1, w1, w2, w3, w4, w5⟩
  · obtain ⟨o1, o2, o3, o4, o5, o6, o7, o8⟩ := alt i hi
    have hm1 := hm.vr hnv w3 w4 w6
    have g1 : gN σ1 1 = gN σ 1 := congrFun w3.2.2.2.2 1
    have g3 : gN σ1 3 = gN σ 3 := congrFun w3.2.2.2.2 3
    have hch : chN μ0 p (1 + i) = kp i := chN_of x33 (by rw [← Nat.add_assoc]; exact o8) o7
    have sD := sdN_le D μ0 (p := p) i 1 (by omega)
    have sE := sdN_le E μ0 (p := p) i 1 (by omega)
    rw [hch] at sD sE
    exact wk_mk hnv hm1.b o5 w5.2.1 (by omega) (by omega) (Z := Z) (by omega) he (Nat.le_of_eq g1.symm) (Nat.le_of_eq g3.symm) (rc _ w1 g1 g3) (rm _ w2)
  · have q1 : gN σ1 1 = gN σ 1 := congrFun w4.2.2.2.2 1
    have q3 : gN σ1 3 = gN σ 3 := congrFun w4.2.2.2.2 3
    have hgo := ov_mk (τ := τ) (μ0 := μ0) (F := F) (k := k) (T := T) (pa := pa) (nv := nv) (D := D) (E := E) (t0 := t0) (Z := Z) hm.1.1 hm.1.2.1 w3 (hm.2.2.2.1.fk w4) w4.fm w5.fm ⟨Nat.le_of_eq q1.symm, Nat.le_of_eq q3.symm⟩ (rc _ w1 q1 q3) (rm _ w2)
    exact hgo.up (Nat.le_refl _) (Nat.le_refl _)
/-- behind a let's E that was needed: NAMED -/
theorem rs4 {τ μ0 : S5} {F k T : Nat} {pa nv D E : Nat → Nat} (hS : PSt τ μ0 F k T pa nv) (hMk : MKb τ μ0 F T nv) {σs μs : S5} (hPs : eqP τ σs) (hQs : eqQ μ0 μs) {t0 : Nat} {σ μ : S5} {n : Nat} {tg ct : Nat → Nat} {a p i0 z0 : Nat} {K : List (Nat × Nat × Nat × Nat × Nat)} {t W V b f e r P R Z : Nat} (h : MSb τ μ0 F k T pa nv D E σs μs t0 σ μ n tg ct ((4, a, p, i0, z0) :: K) t W V b f e r P R) (hv : VL τ F pa n tg ct (gJ σ 5) (gJ μ 1)) (hZ : R ≤ Z + 1) : GOt τ μ0 F k T pa nv D E σs μs t0 Z σ (f_X3_resume σ) (f_X12_goOn μ) := by
  have hnv := hS.nv
  obtain ⟨t', W', V', ⟨⟨he, hf⟩, -, h5, -⟩, hm, hfq, hpop, h40, h48, hW⟩ := pop_go hnv h (show (4 : Nat) ≤ 6 by omega)
  obtain ⟨-, c2, c3, -, c5, c6, -, ⟨Sc, c8, c9⟩, c10, c11⟩ := h5 (show (4 : Nat) ≤ 5 by omega)
  dsimp only at c2 c3 c5 c6 c8 c9 c10 c11 hm hfq hpop
  have e0 : nvl 4 i0 = 0 := rfl
  rw [e0, Nat.add_zero] at hm hpop c5
  rw [c5, if_neg (show ¬ (4 : Nat) = 5 by omega)] at hpop
  have efp : fpF D μ0 (4, a, p, i0, z0) = sdN D μ0 p 1 := by
    unfold fpF
    dsimp only
    rw [if_neg (by decide), if_pos (Or.inr rfl)]
  have efq : fqF E μ0 (4, a, p, i0, z0) = 2 + (1 + sdN E μ0 p 1) := by
    unfold fqF
    dsimp only
    rw [if_neg (by decide), if_pos (Or.inr rfl)]
  rw [efp, efq] at hm
  rw [efq] at hfq
  obtain ⟨hk7, hz2⟩ := c11.2.2.1 rfl
  obtain ⟨l, lo, ct0, bp, bb, kc, kp, b0, hLT, ⟨hl1, hlo⟩, ⟨e16, eb0, eb1, e17⟩, ⟨nb1, nb2, nb3⟩, ⟨s31, s32, s35, s39, sct⟩, -, hc, -⟩ := let_un hS c8 hk7 c8.h
  obtain ⟨hp7, l5, hlv, x33, x14, hbs⟩ := id hLT
  obtain ⟨k1, k2⟩ := hMk f _ p Sc c8 hk7 hz2
  obtain rfl : l = 1 := nI_injL (a := l) (b := 1) (by omega) (by omega) (s32.symm.trans k1)
  obtain ⟨o1, o2, o3, o4, o5, o6, o7, o8, o9⟩ := hbs 0 (by omega)
  rw [Nat.add_zero] at o2
  have hP' : eqP τ σ := hPs.fm h.1.1
  have hQ' : eqQ μ0 μ := hQs.fm h.1.2.1
  have hvf := hnv f hf
  have hev := hm.ev hf he c9
  obtain ⟨⟨v1, v2, v3, v4, v5, v6, v7⟩, -, -⟩ := id hev
  have v5' : b + nv f ≤ gN σ 3 := v5
  have v7' : gN σ 3 < 2 ^ 31 := v7
  have v1' : gI σ 41 = nI b := v1
  have v2' : gI μ 50 = nI b := v2
  have hev1 := hev.w (Sc' := Sx Sc lo 1) (i := lo) (x := gJ σ 5) (y := gJ μ 1) (by omega) hv (fun z hz => by
    rcases hz with w | w
    · exact Or.inl w
    · exact Or.inr (by omega))
  have hm1 := hm.vr hnv (Fb.p (pI σ 40 (nI t')) 13 (nI (b + lo)) (gJ σ 5)) (Fb.p (pI μ 48 (nI W')) 9 (nI (b + lo)) (gJ μ 1)) (fun j w => by
    by_cases hj : j = b + lo
    · subst hj
      rw [gB_s (by omega), gB_s (by omega)]
      exact hv
    · rw [gB_n (by omega) hj, gB_n (by omega) hj]
      exact w)
  have hQ1 := hQs.fm hm1.1.2.1
  have hcn : cnN μ0 p = 2 := by
    obtain ⟨-, q, lo', hi', hx, -, -⟩ := c8
    obtain ⟨-, -, h3⟩ := hx.un hvf
    rcases h3 with ⟨-, -, -, -, w⟩ | ⟨_, _, _, _, w, -⟩ | ⟨w1, w2, l', ct', bb', ll', -, y32, -, -, -, -, -, hxk⟩ | ⟨w1, -⟩
    · exfalso
      rcases w with ⟨a, -⟩ | ⟨a, -⟩ | ⟨a, -⟩ | ⟨a, -⟩ | ⟨a, -⟩ <;> rw [a] at hk7 <;> exact absurd hk7 (by decide)
    · exfalso
      rcases w with ⟨a, -⟩ | ⟨a, -⟩ | ⟨a, -⟩ <;> rw [a] at hk7 <;> exact absurd hk7 (by decide)
    · obtain ⟨qq, pp, y33, ylt, y34, -⟩ := hxk
      have el : nI 1 = nI l' := s32.symm.trans y32
      unfold cnN
      rw [y34, nI_clamp (by omega)]
      have : 1 = l' := nI_injL (by omega) (by omega) el
      omega
    · rw [w1] at hk7; exact absurd hk7 (by decide)
  have hch : chN μ0 p 1 = bp := chN_of x33 s39 nb3
  have sD := sdN_s D μ0 (p := p) (i := 1) (by omega)
  have sE := sdN_s E μ0 (p := p) (i := 1) (by omega)
  rw [hch] at sD sE
  refine wk_mk hnv hm1.b nb1 hev1.2.1 (by omega) (by omega) (Z := Z) (by omega) he (Nat.le_refl _) (Nat.le_refl _) ?_ ?_
  · rw [(rs_hd h40 hpop (by omega) (by omega) (by omega)).2.2.2.1 rfl]
    unfold f_X3_workOn
    rw [gdn c2 (by omega), hP'.x 16 _ (by decide), e16, gd6200 eb0 eb1, hP'.x 17 _ (by decide), e17, gd6200 o1.1 o1.2, hP'.x 14 _ (by decide), o2, v1', nI_plus, gdn (by omega) v7', gdn c2 (by omega), bd_of]
    rw [gq_e (show gN (pI (pI (pB (pI σ 40 (nI t')) 13 (nI (b + lo)) (gJ σ 5)) 44 b0) 45 1) 1 = gN σ 1 from rfl), gq_e (show gN (pI (pI (pB (pI σ 40 (nI t')) 13 (nI (b + lo)) (gJ σ 5)) 44 b0) 45 1) 3 = gN σ 3 from rfl)]
  · rw [(go_hd (kd := 5) h48 hW c6 (by omega) c3).2.2.2.2.2.1 rfl, hQ'.x 35 _ (by decide), s35, v2', nI_plus, gdn c3 (by omega), gdn (by omega) (by omega), show f_X12_child (nI p) 1 (pB (pI μ 48 (nI W')) 9 (nI (b + lo)) (gJ μ 1)) = some (nI bp, pB (pI μ 48 (nI W')) 9 (nI (b + lo)) (gJ μ 1)) from child_at hQ1 (i := 1) c3 x33 (by omega) s39, bd_of]
    rfl
/-- arguments that are there already are passed by -/
theorem sk35 {τ σ : S5} (hP : eqP τ σ) (h0 : xA σ 40 0 = 0) {c g : Int32} (hc : 0 ≤ c ∧ c < 6200) {cc : Nat → Int32} {m done : Nat} (hm8 : m ≤ 8) (h15 : xA τ 15 c = nI m) (hd : done ≤ m) (hcc : ∀ i, i < m → (0 ≤ cc i ∧ cc i < 6200) ∧ xA τ 17 (cc i) = if i + 1 < m then cc (i + 1) else -1) : ∀ (q j N : Nat), j + q = done → f_X3_workArguments_L35 (N + q) c (nI done) g (if j < m then cc j else -1) (nI j) σ = f_X3_workArguments_L35 N c (nI done) g (if done < m then cc done else -1) (nI done) σ
  | 0, j, N, h => by
    obtain rfl : j = done := by omega
    rfl
  | q + 1, j, N, h => by
    rw [← sk35 hP h0 hc hm8 h15 hd hcc q (j + 1) N (by omega)]
    obtain ⟨k1, k2⟩ := hcc j (by omega)
    rw [if_pos (show j < m by omega)]
    show f_X3_workArguments_B35 _ _ _ _ _ _ _ = _
    unfold f_X3_workArguments_B35 f_X3_isOver f_X3_workArguments_b143
    rw [gd6200 hc.1 hc.2, hP.x 15 _ (by decide), h15, if_neg (fun w => absurd ((lp_le (by omega) (by omega)).mp w) (by omega)), if_neg (nneg1 k1.1), if_pos h0, bd_of, gq_r, gq_r, if_pos rfl, if_pos ((nI_lt31 (by omega) (by omega)).mpr (by omega)), gd6200 k1.1 k1.2, hP.x 17 _ (by decide), k2, nI_add1]
    rfl
/-- behind an argument that was needed: ARGUMENT -/
theorem rs5 {τ μ0 : S5} {F k T : Nat} {pa nv D E : Nat → Nat} (hS : PSt τ μ0 F k T pa nv) (hD : DSt τ μ0 F T pa nv D) (hE : ESt τ μ0 F T nv E) (hB : NDb τ μ0 F pa) {σs μs : S5} (hPs : eqP τ σs) (hQs : eqQ μ0 μs) {t0 : Nat} {σ μ : S5} {n : Nat} {tg ct : Nat → Nat} {a p i0 z0 : Nat} {K : List (Nat × Nat × Nat × Nat × Nat)} {t W V b f e r P R Z : Nat} (h : MSb τ μ0 F k T pa nv D E σs μs t0 σ μ n tg ct ((5, a, p, i0, z0) :: K) t W V b f e r P R) (hv : VL τ F pa n tg ct (gJ σ 5) (gJ μ 1)) (hZ : R ≤ Z + 1) : GOt τ μ0 F k T pa nv D E σs μs t0 Z σ (f_X3_resume σ) (f_X12_goOn μ) := by
  have hbig := FU_big (n := 5000) (by decide)
  have hnv := hS.nv
  have hF6 := hS.1.1
  obtain ⟨t', W', V', ⟨⟨he, hf⟩, -, h5, -⟩, hm, hfq, hpop, h40, h48, hW⟩ := pop_go hnv h (show (5 : Nat) ≤ 6 by omega)
  obtain ⟨-, c2, c3, -, c5, c6, c7, ⟨Sc, c8, c9⟩, c10, c11⟩ := h5 (show (5 : Nat) ≤ 5 by omega)
  dsimp only at c2 c3 c5 c6 c7 c8 c9 c10 c11 hm hfq hpop
  have e0 : nvl 5 i0 = i0 := by unfold nvl; rw [if_neg (by omega), if_pos (Or.inl rfl)]
  rw [e0] at hm hpop c5
  rw [c5, if_pos rfl] at hpop
  obtain ⟨hk8, m, g, ⟨am8, a15, gF, g1, gm, a13, a14⟩, him⟩ := c11.2.2.2 rfl
  have hP1 := hPs.fm hm.1.1
  have hQ1 := hQs.fm hm.1.2.1
  obtain ⟨m', hd, h', cc, pp, m1, m8, a15', a34, a16, a16', h7, hNh, hFh, hch0, a17, hKd, hcase⟩ := (less_go hS hP1 hQ1 c8).2 hk8
  obtain rfl : m' = m := nI_injL (by omega) (by omega) (a15'.symm.trans a15)
  have hA : ApN τ μ0 F T nv f (nI a) p m' hd cc pp Sc := ⟨⟨m1, m8⟩, ⟨a15', a34⟩, ⟨a16, a16', a17⟩, hKd⟩
  have hcn := hA.cn
  rw [a16] at a13 a14
  clear hcase
  have efp : fpF D μ0 (5, a, p, i0, z0) = (m' - i0) + sdN D μ0 p (1 + (i0 + 1)) := by
    unfold fpF
    dsimp only
    rw [if_neg (by decide), if_neg (by decide), if_pos rfl, hcn, show m' + 1 - 1 - i0 = m' - i0 by omega, show i0 + 2 = 1 + (i0 + 1) by omega]
  have efq : fqF E μ0 (5, a, p, i0, z0) = 3 + 2 * (m' - i0) + sdN E μ0 p (1 + (i0 + 1)) := by
    unfold fqF
    dsimp only
    rw [if_neg (by decide), if_neg (by decide), if_pos rfl, hcn, show m' + 1 - 1 - i0 = m' - i0 by omega, show i0 + 2 = 1 + (i0 + 1) by omega]
    omega
  rw [efp, efq] at hm
  rw [efq] at hfq
  obtain ⟨σ1, μ1, y1, y2, y3, y4, y5, y6, y7⟩ := pv_go hnv hm hv (P' := P + ((m' - i0) + sdN D μ0 p (1 + (i0 + 1))) - 1) (by omega)
  have y6' : gN σ 1 ≤ gN σ1 1 := y6
  have y7' : gN σ1 3 = gN σ 3 := y7
  have hP2 : eqP τ σ1 := hPs.fm y3.1.1
  have hQ2 : eqQ μ0 μ1 := hQs.fm y3.1.2.1
  have h00 : xA σ1 40 0 = 0 := y3.2.2.1.1.1.1.trans y3.2.2.1.2
  obtain ⟨-, -, -, ctk, k1, k2, k3⟩ := id hA
  have hgo := ar_go (done := i0 + 1) hS hD hE hB hPs hQs (t0 := t0) hf he c8 hk8 hA (r := r + 1) c10 (g := g) ⟨gF, g1, gm, a13, a14⟩ (m' - (i0 + 1)) (i0 + 1) (FU - (i0 + 1)) FU σ1 μ1 n tg ct (P + ((m' - i0) + sdN D μ0 p (1 + (i0 + 1))) - 1) (R - (3 + 2 * (m' - i0) + sdN E μ0 p (1 + (i0 + 1)))) Z (by omega) (by omega) (by omega) (Nat.le_refl _) y3 (fun x hx => by
    rw [y4.2.2.2.1 13 (by decide), y5.2.2.2.1 9 (by decide)]
    exact c9 x hx) (by omega) (by omega)
  have hsk := sk35 hP2 h00 (c := nI a) (g := nI g) ⟨i_le0 (nI_nneg (by omega)), (nI_lt31 (a := a) (b := 6200) (by omega) (by omega)).mpr c2⟩ m8 a15' (done := i0 + 1) (by omega) (cc := cc) (fun i hi => ⟨(k3 i hi).2.2.1, (k3 i hi).2.2.2.2.2⟩) (i0 + 1) 0 (FU - (i0 + 1)) (by omega)
  rw [show FU - (i0 + 1) + (i0 + 1) = FU by omega, if_pos (show 0 < m' by omega)] at hsk
  have hch1 : f_X12_child (nI p) 0 μ1 = some (nI h', μ1) := by
    have hc0 := hch0
    unfold f_X12_child at hc0 ⊢
    rw [hQ1.x 33 _ (by decide), hQ1.x 39 _ (by decide)] at hc0
    rw [hQ2.x 33 _ (by decide), hQ2.x 39 _ (by decide)]
    have h3 := (gd_some (gd_some hc0).2).2
    have h4 : xA μ0 39 (xA μ0 33 (nI p) + 0) = nI h' := congrArg Prod.fst (Option.some.inj h3)
    rw [h4, k1, show (0 : Int32) = nI 0 from rfl, nI_plus, gdn c3 (by omega), gdn (by omega) (by omega)]
  obtain ⟨x3g, x47g, hg8, -⟩ := (hS.2.2.2.2 g gF).1
  have hk31 : xA μ0 31 (nI h') = 12 ∧ xA μ0 32 (nI h') = nI g := by
    obtain ⟨-, q', lo', hi', hx0, -, -⟩ := hNh
    rcases kd_f (hnv f hf) hx0 with ⟨r1, r2, g', r3, r4, r5⟩ | ⟨r1, r2⟩
    · have : g' = g := nI_injL (by omega) (by omega) (r4.symm.trans a14)
      subst this
      exact ⟨r2, r5⟩
    · exact absurd a13 r1
  have sub1 : nI (m' + 1) - 1 = nI m' := by
    rw [show (1 : Int32) = nI 1 from rfl, nI_sub (by omega)]
    rfl
  have e1 : f_X3_resume σ = bd (f_X3_workArguments_L35 FU (nI a) (nI (i0 + 1)) (nI g) (cc 0) (nI 0) σ1) (fun _ τ' => gle (gN σ1 1) (gN τ' 1) <| gle (gN σ1 3) (gN τ' 3) <| some ((), τ')) := by
    rw [(rs_hd h40 hpop (by omega) (by omega) (by omega)).2.2.2.2.1 rfl, show f_X3_push (gJ σ 5) (pI σ 40 (nI (t' + i0))) = some ((), σ1) from y1, bd_of, gl_e y6', gl_e (Nat.le_of_eq y7'.symm)]
    unfold f_X3_resume_b245 f_X3_resume_b254 f_X3_resume_b304 f_X3_workArguments
    rw [gdn c2 (by omega), hP2.x 16 _ (by decide), a16, gd6200 a16'.1 a16'.2, gd6200 a16'.1 a16'.2, hP2.x 14 _ (by decide), a14, hP2.x 17 _ (by decide), a17, nI_add1]
    rfl
  have e2 : f_X12_goOn μ = bd (f_X12_arguments_L33 FU (nI p) (nI g) (nI (pa g)) (nI m') (nI (i0 + 1)) μ1) (fun _ τ' => some ((), τ')) := by
    rw [(go_hd (kd := 6) h48 hW c6 (by omega) c3).2.2.2.2.2.2.1 rfl, show f_X12_push (gJ μ 1) (pI μ 48 (nI W')) = some ((), μ1) from y2, bd_of, c7 rfl, nI_add1]
    unfold f_X12_arguments
    rw [hch1, bd_of, gdn h7 (by omega), hQ2.x 32 _ (by decide), hk31.2, gdn (by omega) (by omega), gdn c3 (by omega), hQ2.x 47 _ (by decide), x47g, hQ2.x 34 _ (by decide), a34, sub1]
  rw [e1, e2]
  rw [show f_X3_workArguments_L35 FU (nI a) (nI (i0 + 1)) (nI g) (cc 0) (nI 0) σ1 = _ from hsk]
  exact hgo.g.up y6' (Nat.le_of_eq y7'.symm)
