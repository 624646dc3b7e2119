theorem gl_e {β : Type} {a b : Nat} (h : a ≤ b) {x : Option β} : gle a b x = x := if_pos h
/-- behind the left side: LEFT -/
theorem rs1 {τ μ0 : S5} {F k T : Nat} {pa nv D E : Nat → Nat} (hS : PSt τ μ0 F k T pa nv) {σs μs : S5} (hPs : eqP τ σs) (hQs : eqQ μ0 μs) {t0 : Nat} {σ μ : S5} {n : Nat} {tg ct : Nat → Nat} {a p i0 z0 : Nat} {K : List (Nat × Nat × Nat × Nat × Nat)} {t W V b f e r P R Z : Nat} (h : MSb τ μ0 F k T pa nv D E σs μs t0 σ μ n tg ct ((1, a, p, i0, z0) :: K) t W V b f e r P R) (hv : VL τ F pa n tg ct (gJ σ 5) (gJ μ 1)) (hZ : R ≤ Z + 1) : GOt τ μ0 F k T pa nv D E σs μs t0 Z σ (f_X3_resume σ) (f_X12_goOn μ) := by
  have hnv := hS.nv
  obtain ⟨t', W', V', ⟨⟨he, hf⟩, -, h5, -⟩, hm, hfq, hpop, h40, h48, hW⟩ := pop_go hnv h (show (1 : Nat) ≤ 6 by omega)
  obtain ⟨-, c2, c3, -, c5, c6, -, ⟨Sc, c8, c9⟩, c10, c11⟩ := h5 (show (1 : Nat) ≤ 5 by omega)
  dsimp only at c2 c3 c5 c6 c8 c9 c10 c11 hm hfq hpop
  have e0 : nvl 1 i0 = 0 := rfl
  rw [e0, Nat.add_zero] at hm hpop c5
  rw [c5, if_neg (show ¬ (1 : Nat) = 5 by omega)] at hpop
  have efp : fpF D μ0 (1, a, p, i0, z0) = 1 + sdN D μ0 p 1 := by
    unfold fpF
    dsimp only
    rw [if_pos rfl]
  have efq : fqF E μ0 (1, a, p, i0, z0) = 2 + (3 + sdN E μ0 p 1) := by
    unfold fqF
    dsimp only
    rw [if_pos rfl]
  rw [efp, efq] at hm
  rw [efq] at hfq
  have hk5 := c11.1 (Or.inl rfl)
  obtain ⟨cc, pp, ct0, -, e16, e17, ⟨x33, x14, hcn⟩, kids⟩ := sign_un hS c8 hk5
  obtain ⟨-, -, d03, -, -, -⟩ := kids 0 (by omega)
  obtain ⟨d1, d2, d3, d4, d5, d6⟩ := kids 1 (by omega)
  have sD := sdN_s D μ0 (p := p) (i := 1) (by omega)
  have sE := sdN_s E μ0 (p := p) (i := 1) (by omega)
  rw [d6] at sD sE
  obtain ⟨σ1, μ1, y1, y2, y3, y4, y5, y6, y7⟩ := pv_go hnv hm hv (P' := P + sdN D μ0 p 1) (by omega)
  obtain ⟨σ2, μ2, z1, z2, z3, z4, z5, z6, z7⟩ := fr_go hnv y3 (kd := 2) (a := a) (p := p) (i0 := 0) (by omega) rfl c2 c3 (by omega) he c8 (fun x hx => by
    rw [y4.2.2.2.1 13 (by decide), y5.2.2.2.1 9 (by decide)]
    exact c9 x hx) c10 ⟨fun _ => hk5, fun w => by omega, fun w => by omega, fun w => by omega⟩ (P' := D (pp 1)) (by
    show 0 + D (pp 1) ≤ _
    omega) (R' := R - (2 + (3 + sdN E μ0 p 1)) + 2) (by
    show _ + (2 + 0) ≤ _
    omega) 0 (fun w => by omega)
  rw [if_neg (show ¬ (2 : Nat) = 5 by omega)] at z1
  have y6' : gN σ 1 ≤ gN σ1 1 := y6
  have y7' : gN σ1 3 = gN σ 3 := y7
  have hP2 : eqP τ σ2 := hPs.fm z3.1.1
  have hQ2 : eqQ μ0 μ2 := hQs.fm z3.1.2.1
  refine wk_mk hnv z3 d1 (fun x hx => ?_) (by omega) (Nat.le_refl _) (Z := Z) (by omega) he (by omega) (by omega) ?_ ?_
  · rw [z4.2.2.2.1 13 (by decide), z5.2.2.2.1 9 (by decide), y4.2.2.2.1 13 (by decide), y5.2.2.2.1 9 (by decide)]
    exact c9 x hx
  · rw [(rs_hd h40 hpop (by omega) (by omega) (by omega)).1 rfl, show f_X3_push (gJ σ 5) (pI σ 40 (nI t')) = some ((), σ1) from y1, bd_of, gl_e y6', gl_e (Nat.le_of_eq y7'.symm)]
    unfold f_X3_resume_b100 f_X3_resume_b110 f_X3_resume_b304 f_X3_frame f_X3_workOn
    rw [bd_of, gq_r, gq_r, show (((j_lshl ((2 : Int32).toInt64) 56) ||| (j_lshl ((nI a).toInt64) 28)) ||| ((0 : Int32).toInt64)) = fr 2 a 0 from rfl, z1, bd_of, gl_e z6, gl_e (Nat.le_of_eq z7.symm), gdn c2 (by omega), hP2.x 16 _ (by decide), e16, gd6200 d03.1 d03.2, hP2.x 17 _ (by decide), e17, bd_of, gq_e (show gN (pI (pI σ2 44 (cc 1)) 45 1) 1 = gN σ2 1 from rfl), gq_e (show gN (pI (pI σ2 44 (cc 1)) 45 1) 3 = gN σ2 3 from rfl)]
  · rw [(go_hd (kd := 2) h48 hW c6 (by omega) c3).2.2.1 rfl, show f_X12_push (gJ μ 1) (pI μ 48 (nI W')) = some ((), μ1) from y2, bd_of, show f_X12_waits 3 (nI p) 0 μ1 = some ((), μ2) from z2, bd_of, show f_X12_child (nI p) 1 μ2 = some (nI (pp 1), μ2) from child_at hQ2 (i := 1) c3 x33 (by omega) d5, bd_of]
    rfl
/-- behind the right side: RIGHT -/
theorem rs2 {τ μ0 : S5} {F k T : Nat} {pa nv D E : Nat → Nat} (hS : PSt τ μ0 F k T pa nv) {σs μs : S5} (hPs : eqP τ σs) (hQs : eqQ μ0 μs) {t0 : Nat} {σ μ : S5} {n : Nat} {tg ct : Nat → Nat} {a p i0 z0 : Nat} {K : List (Nat × Nat × Nat × Nat × Nat)} {t W V b f e r P R Z : Nat} (h : MSb τ μ0 F k T pa nv D E σs μs t0 σ μ n tg ct ((2, a, p, i0, z0) :: K) t W V b f e r P R) (hv : VL τ F pa n tg ct (gJ σ 5) (gJ μ 1)) (hZ : R ≤ Z + 1) : GOt τ μ0 F k T pa nv D E σs μs t0 Z σ (f_X3_resume σ) (f_X12_goOn μ) := by
  have hnv := hS.nv
  obtain ⟨b1, b2, b3, b4, b5, b6, b7⟩ := h.bd
  obtain ⟨t', W', V', ⟨⟨he, hf⟩, hvs, h5, -⟩, hm, hfq, hpop, h40, h48, hW⟩ := pop_go hnv h (show (2 : Nat) ≤ 6 by omega)
  obtain ⟨-, c2, c3, -, c5, c6, -, ⟨Sc, c8, c9⟩, c10, c11⟩ := h5 (show (2 : Nat) ≤ 5 by omega)
  dsimp only at c2 c3 c5 c6 c8 c9 c10 c11 hm hfq hpop hvs
  have e0 : nvl 2 i0 = 1 := rfl
  rw [e0] at hm hpop c5 hvs
  rw [c5, if_neg (show ¬ (2 : Nat) = 5 by omega)] at hpop
  have hP' : eqP τ σ := hPs.fm h.1.1
  have hQ' : eqQ μ0 μ := hQs.fm h.1.2.1
  have efq : fqF E μ0 (2, a, p, i0, z0) = 2 + 0 := rfl
  rw [efq] at hm hfq
  obtain ⟨cc, pp, ct0, ⟨s31, s32, s14⟩, -⟩ := sign_un hS c8 (c11.1 (Or.inr rfl))
  have hv1 := hvs 0 (by omega)
  rw [Nat.add_zero, Nat.add_zero] at hv1
  have hd := hm.drop hnv
  obtain ⟨σ1, e1⟩ : ∃ z, z = pI (pI σ 40 (nI (t' + 1))) 40 (nI t') := ⟨_, rfl⟩
  obtain ⟨μ1, e2⟩ : ∃ z, z = pI (pI μ 48 (nI W')) 49 (nI V') := ⟨_, rfl⟩
  rw [← e1, ← e2] at hd
  have mV : gI μ 49 = nI (V' + 1) := hm.2.2.2.2.1.2.1
  have hC := hm.2.2.2.1
  have l1 : 512 ≤ gN σ 1 ∧ gN σ 1 ≤ 512 * 2 ^ 11 := hC.2.1.b
  have hl2 : t' + 1 ≤ gN σ 1 := hC.2.2.1
  have mv1 : gI μ 49 - 1 = nI V' := by
    rw [mV, show (1 : Int32) = nI 1 from rfl, nI_sub (by omega)]
    rfl
  have bV := hm.bd
  have pop2 : f_X3_pop (pI σ 40 (nI (t' + 1))) = some (gB σ 12 t', σ1) := by
    unfold f_X3_pop
    rw [if_pos (show 0 < gI (pI σ 40 (nI (t' + 1))) 40 from (nI_lt31 (a := 0) (b := t' + 1) (by omega) (by omega)).mpr (by omega)), show gI (pI σ 40 (nI (t' + 1))) 40 - 1 = nI t' from (by
      show nI (t' + 1) - nI 1 = _
      rw [nI_sub (by omega)]
      rfl), show gN (pI σ 40 (nI (t' + 1))) 1 = gN σ 1 from rfl, gdn (by omega) (by omega), xB_at (by omega), e1]
    rfl
  have hGE := oper_go hS hd.2.2.1.1 hd.2.2.1.2 hv1 hv s14
  have rc : ∀ τ' : S5, f_X3_operate (xA τ 14 (nI a)) (gB σ 12 t') (gJ σ 5) σ1 = some ((), τ') → gN τ' 1 = gN σ1 1 → gN τ' 3 = gN σ1 3 → f_X3_resume σ = some ((), τ') := by
    intro τ' w q1 q3
    rw [(rs_hd h40 hpop (by omega) (by omega) (by omega)).2.1 rfl, gdn c2 (by omega), pop2, bd_of, gq_e (by rw [e1]; rfl), gq_e (by rw [e1]; rfl), hP'.x 14 _ (by decide), show gJ σ1 5 = gJ σ 5 by rw [e1]; rfl, w, bd_of, gq_e q1, gq_e q3]
  have rm : ∀ ν : S5, f_X12_reckon (kMd (xA τ 14 (nI a))) (gB μ 8 V') (gJ μ 1) μ1 = some ((), ν) → f_X12_goOn μ = some ((), ν) := by
    intro ν w
    rw [(go_hd (kd := 3) h48 hW c6 (by omega) c3).2.2.2.1 rfl, mv1, gdn c3 (by omega), gdn (by omega) (by omega), hQ'.x 32 _ (by decide), s32, xB_at (by omega), ← e2, w, bd_of]
  have g1 : gN σ1 1 = gN σ 1 := by rw [e1]; rfl
  have g3 : gN σ1 3 = gN σ 3 := by rw [e1]; rfl
  rcases hGE with ⟨x, y, w1, w2, w3⟩ | ⟨σ2, μ2, w1, w2, w3, w4, w5⟩
  · exact gv_mk hnv hd w3 (Z := Z) (by omega) (Nat.le_of_eq g1.symm) (Nat.le_of_eq g3.symm) (rc _ w1 rfl rfl) (rm _ w2)
  · have q1 : gN σ2 1 = gN σ1 1 := congrFun w4.2.2.2.2 1
    have q3 : gN σ2 3 = gN σ1 3 := congrFun w4.2.2.2.2 3
    have hgo := ov_mk (τ := τ) (μ0 := μ0) (F := F) (k := k) (T := T) (pa := pa) (nv := nv) (D := D) (E := E) (t0 := t0) (Z := Z) hd.1.1 hd.1.2.1 w3 (hd.2.2.2.1.fk w4) w4.fm w5.fm ⟨Nat.le_of_eq q1.symm, Nat.le_of_eq q3.symm⟩ (rc _ w1 q1 q3) (rm _ w2)
    exact hgo.up (Nat.le_of_eq g1.symm) (Nat.le_of_eq g3.symm)
