theorem OV.wk {σ μ : S5} (h : OV σ μ) (c p : Int32) : OV (pI (pI σ 44 c) 45 1) (pI (pI μ 52 p) 53 0) := ⟨h.1.st (fun _ _ => rfl) rfl rfl (fun j w => by rw [gI_pI, if_neg (by omega), gI_pI, if_neg (by omega)]) (fun j w => by rw [gI_pI, if_neg (by omega), gI_pI, if_neg (by omega)]) rfl rfl, h.2⟩
theorem MC.wk {σ : S5} {t b f e : Nat} (h : MC σ t b f e) (c : Int32) : MC (pI (pI σ 44 c) 45 1) t b f e := h
theorem FmC.wk (σ : S5) (c v : Int32) : FmC σ (pI (pI σ 44 c) 45 v) := ⟨fun j w => by rw [gI_pI, if_neg (by omega), gI_pI, if_neg (by omega)], fun _ _ => rfl, fun _ _ => rfl, fun _ _ => rfl, fun _ _ _ => rfl⟩
theorem FmM.wk (μ : S5) (c v : Int32) : FmM μ (pI (pI μ 52 c) 53 v) := ⟨fun j w w' => by rw [gI_pI, if_neg (by omega), gI_pI, if_neg (by omega)], fun _ _ => rfl, fun _ _ => rfl, fun _ _ => rfl, rfl⟩
/-- both have ended, and take up the head all the same -/
theorem ov_app {τ : S5} {σ μ : S5} (hP : eqP τ σ) {t b f e W V : Nat} (hO : OV σ μ) (hC : MC σ t b f e) (hM : MM μ W V b e) (ht : t < 1048576) (hW : W < 202000) {c h : Int32} (hc : 0 ≤ c ∧ c < 6200) {m : Nat} (a15 : xA τ 15 c = nI m) (h' : Nat) : ∃ σ' μ', f_X3_workApplication_b103 c h σ = some ((), σ') ∧ f_X12_workApplication_b117 (nI h') (nI m) μ = some ((), μ') ∧ OV σ' μ' ∧ (∃ t', MC σ' t' b f e) ∧ FmC σ σ' ∧ FmM μ μ' ∧ (gN σ 1 ≤ gN σ' 1 ∧ gN σ 3 ≤ gN σ' 3) := by
  obtain ⟨ac, ac6, ace⟩ := c_nI hc
  have gc : ∀ {β : Type} (x : Option β), gd c 6200 x = x := fun x => by rw [ace]; exact gdn ac6 (by omega)
  obtain ⟨σ1, p1, p2, p3, p4, p5, p6, p7⟩ := push_c hC ht (fr 6 m 0)
  obtain ⟨μ1, q1, q2, q3, q4, q5, q6⟩ := wait_m hM hW 7 0 (nI m)
  have hO1 : OV σ1 μ1 := ⟨hO.1.st (fun x _ => congrFun (p3.2.2.1 40) x) (p3.2.2.1 41) (p3.2.2.1 42) (fun j w => p3.1 j (by omega)) (fun j w => q3.1 j (by omega)) (q3.2.2.1 57 (by decide)) (q3.2.2.1 58 (by decide)), by rw [q3.1 44 (by omega)]; exact hO.2⟩
  refine ⟨_, _, ?_, ?_, hO1.wk h (nI h'), ⟨t + 1, p2.wk h⟩, p3.fm.tr (FmC.wk _ _ _), q3.fm.tr (FmM.wk _ _ _), p6, Nat.le_of_eq p7.symm⟩
  · unfold f_X3_workApplication_b103 f_X3_workApplication_b122 f_X3_workApplication_b156 f_X3_frame f_X3_workOn
    rw [gc, hP.x 15 _ (by decide), a15, bd_of]
    unfold gq
    rw [if_pos rfl, if_pos rfl, show (((j_lshl ((6 : Int32).toInt64) 56) ||| (j_lshl ((nI m).toInt64) 28)) ||| ((0 : Int32).toInt64)) = fr 6 m 0 from rfl, p1, bd_of]
    unfold gle
    rw [if_pos p6, if_pos (Nat.le_of_eq p7.symm), bd_of, if_pos (show gN (pI (pI σ1 44 h) 45 1) 1 = gN σ1 1 from rfl), if_pos (show gN (pI (pI σ1 44 h) 45 1) 3 = gN σ1 3 from rfl)]
  · unfold f_X12_workApplication_b117 f_X12_evaluate
    rw [q1, bd_of, bd_of]
theorem la_ov {σ : S5} (h0 : ¬ xA σ 40 0 = 0) (c h v4 : Int32) {i : Nat} (hi : i < 10) {N : Nat} (hN : 0 < N) : f_X3_workApplication_L56 N c h (nI i) v4 σ = f_X3_workApplication_b103 c h σ := by
  obtain ⟨N, rfl⟩ : ∃ n, N = n + 1 := ⟨N - 1, by omega⟩
  show f_X3_workApplication_B56 _ _ _ _ _ _ = _
  unfold f_X3_workApplication_B56 f_X3_isOver
  rw [if_neg (show ¬ 10 ≤ nI i from fun w => absurd ((lp_le (a := 10) (by omega) (by omega)).mp w) (by omega)), if_neg h0, bd_of]
  unfold gq
  rw [if_pos rfl, if_pos rfl, if_neg (show ¬ (1 : Int32) = 0 by decide)]
  by_cases h2 : v4 = -1
  · rw [if_pos h2]
  · rw [if_neg h2]
theorem lm_ov {μ : S5} (h0 : ¬ gI μ 44 = 0) (v1 v2 v3 v5 : Int32) {N : Nat} (hN : 0 < N) : f_X12_workApplication_L81 N v1 v2 v3 v5 μ = f_X12_workApplication_b117 v2 v3 μ := by
  obtain ⟨N, rfl⟩ : ∃ n, N = n + 1 := ⟨N - 1, by omega⟩
  show f_X12_workApplication_B81 _ _ _ _ _ _ = _
  unfold f_X12_workApplication_B81
  rw [if_neg h0]
  by_cases h1 : v3 ≤ v5
  · rw [if_pos h1]
  · rw [if_neg h1]
/-- ALL ARGUMENTS ARE KEPT, and the head is taken up -/
theorem all_go {τ μ0 : S5} {F k T : Nat} {pa nv D E : Nat → Nat} (hS : PSt τ μ0 F k T pa nv) (hD : DSt τ μ0 F T pa nv D) (hE : ESt τ μ0 F T nv E) {σs μs : S5} (hPs : eqP τ σs) (hQs : eqQ μ0 μs) {t0 : Nat} {K : List (Nat × Nat × Nat × Nat × Nat)} {t W V b f e r : Nat} (hf : f < F) (he : e = b + nv f) {c : Int32} {p m : Nat} {h : Int32} {h' : Nat} {cc : Nat → Int32} {pp : Nat → Nat} {Sc : Nat → Prop} (hN : ND τ μ0 F T nv f c p Sc) (hA : ApN τ μ0 F T nv f c p m h cc pp Sc) (hr : hF τ c ≤ r) (hNh : ND τ μ0 F T nv f h h' Sc) (hFh : hF τ h < hF τ c) : ∀ (q d N N' : Nat) (σ μ : S5) (n : Nat) (tg ct : Nat → Nat) (P R Z : Nat), d + q = m → q < N → q < N' → MSv τ μ0 F k T pa nv D E σs μs t0 σ μ n tg ct K t W V b f e r P R d → (∀ x, Sc x → VL τ F pa n tg ct (gB σ 13 (b + x)) (gB μ 9 (b + x))) → q + sdN D μ0 p (1 + d) + D h' ≤ P → R + 3 + sdN E μ0 p (1 + d) + E h' ≤ Z → GOt τ μ0 F k T pa nv D E σs μs t0 Z σ (f_X3_workApplication_L56 N c h (nI d) (if d < m then cc d else -1) σ) (f_X12_workApplication_L81 N' (nI p) (nI h') (nI m) (nI d) μ) := by
  have hnv := hS.nv
  have hvf := hnv f hf
  obtain ⟨hp7, hc⟩ := hN.p7 hvf
  obtain ⟨ac, ac6, ace⟩ := c_nI hc
  have gc : ∀ {β : Type} (x : Option β), gd c 6200 x = x := fun x => by rw [ace]; exact gdn ac6 (by omega)
  obtain ⟨⟨m1, m8⟩, ⟨a15, a34⟩, ⟨a16, a16', a17⟩, ctk, k1, k2, k3⟩ := id hA
  obtain ⟨r', rfl⟩ : ∃ r', r = r' + 1 := ⟨r - 1, by omega⟩
  intro q
  induction q with
  | zero =>
    intro d N N' σ μ n tg ct P R Z hd hN1 hN2 hm hgd hP hZ
    obtain rfl : d = m := by omega
    obtain ⟨N, rfl⟩ : ∃ n, N = n + 1 := ⟨N - 1, by omega⟩
    obtain ⟨N', rfl⟩ : ∃ n, N' = n + 1 := ⟨N' - 1, by omega⟩
    have hP' : eqP τ σ := hPs.fm hm.1.1
    obtain ⟨σ1, μ1, y1, y2, y3, y4, y5, y6, y7⟩ := fr6_go hnv hm m1 m8 (R' := R + 2) (Nat.le_refl _) hf he
    refine wk_mk hnv y3 hNh (fun x hx => ?_) (by omega) (by omega) (Z := Z) (by omega) he y6 (Nat.le_of_eq y7.symm) ?_ ?_
    · rw [y4.2.2.2.1 13 (by decide), y5.2.2.2.1 9 (by decide)]
      exact hgd x hx
    · show f_X3_workApplication_B56 _ _ _ _ _ _ = _
      unfold f_X3_workApplication_B56 f_X3_workApplication_b103 f_X3_workApplication_b122 f_X3_workApplication_b156 f_X3_frame f_X3_workOn
      rw [if_neg (show ¬ 10 ≤ nI d from fun w => absurd ((lp_le (a := 10) (by omega) (by omega)).mp w) (by omega)), if_neg (Nat.lt_irrefl d), if_pos rfl, gc, hP'.x 15 _ (by decide), a15, bd_of]
      unfold gq
      rw [if_pos rfl, if_pos rfl, show (((j_lshl ((6 : Int32).toInt64) 56) ||| (j_lshl ((nI d).toInt64) 28)) ||| ((0 : Int32).toInt64)) = fr 6 d 0 from rfl, y1, bd_of]
      unfold gle
      rw [if_pos y6, if_pos (Nat.le_of_eq y7.symm), bd_of, if_pos (show gN (pI (pI σ1 44 h) 45 1) 1 = gN σ1 1 from rfl), if_pos (show gN (pI (pI σ1 44 h) 45 1) 3 = gN σ1 3 from rfl)]
    · show f_X12_workApplication_B81 _ _ _ _ _ _ = _
      unfold f_X12_workApplication_B81 f_X12_workApplication_b117 f_X12_evaluate
      rw [if_pos ((lp_le (by omega) (by omega)).mpr (Nat.le_refl _)), y2, bd_of, bd_of]
  | succ q ih =>
    intro d N N' σ μ n tg ct P R Z hd hN1 hN2 hm hgd hP hZ
    have hdm : d < m := by omega
    obtain ⟨N, rfl⟩ : ∃ n, N = n + 1 := ⟨N - 1, by omega⟩
    obtain ⟨N', rfl⟩ : ∃ n, N' = n + 1 := ⟨N' - 1, by omega⟩
    rw [if_pos hdm]
    have hP' : eqP τ σ := hPs.fm hm.1.1
    have hQ' : eqQ μ0 μ := hQs.fm hm.1.2.1
    have h44 := hm.2.2.1.2
    have h00 : xA σ 40 0 = 0 := hm.2.2.1.1.1.1.trans h44
    obtain ⟨kd1, kd2, kd3, kd4, kd5, kd6⟩ := k3 d hdm
    have sD := hA.sd D hdm
    have sE := hA.sd E hdm
    have ngd : ¬ nI m ≤ nI d := fun w => absurd ((lp_le (by omega) (by omega)).mp w) (by omega)
    have ng10 : ¬ 10 ≤ nI d := fun w => absurd ((lp_le (a := 10) (by omega) (by omega)).mp w) (by omega)
    obtain ⟨b1, b2, b3, b4, b5, b6, b7, b8⟩ := hm.bd
    obtain ⟨ad, ad6, ade⟩ := c_nI kd3
    have gcd : ∀ {β : Type} (x : Option β), gd (cc d) 6200 x = x := fun x => by rw [ade]; exact gdn ad6 (by omega)
    rcases kpm_go hS hD.z hE.z hPs hQs hm he kd1 hgd (P' := P - D (pp d)) (R' := R + E (pp d)) (by omega) (Nat.le_refl _) with ⟨x, y, σ1, μ1, n1, tg1, ct1, w1, w2, w3, w4, w5, w6, w7⟩ | ⟨x, y, σ1, μ1, w1, w2, w3, w4, w5⟩
    · obtain ⟨σ2, μ2, z1, z2, z3, z4, z5, z6, z7⟩ := pv_go hnv w4 w3 (P' := P - D (pp d) - 1) (by omega)
      have q1 : gN σ1 1 = gN σ 1 := congrFun w6.2.2.2.2 1
      have q3 : gN σ1 3 = gN σ 3 := congrFun w6.2.2.2.2 3
      have hgo := ih (d + 1) N N' σ2 μ2 n1 tg1 ct1 (P - D (pp d) - 1) (R + E (pp d)) Z (by omega) (by omega) (by omega) z3 (fun x hx => by
        rw [z4.2.2.2.1 13 (by decide), z5.2.2.2.1 9 (by decide), w6.2.2.2.1 13 (by decide), w7.2.2.2.1 9 (by decide)]
        exact (hgd x hx).gr w5) (by omega) (by omega)
      have hP2 : eqP τ σ2 := hPs.fm z3.1.1
      have e1 : f_X3_workApplication_L56 (N + 1) c h (nI d) (cc d) σ = f_X3_workApplication_L56 N c h (nI (d + 1)) (if d + 1 < m then cc (d + 1) else -1) σ2 := by
        show f_X3_workApplication_B56 _ _ _ _ _ _ = _
        unfold f_X3_workApplication_B56 f_X3_isOver f_X3_workApplication_b85
        rw [if_neg ng10, if_neg (nneg1 kd3.1), if_pos h00, bd_of]
        unfold gq
        rw [if_pos rfl, if_pos rfl, if_pos rfl, w1, bd_of, if_pos q1, if_pos q3, z1, bd_of]
        unfold gle
        rw [if_pos z6, if_pos (Nat.le_of_eq z7.symm), gcd, hP2.x 17 _ (by decide), kd6, nI_add1]
      have e2 : f_X12_workApplication_L81 (N' + 1) (nI p) (nI h') (nI m) (nI d) μ = f_X12_workApplication_L81 N' (nI p) (nI h') (nI m) (nI (d + 1)) μ2 := by
        show f_X12_workApplication_B81 _ _ _ _ _ _ = _
        unfold f_X12_workApplication_B81
        rw [if_neg ngd, if_pos h44, hA.ch hp7 hQ' hdm, bd_of, w2, bd_of, z2, bd_of, nI_add1]
      rw [e1, e2]
      exact hgo.up (by omega) (by omega)
    · obtain ⟨σ2, μ2, z1, z2, z3, z4, z5, z6, z7, z8⟩ := ov_push w3 (hm.2.2.2.1.fk w4) (hm.2.2.2.2.1.fk w5) (by omega) (by omega) x y
      have q1 : gN σ1 1 = gN σ 1 := congrFun w4.2.2.2.2 1
      have q3 : gN σ1 3 = gN σ 3 := congrFun w4.2.2.2.2 3
      obtain ⟨σ3, μ3, u1, u2, u3, ⟨t', u4⟩, u5, u6, u7, u8⟩ := ov_app (τ := τ) (h := h) (hPs.fm (hm.1.1.tr (w4.fm.tr z6))) z3 z4 z5 (by omega) (by omega) hc a15 h'
      refine ov_mk hm.1.1 hm.1.2.1 u3 u4 ((w4.fm.tr z6).tr u5) ((w5.fm.tr z7).tr u6) ⟨by omega, by omega⟩ ?_ ?_
      · show f_X3_workApplication_B56 _ _ _ _ _ _ = _
        unfold f_X3_workApplication_B56 f_X3_isOver f_X3_workApplication_b85
        rw [if_neg ng10, if_neg (nneg1 kd3.1), if_pos h00, bd_of]
        unfold gq
        rw [if_pos rfl, if_pos rfl, if_pos rfl, w1, bd_of, if_pos q1, if_pos q3, z1, bd_of]
        unfold gle
        rw [if_pos z8.1, if_pos z8.2, gcd, nI_add1, la_ov z3.c _ _ _ (by omega) (by omega)]
        exact u1
      · show f_X12_workApplication_B81 _ _ _ _ _ _ = _
        unfold f_X12_workApplication_B81
        rw [if_neg ngd, if_pos h44, hA.ch hp7 hQ' hdm, bd_of, w2, bd_of, z2, bd_of, lm_ov z3.2 _ _ _ _ (by omega)]
        exact u2
