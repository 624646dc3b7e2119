/-- an application, on both sides -/
def ApN (τ μ0 : S5) (F T : Nat) (nv : Nat → Nat) (f : Nat) (c : Int32) (p m : Nat) (h : Int32) (cc : Nat → Int32) (pp : Nat → Nat) (Sc : Nat → Prop) : Prop := (1 ≤ m ∧ m ≤ 8) ∧ (xA τ 15 c = nI m ∧ xA μ0 34 (nI p) = nI (m + 1)) ∧ (xA τ 16 c = h ∧ (0 ≤ h ∧ h < 6200) ∧ xA τ 17 h = cc 0) ∧ KdB τ μ0 F T nv f c p 1 m Sc cc pp
theorem ApN.ch {τ μ0 : S5} {F T : Nat} {nv : Nat → Nat} {f : Nat} {c : Int32} {p m : Nat} {h : Int32} {cc : Nat → Int32} {pp : Nat → Nat} {Sc : Nat → Prop} (hA : ApN τ μ0 F T nv f c p m h cc pp Sc) (hp : p < 7000) {μ : S5} (hQ : eqQ μ0 μ) {d : Nat} (hd : d < m) : f_X12_child (nI p) (1 + nI d) μ = some (nI (pp d), μ) := by
  obtain ⟨⟨m1, m8⟩, -, -, ct, k1, k2, k3⟩ := hA
  obtain ⟨-, -, -, -, k4, -⟩ := k3 d hd
  unfold f_X12_child
  rw [gdn hp (by omega), hQ.x 33 _ (by decide), k1, show (1 : Int32) = nI 1 from rfl, nI_plus, nI_plus, gdn (by omega) (by omega), hQ.x 39 _ (by decide), ← Nat.add_assoc, k4]
theorem ApN.cn {τ μ0 : S5} {F T : Nat} {nv : Nat → Nat} {f : Nat} {c : Int32} {p m : Nat} {h : Int32} {cc : Nat → Int32} {pp : Nat → Nat} {Sc : Nat → Prop} (hA : ApN τ μ0 F T nv f c p m h cc pp Sc) : cnN μ0 p = m + 1 := by
  obtain ⟨⟨m1, m8⟩, ⟨-, k4⟩, -⟩ := hA
  unfold cnN
  rw [k4, nI_clamp (by omega)]
theorem ApN.sd {τ μ0 : S5} {F T : Nat} {nv : Nat → Nat} {f : Nat} {c : Int32} {p m : Nat} {h : Int32} {cc : Nat → Int32} {pp : Nat → Nat} {Sc : Nat → Prop} (hA : ApN τ μ0 F T nv f c p m h cc pp Sc) (D : Nat → Nat) {d : Nat} (hd : d < m) : sdN D μ0 p (1 + d) = D (pp d) + sdN D μ0 p (1 + (d + 1)) := by
  have hc := hA.cn
  obtain ⟨⟨m1, m8⟩, -, -, ct, k1, k2, k3⟩ := hA
  obtain ⟨-, -, -, k5, k4, -⟩ := k3 d hd
  rw [sdN_s D μ0 (i := 1 + d) (by omega), chN_of (ct := ct) (i := 1 + d) k1 (by rw [← Nat.add_assoc]; exact k4) k5]
  rfl
/-- what functions need, on both sides -/
def NDb (τ μ0 : S5) (F : Nat) (pa : Nat → Nat) : Prop := ∀ g j, g < F → j < pa g → ((j_iushr (xA τ 12 (nI g)) (nI j)) &&& 1 = 0 ↔ xA μ0 52 (nI (8 * g + j)) = 0)
theorem wa_ov {σ : S5} (h0 : ¬ xA σ 40 0 = 0) {c : Int32} (hc : 0 ≤ c ∧ c < 6200) (v2 v4 v5 v6 : Int32) {N : Nat} (hN : 0 < N) : f_X3_workArguments_L35 N c v2 v4 v5 v6 σ = some ((), σ) := by
  obtain ⟨N, rfl⟩ : ∃ n, N = n + 1 := ⟨N - 1, by omega⟩
  obtain ⟨ac, ac6, ace⟩ := c_nI hc
  have gc : ∀ {β : Type} (x : Option β), gd c 6200 x = x := fun x => by rw [ace]; exact gdn ac6 (by omega)
  have e1 : f_X3_workArguments_b161 c v4 σ = some ((), σ) := by
    unfold f_X3_workArguments_b161 f_X3_workArguments_b184 f_X3_isOver
    rw [if_neg h0, bd_of]
    unfold gq
    rw [if_pos rfl, if_pos rfl, if_neg (show ¬ (1 : Int32) = 0 by decide)]
  show f_X3_workArguments_B35 _ _ _ _ _ _ _ = _
  unfold f_X3_workArguments_B35 f_X3_isOver
  rw [gc, e1, if_neg h0, bd_of]
  unfold gq
  rw [if_pos rfl, if_pos rfl, if_neg (show ¬ (1 : Int32) = 0 by decide)]
  by_cases h1 : xA σ 15 c ≤ v6
  · rw [if_pos h1]
  · rw [if_neg h1]
    by_cases h2 : v5 = -1
    · rw [if_pos h2]
    · rw [if_neg h2]
      exact e1
theorem am_ov {μ : S5} (h0 : ¬ gI μ 44 = 0) (v1 v3 v4 v5 v6 : Int32) {N : Nat} (hN : 0 < N) : f_X12_arguments_L33 N v1 v3 v4 v5 v6 μ = some ((), μ) := by
  obtain ⟨N, rfl⟩ : ∃ n, N = n + 1 := ⟨N - 1, by omega⟩
  show f_X12_arguments_B33 _ _ _ _ _ _ _ = _
  unfold f_X12_arguments_B33 f_X12_arguments_b132
  rw [if_neg h0, if_neg h0]
  by_cases h1 : v5 ≤ v6
  · rw [if_pos h1]
  · rw [if_neg h1]
/-- ARGUMENTS ARE KEPT OR WORKED OUT, one behind the other, and the function is called -/
theorem ar_go {τ μ0 : S5} {F k T : Nat} {pa nv D E : Nat → Nat} (hS : PSt τ μ0 F k T pa nv) (hD : DSt τ μ0 F T pa nv D) (hE : ESt τ μ0 F T nv E) (hB : NDb τ μ0 F pa) {σs μs : S5} (hPs : eqP τ σs) (hQs : eqQ μ0 μs) {t0 : Nat} {K : List (Nat × Nat × Nat × Nat × Nat)} {t W V b f e r done : Nat} (hf : f < F) (he : e = b + nv f) {c : Int32} {p m : Nat} {h : Int32} {cc : Nat → Int32} {pp : Nat → Nat} {Sc : Nat → Prop} (hN : ND τ μ0 F T nv f c p Sc) (hk8 : xA τ 13 c = 8) (hA : ApN τ μ0 F T nv f c p m h cc pp Sc) (hr : hF τ c ≤ r) {g : Nat} (hAp : g < F ∧ 1 ≤ pa g ∧ pa g ≤ m ∧ xA τ 13 h = 2 ∧ xA τ 14 h = nI g) : ∀ (q d N N' : Nat) (σ μ : S5) (n : Nat) (tg ct : Nat → Nat) (P R Z : Nat), d + q = m → q < N → q < N' → done ≤ d → MSv τ μ0 F k T pa nv D E σs μs t0 σ μ n tg ct K t W V b f e r P R d → (∀ x, Sc x → VL τ F pa n tg ct (gB σ 13 (b + x)) (gB μ 9 (b + x))) → q + sdN D μ0 p (1 + d) ≤ P → R + 4 + 2 * q + sdN E μ0 p (1 + d) ≤ Z → GOt τ μ0 F k T pa nv D E σs μs t0 Z σ (f_X3_workArguments_L35 N c (nI done) (nI g) (if d < m then cc d else -1) (nI d) σ) (f_X12_arguments_L33 N' (nI p) (nI g) (nI (pa g)) (nI m) (nI d) μ) := by
  have hnv := hS.nv
  have hvf := hnv f hf
  obtain ⟨hp7, hc⟩ := hN.p7 hvf
  obtain ⟨ac, ac6, ace⟩ := c_nI hc
  have gc : ∀ {β : Type} (x : Option β), gd c 6200 x = x := fun x => by rw [ace]; exact gdn ac6 (by omega)
  obtain ⟨g1, g2, g3, g4, g5⟩ := hAp
  have hF6 := hS.1.1
  obtain ⟨x3g, -, hg8, -⟩ := (hS.2.2.2.2 g g1).1
  obtain ⟨⟨m1, m8⟩, ⟨a15, a34⟩, ⟨a16, a16', a17⟩, ctk, k1, k2, k3⟩ := id hA
  have r1 : 1 ≤ r := by
    have := (k3 0 (by omega)).2.1
    omega
  have hcn := hA.cn
  intro q
  induction q with
  | zero =>
    intro d N N' σ μ n tg ct P R Z hd hN1 hN2 hdn hm hgd hP hZ
    obtain rfl : d = m := by omega
    obtain ⟨N, rfl⟩ : ∃ n, N = n + 1 := ⟨N - 1, by omega⟩
    obtain ⟨N', rfl⟩ : ∃ n, N' = n + 1 := ⟨N' - 1, by omega⟩
    have hP' : eqP τ σ := hPs.fm hm.1.1
    have h00 : xA σ 40 0 = 0 := hm.2.2.1.1.1.1.trans hm.2.2.1.2
    have hgo := cll_go hS hD hE hPs hQs hm hf he r1 (g := g) (had := 0) (v2 := -1) (v3 := -1) g1 (by omega) m8 (by omega) (Or.inl ⟨rfl, rfl, rfl⟩) (Z := Z) (by omega)
    have e1 : f_X3_workArguments_L35 (N + 1) c (nI done) (nI g) (if d < d then cc d else -1) (nI d) σ = bd (f_X3_enterCall (nI g) (-1) (nI d) σ) (fun _ τ' => gle (gN σ 1) (gN τ' 1) <| gle (gN σ 3) (gN τ' 3) <| some ((), τ')) := by
      show f_X3_workArguments_B35 _ _ _ _ _ _ _ = _
      unfold f_X3_workArguments_B35 f_X3_workArguments_b161 f_X3_workArguments_b184 f_X3_isOver
      rw [gc, hP'.x 15 _ (by decide), a15, if_pos ((lp_le (by omega) (by omega)).mpr (Nat.le_refl _)), if_pos h00, bd_of]
      unfold gq
      rw [if_pos rfl, if_pos rfl, if_pos rfl, gc, hP'.x 15 _ (by decide), a15]
    have e2 : f_X12_arguments_L33 (N' + 1) (nI p) (nI g) (nI (pa g)) (nI d) (nI d) μ = bd (f_X12_call (nI g) (-1) (nI d) μ) (fun _ τ' => some ((), τ')) := by
      show f_X12_arguments_B33 _ _ _ _ _ _ _ = _
      unfold f_X12_arguments_B33 f_X12_arguments_b132
      rw [if_pos ((lp_le (by omega) (by omega)).mpr (Nat.le_refl _)), if_pos hm.2.2.1.2]
    rw [e1, e2]
    exact hgo.g
  | succ q ih =>
    intro d N N' σ μ n tg ct P R Z hd hN1 hN2 hdn hm hgd hP hZ
    have hdm : d < m := by omega
    obtain ⟨N, rfl⟩ : ∃ n, N = n + 1 := ⟨N - 1, by omega⟩
    obtain ⟨N', rfl⟩ : ∃ n, N' = n + 1 := ⟨N' - 1, by omega⟩
    rw [if_pos hdm]
    have hP' : eqP τ σ := hPs.fm hm.1.1
    have hQ' : eqQ μ0 μ := hQs.fm hm.1.2.1
    have h44 := hm.2.2.1.2
    have h00 : xA σ 40 0 = 0 := hm.2.2.1.1.1.1.trans h44
    have hea : gI σ 46 = gI μ 47 := hm.2.2.1.1.2.2.2.2
    obtain ⟨kd1, kd2, kd3, kd4, kd5, kd6⟩ := k3 d hdm
    have sD := hA.sd D hdm
    have sE := hA.sd E hdm
    have e8 : 8 * nI g + nI d = nI (8 * g + d) := by rw [nI_x8, nI_plus]
    have ngd : ¬ nI m ≤ nI d := fun w => absurd ((lp_le (by omega) (by omega)).mp w) (by omega)
    have ndd : ¬ nI d < nI done := fun w => absurd ((nI_lt31 (by omega) (by omega)).mp w) (by omega)
    obtain ⟨b1, b2, b3, b4, b5, b6, b7, b8⟩ := hm.bd
    by_cases hq : (gI σ 46 = 0 ∨ pa g ≤ d) ∨ xA μ0 52 (nI (8 * g + d)) = 0
    · have e1 : f_X3_workArguments_L35 (N + 1) c (nI done) (nI g) (cc d) (nI d) σ = f_X3_workArguments_b133 (f_X3_workArguments_L35 N) c (nI done) (nI g) (cc d) (nI d) σ := by
        show f_X3_workArguments_B35 _ _ _ _ _ _ _ = _
        unfold f_X3_workArguments_B35 f_X3_isOver
        rw [gc, hP'.x 15 _ (by decide), a15, if_neg ngd, if_neg (nneg1 kd3.1), if_pos h00, bd_of]
        unfold gq
        rw [if_pos rfl, if_pos rfl, if_pos rfl, if_neg ndd]
        by_cases hz : gI σ 46 = 0
        · rw [if_pos hz]
        · rw [if_neg hz, gdn (by omega) (by omega), hP'.x 3 _ (by decide), x3g]
          by_cases hpd : pa g ≤ d
          · rw [if_pos ((lp_le (by omega) (by omega)).mpr hpd)]
          · have hz0 : xA μ0 52 (nI (8 * g + d)) = 0 := by
              rcases hq with (w | w) | w
              · exact absurd w hz
              · exact absurd w hpd
              · exact w
            unfold f_X4_needsParameter_K
            rw [if_neg (fun w => hpd ((lp_le (by omega) (by omega)).mp w)), gdn (by omega) (by omega), hP'.x 12 _ (by decide), if_pos ((hB g d g1 (by omega)).mpr hz0), bd_of, if_pos rfl, if_pos rfl, if_pos rfl]
      have e2 : f_X12_arguments_L33 (N' + 1) (nI p) (nI g) (nI (pa g)) (nI m) (nI d) μ = f_X12_arguments_b109 (f_X12_arguments_L33 N') (nI p) (nI g) (nI (pa g)) (nI m) (nI d) μ := by
        show f_X12_arguments_B33 _ _ _ _ _ _ _ = _
        unfold f_X12_arguments_B33
        rw [if_neg ngd, if_pos h44]
        by_cases hpd : pa g ≤ d
        · rw [if_pos ((lp_le (by omega) (by omega)).mpr hpd)]
        · rw [if_neg (fun w => hpd ((lp_le (by omega) (by omega)).mp w))]
          by_cases hz : gI μ 47 = 0
          · rw [if_pos hz]
          · have hz0 : xA μ0 52 (nI (8 * g + d)) = 0 := by
              rcases hq with (w | w) | w
              · exact absurd (hea.symm.trans w) hz
              · exact absurd w hpd
              · exact w
            rw [if_neg hz, e8, gdn (by omega) (by omega), hQ'.x 52 _ (by decide), if_pos hz0]
      rcases kpm_go hS hD.z hE.z hPs hQs hm he kd1 hgd (P' := P - D (pp d)) (R' := R + E (pp d)) (by omega) (Nat.le_refl _) with ⟨x, y, σ1, μ1, n1, tg1, ct1, w1, w2, w3, w4, w5, w6, w7⟩ | ⟨x, y, σ1, μ1, w1, w2, w3, w4, w5⟩
      · obtain ⟨σ2, μ2, z1, z2, z3, z4, z5, z6, z7⟩ := pv_go hnv w4 w3 (P' := P - D (pp d) - 1) (by omega)
        have q1 : gN σ1 1 = gN σ 1 := congrFun w6.2.2.2.2 1
        have q3 : gN σ1 3 = gN σ 3 := congrFun w6.2.2.2.2 3
        have hgo := ih (d + 1) N N' σ2 μ2 n1 tg1 ct1 (P - D (pp d) - 1) (R + E (pp d)) Z (by omega) (by omega) (by omega) (by omega) z3 (fun x hx => by
          rw [z4.2.2.2.1 13 (by decide), z5.2.2.2.1 9 (by decide), w6.2.2.2.1 13 (by decide), w7.2.2.2.1 9 (by decide)]
          exact (hgd x hx).gr w5) (by omega) (by omega)
        have hP2 : eqP τ σ2 := hPs.fm z3.1.1
        obtain ⟨ad, ad6, ade⟩ := c_nI kd3
        have gcd : ∀ {β : Type} (x : Option β), gd (cc d) 6200 x = x := fun x => by rw [ade]; exact gdn ad6 (by omega)
        rw [e1, e2]
        unfold f_X3_workArguments_b133 f_X3_workArguments_b143 f_X12_arguments_b109
        rw [w1, bd_of, hA.ch hp7 hQ' hdm, bd_of, w2, bd_of, z2, bd_of]
        unfold gq gle
        rw [if_pos q1, if_pos q3, z1, bd_of, if_pos z6, if_pos (Nat.le_of_eq z7.symm), gcd, hP2.x 17 _ (by decide), kd6, nI_add1]
        exact hgo.up (by omega) (by omega)
      · obtain ⟨σ2, μ2, z1, z2, z3, z4, z5, z6, z7, z8⟩ := ov_push w3 (hm.2.2.2.1.fk w4) (hm.2.2.2.2.1.fk w5) (by omega) (by omega) x y
        have q1 : gN σ1 1 = gN σ 1 := congrFun w4.2.2.2.2 1
        have q3 : gN σ1 3 = gN σ 3 := congrFun w4.2.2.2.2 3
        obtain ⟨ad, ad6, ade⟩ := c_nI kd3
        have gcd : ∀ {β : Type} (x : Option β), gd (cc d) 6200 x = x := fun x => by rw [ade]; exact gdn ad6 (by omega)
        refine ov_mk hm.1.1 hm.1.2.1 z3 z4 (w4.fm.tr z6) (w5.fm.tr z7) ⟨by omega, by omega⟩ ?_ ?_
        · rw [e1]
          unfold f_X3_workArguments_b133 f_X3_workArguments_b143
          rw [w1, bd_of]
          unfold gq gle
          rw [if_pos q1, if_pos q3, z1, bd_of, if_pos z8.1, if_pos z8.2, gcd]
          exact wa_ov z3.c hc _ _ _ _ (by omega)
        · rw [e2]
          unfold f_X12_arguments_b109
          rw [hA.ch hp7 hQ' hdm, bd_of, w2, bd_of, z2, bd_of]
          exact am_ov z3.2 _ _ _ _ _ (by omega)
    · have hz : ¬ gI σ 46 = 0 := fun w => hq (Or.inl (Or.inl w))
      have hpd : ¬ pa g ≤ d := fun w => hq (Or.inl (Or.inr w))
      have hz0 : ¬ xA μ0 52 (nI (8 * g + d)) = 0 := fun w => hq (Or.inr w)
      obtain ⟨r', rfl⟩ : ∃ r', r = r' + 1 := ⟨r - 1, by omega⟩
      have hma := hm.ao hnv
      have ef : ∀ G : Nat → Nat, fpF G μ0 (5, ac, p, d, 0) = (m - d) + sdN G μ0 p (1 + (d + 1)) := fun G => by
        unfold fpF
        dsimp only
        rw [if_neg (by decide), if_neg (by decide), if_pos rfl, hcn, show m + 1 - 1 - d = m - d by omega, show d + 2 = 1 + (d + 1) by omega]
      have eq : fqF E μ0 (5, ac, p, d, 0) = 3 + 2 * (m - d) + sdN E μ0 p (1 + (d + 1)) := by
        unfold fqF
        dsimp only
        rw [if_neg (by decide), if_neg (by decide), if_pos rfl, hcn, show m + 1 - 1 - d = m - d by omega, show d + 2 = 1 + (d + 1) by omega]
        omega
      have hnl : nvl 5 d = d := by unfold nvl; rw [if_neg (by omega), if_pos (Or.inl rfl)]
      have efd := ef D
      obtain ⟨σ1, μ1, y1, y2, y3, y4, y5, y6, y7⟩ := fr_go hnv hma (kd := 5) (a := ac) (p := p) (i0 := d) (by omega) hnl ac6 hp7 (by omega) he (Sc := Sc) (by rw [← ace]; exact hN) hgd (by rw [← ace]; exact hr) ⟨fun w => by omega, fun w => by omega, fun w => by omega, fun _ => ⟨by rw [← ace]; exact hk8, m, g, ⟨m8, by rw [← ace]; exact a15, g1, g2, g3, by rw [← ace, a16]; exact g4, by rw [← ace, a16]; exact g5⟩, hdm⟩⟩ (P' := D (pp d)) (by omega) (R' := R + (3 + 2 * (m - d) + sdN E μ0 p (1 + (d + 1)))) (by omega) (nI d) (fun _ => rfl)
      rw [if_pos rfl] at y1
      have y1' : f_X3_push (fr 5 ac d) (pA σ 40 8 ((xA σ 40 8) + 1)) = some ((), σ1) := y1
      have y2' : f_X12_waits 6 (nI p) (nI d) (pI μ 43 ((gI μ 43) + 1)) = some ((), μ1) := y2
      have y6' : gN σ 1 ≤ gN σ1 1 := y6
      have y7' : gN σ1 3 = gN σ 3 := y7
      refine wk_mk hnv y3 kd1 (fun x hx => ?_) (by omega) (Nat.le_refl _) (by omega) he y6' (Nat.le_of_eq y7'.symm) ?_ ?_
      · rw [y4.2.2.2.1 13 (by decide), y5.2.2.2.1 9 (by decide)]
        exact hgd x hx
      · show f_X3_workArguments_B35 _ _ _ _ _ _ _ = _
        unfold f_X3_workArguments_B35 f_X3_isOver
        rw [gc, hP'.x 15 _ (by decide), a15, if_neg ngd, if_neg (nneg1 kd3.1), if_pos h00, bd_of]
        unfold gq
        rw [if_pos rfl, if_pos rfl, if_pos rfl, if_neg ndd, if_neg hz, gdn (by omega) (by omega), hP'.x 3 _ (by decide), x3g, if_neg (fun w => hpd ((lp_le (by omega) (by omega)).mp w))]
        unfold f_X4_needsParameter_K f_X3_frame f_X3_workArguments_b126 f_X3_workOn
        rw [gdn (by omega) (by omega), hP'.x 12 _ (by decide), if_neg (fun w => hz0 ((hB g d g1 (by omega)).mp w)), bd_of, if_pos rfl, if_pos rfl, if_neg (by decide), bd_of, if_pos (show gN (pA σ 40 8 ((xA σ 40 8) + 1)) 1 = gN σ 1 from rfl), if_pos (show gN (pA σ 40 8 ((xA σ 40 8) + 1)) 3 = gN σ 3 from rfl)]
        rw [show (((j_lshl ((5 : Int32).toInt64) 56) ||| (j_lshl (c.toInt64) 28)) ||| ((nI d).toInt64)) = fr 5 ac d by rw [ace]; rfl, y1', bd_of]
        unfold gle
        rw [if_pos y6, if_pos (Nat.le_of_eq y7.symm), bd_of]
        unfold gq
        rw [if_pos (show gN (pI (pI σ1 44 (cc d)) 45 1) 1 = gN σ1 1 from rfl), if_pos (show gN (pI (pI σ1 44 (cc d)) 45 1) 3 = gN σ1 3 from rfl)]
      · show f_X12_arguments_B33 _ _ _ _ _ _ _ = _
        unfold f_X12_arguments_B33 f_X12_evaluate
        rw [if_neg ngd, if_pos h44, if_neg (fun w => hpd ((lp_le (by omega) (by omega)).mp w)), if_neg (fun w => hz (hea.trans w)), e8, gdn (by omega) (by omega), hQ'.x 52 _ (by decide), if_neg hz0, y2', bd_of, hA.ch hp7 (hQs.fm y3.1.2.1) hdm, bd_of, bd_of]
