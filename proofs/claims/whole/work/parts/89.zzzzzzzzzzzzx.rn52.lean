theorem gq_r {β : Type} (a : Nat) (x : Option β) : gq a a x = x := if_pos rfl
/-- AN ATOM IS WORKED OUT -/
theorem lf_go {τ μ0 : S5} {F k T : Nat} {pa nv D E : Nat → Nat} (hS : PSt τ μ0 F k T pa nv) (hD : DSt τ μ0 F T pa nv D) (hE : ESt τ μ0 F T nv E) {σs μs : S5} (hPs : eqP τ σs) (hQs : eqQ μ0 μs) {t0 : Nat} {σ μ : S5} {n : Nat} {tg ct : Nat → Nat} {K : List (Nat × Nat × Nat × Nat × Nat)} {t W V b f e r P R : Nat} (hm : MSb τ μ0 F k T pa nv D E σs μs t0 σ μ n tg ct K t W V b f e r P R) (he : e = b + nv f) {c : Int32} {p : Nat} {Sc : Nat → Prop} (hN : ND τ μ0 F T nv f c p Sc) (hg : ∀ x, Sc x → VL τ F pa n tg ct (gB σ 13 (b + x)) (gB μ 9 (b + x))) (hP : D p ≤ P) {Z : Nat} (hZ : R + E p ≤ Z) (h44 : gI σ 44 = c) (h52 : gI μ 52 = nI p) {q lo hi : Nat} (hl : XLeaf τ μ0 F c q p Sc lo hi) : GOt τ μ0 F k T pa nv D E σs μs t0 Z σ (f_X3_work σ) (f_X12_workPart μ) := by
  have hnv := hS.nv
  have hf := hN.1
  have hP' : eqP τ σ := hPs.fm hm.1.1
  have hQ' : eqQ μ0 μ := hQs.fm hm.1.2.1
  obtain ⟨hp7, hc⟩ := hN.p7 (hnv f hf)
  have hEp := hE.1 f c p Sc hN
  have hev := hm.ev hf he hg
  obtain ⟨ac, ac6, ace⟩ := c_nI hc
  have gc : ∀ {β : Type} (x : Option β), gd c 6200 x = x := fun x => by rw [ace]; exact gdn ac6 (by omega)
  have gp : ∀ {β : Type} (x : Option β), gd (nI p) 7000 x = x := fun x => gdn hp7 (by omega)
  obtain ⟨-, -, -, -, hk⟩ := hl
  have pl := (plain_go hS hP' hQ' hev hN).1
  have kgs := kg_go hS hD hE hPs hQs hm he hN hg hP hZ
  have kpl : ∀ (j : Nat) (i : Int32), j < 8 → ¬ j = 3 → f_X12_plain (nI p) μ = some (vv (nI j) i, μ) → (bd (f_X12_plain (nI p) μ) (fun r106 τ106 => bd (f_X12_enter (r106) τ106) (fun _ τ109 => some ((), τ109)))) = (bd (f_X12_keep (nI p) μ) (fun r127 τ127 => bd (f_X12_gives (r127) τ127) (fun _ τ130 => some ((), τ130)))) := by
    intro j i hj h3 hpl
    unfold f_X12_keep f_X12_gives
    rw [hpl, bd_of, bd_of, if_neg (lg_nn (vv_nn hj i)).2, bd_of, bd_of, enm_g (by rw [vv_kd]; exact fun w => h3 (nI_injL (a := j) (b := 3) (by omega) (by omega) w)), bd_of]
  rcases hk with ⟨a, a', a2, -⟩ | ⟨a, a', a2, -⟩ | ⟨a, a', x, x1, x2, x3⟩ | ⟨a, a', x, x1, x2, x3, x4⟩ | ⟨a, a'⟩
  · have hpl : f_X12_plain (nI p) μ = some (vv (nI 0) (xA μ 32 (nI p)), μ) := by
      unfold f_X12_plain f_X12_value
      rw [gp, hQ'.x 31 _ (by decide), a', if_neg (by decide), if_pos rfl, gp, bd_of]
      rfl
    have e1 : f_X3_work σ = bd (f_keepE 64 c σ) (fun r83 τ83 => gq (gN τ83 1) (gN σ 1) <| gq (gN τ83 3) (gN σ 3) <| bd (f_X3_give (r83) τ83) (fun _ τ86 => gq (gN τ86 1) (gN τ83 1) <| gq (gN τ86 3) (gN τ83 3) <| some ((), τ86))) := by
      unfold f_X3_work f_X3_work_b197
      rw [h44, gc, gc, hP'.x 13 _ (by decide), a, if_pos rfl]
    have e2 : f_X12_workPart μ = bd (f_X12_plain (nI p) μ) (fun r106 τ106 => bd (f_X12_enter (r106) τ106) (fun _ τ109 => some ((), τ109))) := by
      unfold f_X12_workPart
      rw [h52, gp, hQ'.x 31 _ (by decide), a']
      rfl
    rw [e1, e2, kpl 0 _ (by omega) (by omega) hpl]
    exact kgs
  · have hpl : f_X12_plain (nI p) μ = some (vv (nI 2) (xA μ 32 (nI p)), μ) := by
      unfold f_X12_plain f_X12_value
      rw [gp, hQ'.x 31 _ (by decide), a', if_pos rfl, gp, bd_of]
      rfl
    have e1 : f_X3_work σ = bd (f_keepE 64 c σ) (fun r83 τ83 => gq (gN τ83 1) (gN σ 1) <| gq (gN τ83 3) (gN σ 3) <| bd (f_X3_give (r83) τ83) (fun _ τ86 => gq (gN τ86 1) (gN τ83 1) <| gq (gN τ86 3) (gN τ83 3) <| some ((), τ86))) := by
      unfold f_X3_work f_X3_work_b197
      rw [h44, gc, gc, hP'.x 13 _ (by decide), a, if_neg (by decide), if_pos rfl]
    have e2 : f_X12_workPart μ = bd (f_X12_plain (nI p) μ) (fun r106 τ106 => bd (f_X12_enter (r106) τ106) (fun _ τ109 => some ((), τ109))) := by
      unfold f_X12_workPart
      rw [h52, gp, hQ'.x 31 _ (by decide), a']
      rfl
    rw [e1, e2, kpl 2 _ (by omega) (by omega) hpl]
    exact kgs
  · obtain ⟨x', y', w1, w2, w3⟩ := pl (by rw [a]; decide)
    have hgo := en_go hS hPs hQs hm (Z := Z) (by omega) w3
    have e1 : f_X3_work σ = bd (f_X3_enter x' σ) (fun _ τ' => gle (gN σ 1) (gN τ' 1) <| gle (gN σ 3) (gN τ' 3) <| some ((), τ')) := by
      unfold f_X3_work f_X3_work_b102 f_X3_work_b197
      rw [h44, gc, gc, hP'.x 13 _ (by decide), a, if_neg (by decide), if_neg (by decide), if_pos rfl, w1, bd_of, gq_r, gq_r]
    have e2 : f_X12_workPart μ = bd (f_X12_enter y' μ) (fun _ τ109 => some ((), τ109)) := by
      unfold f_X12_workPart
      rw [h52, gp, hQ'.x 31 _ (by decide), a', w2]
      rfl
    rw [e1, e2]
    exact hgo.g
  · have hxv := hN.lt (hnv f hf) x4
    have hgo := en_go hS hPs hQs hm (Z := Z) (by omega) (hg x x4)
    obtain ⟨⟨v1, v2, v3, v4, v5, v6, v7⟩, -, -⟩ := hev
    have e1 : f_X3_work σ = bd (f_X3_enter (gB σ 13 (b + x)) σ) (fun _ τ' => gle (gN σ 1) (gN τ' 1) <| gle (gN σ 3) (gN τ' 3) <| some ((), τ')) := by
      unfold f_X3_work f_X3_work_b120 f_X3_work_b197
      rw [h44, gc, gc, hP'.x 13 _ (by decide), a, if_neg (by decide), if_neg (by decide), if_neg (by decide), if_pos rfl, v1, hP'.x 14 _ (by decide), x2, nI_plus, gdn (by omega) (by omega), xB_at (by omega)]
    have e2 : f_X12_workPart μ = bd (f_X12_enter (gB μ 9 (b + x)) μ) (fun _ τ109 => some ((), τ109)) := by
      unfold f_X12_workPart
      rw [h52, gp, hQ'.x 31 _ (by decide), a', gp, gp, v2, hQ'.x 32 _ (by decide), x3, nI_plus, gdn (by omega) (by omega), xB_at (by omega)]
      rfl
    rw [e1, e2]
    exact hgo.g
  · refine ov_go hm (a := 2) (b' := 5) (by decide) ?_ ?_
    · unfold f_X3_work f_X3_work_b197
      rw [h44, gc, gc, hP'.x 13 _ (by decide), a, if_neg (by decide), if_neg (by decide), if_neg (by decide), if_neg (by decide), if_pos rfl, ew_q]
    · unfold f_X12_workPart
      rw [h52, gp, hQ'.x 31 _ (by decide), a', em_q]
      rfl
/-- the first child of a sign or a case is taken up -/
theorem first_go {τ μ0 : S5} {F k T : Nat} {pa nv D E : Nat → Nat} (hS : PSt τ μ0 F k T pa nv) {σs μs : S5} (hQs : eqQ μ0 μs) {t0 : Nat} {σ μ : S5} {n : Nat} {tg ct : Nat → Nat} {K : List (Nat × Nat × Nat × Nat × Nat)} {t W V b f e r P R : Nat} (hm : MSv τ μ0 F k T pa nv D E σs μs t0 σ μ n tg ct K t W V b f e r P R 0) (he : e = b + nv f) {c : Int32} {p : Nat} {Sc : Nat → Prop} (hN : ND τ μ0 F T nv f c p Sc) (hg : ∀ x, Sc x → VL τ F pa n tg ct (gB σ 13 (b + x)) (gB μ 9 (b + x))) (hr : hF τ c ≤ r) {kd : Nat} (hkd : kd = 1 ∨ kd = 3 ∨ kd = 4) (hK : (kd = 1 → xA τ 13 c = 5) ∧ (kd = 3 → xA τ 13 c = 6) ∧ (kd = 4 → xA τ 13 c = 7 ∧ ¬ xA τ 14 c = 0)) {c1 : Int32} {p1 : Nat} {Sc1 : Nat → Prop} (hN1 : ND τ μ0 F T nv f c1 p1 Sc1) (hg1 : ∀ x, Sc1 x → VL τ F pa n tg ct (gB σ 13 (b + x)) (gB μ 9 (b + x))) (hF1 : hF τ c1 < hF τ c) (hP : fpF D μ0 (kd, c.toNatClampNeg, p, 0, 0) + D p1 ≤ P) {Z : Nat} (hZ : R + fqF E μ0 (kd, c.toNatClampNeg, p, 0, 0) + E p1 + 1 ≤ Z) : ∃ ac σ1 μ1, c = nI ac ∧ ac < 6200 ∧ f_X3_push (fr kd ac 0) σ = some ((), σ1) ∧ f_X12_waits (nI (kd + 1)) (nI p) 0 μ = some ((), μ1) ∧ FpC σ σ1 ∧ FwM μ μ1 ∧ gN σ 1 ≤ gN σ1 1 ∧ gN σ1 3 = gN σ 3 ∧ eqQ μ0 μ1 ∧ GOt τ μ0 F k T pa nv D E σs μs t0 Z σ (some ((), pI (pI σ1 44 c1) 45 1)) (some ((), pI (pI μ1 52 (nI p1)) 53 0)) := by
  have hnv := hS.nv
  have hf := hN.1
  obtain ⟨hp7, hc⟩ := hN.p7 (hnv f hf)
  obtain ⟨ac, ac6, ace⟩ := c_nI hc
  have hcl : c.toNatClampNeg = ac := by rw [ace, nI_clamp (by omega)]
  rw [hcl] at hP hZ
  obtain ⟨r', rfl⟩ : ∃ r', r = r' + 1 := ⟨r - 1, by omega⟩
  have hnl : nvl kd 0 = 0 := by
    unfold nvl
    rcases hkd with w | w | w <;> subst w <;> rfl
  obtain ⟨σ1, μ1, y1, y2, y3, y4, y5, y6, y7⟩ := fr_go hnv hm (kd := kd) (a := ac) (p := p) (i0 := 0) (by omega) hnl ac6 hp7 (by omega) he (Sc := Sc) (by rw [← ace]; exact hN) hg (by rw [← ace]; exact hr) ⟨fun w => by rw [← ace]; exact hK.1 (by omega), fun w => by rw [← ace]; exact hK.2.1 w, fun w => by rw [← ace]; exact hK.2.2 w, fun w => by omega⟩ (P' := D p1) hP (R' := R + fqF E μ0 (kd, ac, p, 0, 0)) (Nat.le_refl _) 0 (fun w => by omega)
  rw [if_neg (show ¬ kd = 5 by omega)] at y1
  refine ⟨ac, σ1, μ1, ace, ac6, y1, y2, y4, y5, y6, y7, hQs.fm y3.1.2.1, wk_mk hnv y3 hN1 (fun x hx => ?_) (by omega) (Nat.le_refl _) hZ he y6 (Nat.le_of_eq y7.symm) rfl rfl⟩
  rw [y4.2.2.2.1 13 (by decide), y5.2.2.2.1 9 (by decide)]
  exact hg1 x hx
