/-- the lengths stay while a part of a call is made -/
theorem x78_N : ∀ (N : Nat) (v3 v4 v5 : Int32) (v6 : Int64) (v8 : Int32) (σ σ' : S5), f_X3_extendPart_L78 N v3 v4 v5 v6 v8 σ = some ((), σ') → σ'.2.2.2.2 = σ.2.2.2.2
  | 0, _, _, _, _, _, _, _, h => by cases h
  | N + 1, v3, v4, v5, v6, v8, σ, σ', h => by
    have h' : f_X3_extendPart_B78 (f_X3_extendPart_L78 N) v3 v4 v5 v6 v8 σ = some ((), σ') := h
    unfold f_X3_extendPart_B78 f_X3_give at h'
    by_cases e : v4 ≤ v8
    · rw [if_pos e, bd_of] at h'
      cases h'
      rfl
    · rw [if_neg e] at h'
      have w := x78_N N _ _ _ _ _ _ _ (gd_some (gd_some h').2).2
      exact w
theorem x34_N : ∀ (N : Nat) (v2 v3 v4 v5 : Int32) (v6 : Int64) (v8 : Int32) (σ σ' : S5), f_X3_extendPart_L34 N v2 v3 v4 v5 v6 v8 σ = some ((), σ') → σ'.2.2.2.2 = σ.2.2.2.2
  | 0, _, _, _, _, _, _, _, _, h => by cases h
  | N + 1, v2, v3, v4, v5, v6, v8, σ, σ', h => by
    have h' : f_X3_extendPart_B34 (f_X3_extendPart_L34 N) v2 v3 v4 v5 v6 v8 σ = some ((), σ') := h
    unfold f_X3_extendPart_B34 at h'
    by_cases e : v3 ≤ v8
    · rw [if_pos e] at h'
      exact x78_N _ _ _ _ _ _ _ _ h'
    · rw [if_neg e] at h'
      have w := x34_N N _ _ _ _ _ _ _ _ (gd_some (gd_some h').2).2
      exact w
theorem ew_N {a b : Int32} {σ σ' : S5} (h : f_X3_endWith a b σ = some ((), σ')) : σ'.2.2.2.2 = σ.2.2.2.2 := by
  unfold f_X3_endWith at h
  by_cases e : xA σ 40 0 = 0
  · rw [if_pos e] at h
    cases h
    rfl
  · rw [if_neg e] at h
    cases h
    rfl
theorem ext_N {a1 a2 a3 a4 : Int32} {σ σ' : S5} (h : f_X3_extendPart a1 a2 a3 a4 σ = some ((), σ')) : gN σ' 1 = gN σ 1 ∧ gN σ' 3 = gN σ 3 := by
  have key : σ'.2.2.2.2 = σ.2.2.2.2 := by
    unfold f_X3_extendPart at h
    obtain ⟨r9, τ9, x1, x2⟩ := bd_some h
    obtain ⟨r18, τ18, x3, x4⟩ := bd_some x2
    obtain ⟨r24, τ24, x5, x6⟩ := bd_some x4
    have e9 : τ9.2.2.2.2 = σ.2.2.2.2 := by
      unfold f_X0_makePart at x1
      obtain ⟨r5, τ5, y1, y2⟩ := bd_some x1
      have e5 : τ5.2.2.2.2 = σ.2.2.2.2 := by
        unfold f_X0_make at y1
        by_cases e : 2 + (a3 + a4) ≤ 4000 - xA σ 40 3
        · rw [if_pos e] at y1
          have y3 := (gd_some (gd_some y1).2).2
          cases y3
          rfl
        · rw [if_neg e] at y1
          cases y1
          rfl
      by_cases e : r5 = -1
      · rw [if_pos e] at y2
        cases y2
        exact e5
      · rw [if_neg e] at y2
        have y3 := (gd_some (gd_some y2).2).2
        cases y3
        exact e5
    have e18 : τ18.2.2.2.2 = τ9.2.2.2.2 := by
      unfold f_X3_made at x3
      by_cases e : r9 = -1
      · rw [if_pos e] at x3
        obtain ⟨⟨⟩, τ', y1, y2⟩ := bd_some x3
        cases y2
        exact ew_N y1
      · rw [if_neg e] at x3
        obtain ⟨v, τ', y1, y2⟩ := bd_some x3
        cases y2
        cases y1
        rfl
    have e24 : τ24 = τ18 := by
      unfold f_X3_isOver at x5
      by_cases e : xA τ18 40 0 = 0
      · rw [if_pos e] at x5
        cases x5
        rfl
      · rw [if_neg e] at x5
        cases x5
        rfl
    by_cases e : r24 = 0
    · rw [if_pos e] at x6
      rw [x34_N _ _ _ _ _ _ _ _ _ x6, e24, e18, e9]
    · rw [if_neg e] at x6
      cases x6
      rw [e24, e18, e9]
  exact ⟨congrFun key 1, congrFun key 3⟩
theorem i2l2i' (a : Nat) : ((nI a).toInt64).toInt32 = nI a := i2l2i _
/-- A VALUE IS APPLIED to arguments, on both sides -/
theorem av_go {τ μ0 : S5} {F k T : Nat} {pa nv D E : Nat → Nat} (hS : PSt τ μ0 F k T pa nv) (hD : DSt τ μ0 F T pa nv D) (hE : ESt τ μ0 F T nv E) {σs μs : S5} (hPs : eqP τ σs) (hQs : eqQ μ0 μs) {t0 : Nat} {σ μ : S5} {n : Nat} {tg ct : Nat → Nat} {K : List (Nat × Nat × Nat × Nat × Nat)} {t W V b f e r P R i : Nat} (h : MSv τ μ0 F k T pa nv D E σs μs t0 σ μ n tg ct K t W V b f e r P R i) (hf : f < F) (he : e = b + nv f) (hr : 1 ≤ r) (hi1 : 1 ≤ i) (hi8 : i ≤ 8) {Z : Nat} (hZ : R ≤ Z) (hv : VL τ F pa n tg ct (gJ σ 5) (gJ μ 1)) : GOt τ μ0 F k T pa nv D E σs μs t0 Z σ (f_X3_applyValue (nI i) σ) (f_X12_apply (gJ μ 1) (nI i) μ) := by
  have hP' : eqP τ σ := hPs.fm h.1.1
  have hQ' : eqQ μ0 μ := hQs.fm h.1.2.1
  have hF6 := hS.1.1
  obtain ⟨b1, b2, b3, b4, b5, b6, b7, b8⟩ := h.bd
  -- enough for a call, or not
  have both : ∀ (g had : Nat) (v2 v3 : Int32), g < F → had < pa g → ((had = 0 ∧ v2 = -1 ∧ v3 = -1) ∨ (∃ c, c < n ∧ tg c = 5 ∧ ct c = had ∧ v2 = nI (adr tg ct c) ∧ v3 = nI c)) → GOt τ μ0 F k T pa nv D E σs μs t0 Z σ (f_X3_applyValue_b85 (nI i) v2 (nI g) (nI had) σ) (f_X12_apply_b100 (nI i) v3 (nI g) (nI had) μ) := by
    intro g had v2 v3 hg hhad hv
    obtain ⟨⟨s1, s2, s3, s4⟩, -, -⟩ := hS.2.2.2.2 g hg
    by_cases hless : had + i < pa g
    · have hgo := ext_go hS hQs h hg hi1 hi8 hless hv hZ
      have e1 : f_X3_applyValue_b85 (nI i) v2 (nI g) (nI had) σ = bd (f_X3_extendPart (nI g) v2 (nI had) (nI i) σ) (fun _ τ124 => gq (gN τ124 1) (gN σ 1) <| gq (gN τ124 3) (gN σ 3) <| some ((), τ124)) := by
        unfold f_X3_applyValue_b85
        rw [gdn (by omega) (by omega), nI_plus, hP'.x 3 _ (by decide), s1, if_pos ((nI_lt31 (by omega) (by omega)).mpr hless)]
      have e2 : f_X12_apply_b100 (nI i) v3 (nI g) (nI had) μ = (bd (f_X12_newCell (1) (nI g) ((nI had + nI i)) (((2 + nI had) + nI i)) μ) (fun r140 τ140 => if 0 ≤ r140 then (f_X12_apply_L154 FU (nI i) v3 (nI had) (r140) (0) τ140) else (some ((), τ140)))) := by
        unfold f_X12_apply_b100
        rw [gdn (by omega) (by omega), hQ'.x 47 _ (by decide), s2, if_pos (by rw [nI_plus]; exact (nI_lt31 (by omega) (by omega)).mpr hless)]
      obtain ⟨σ', μ', a1, a2, ⟨a3, a4⟩, a5⟩ := hgo
      have hL : gN σ' 1 = gN σ 1 ∧ gN σ' 3 = gN σ 3 := ext_N a1
      refine ⟨σ', μ', ?_, e2.trans a2, ⟨a3, a4⟩, a5⟩
      rw [e1, a1, bd_of, gq_e hL.1, gq_e hL.2]
    · have hgo := cll_go hS hD hE hPs hQs h hf he hr hg hhad hi8 (by omega) hv hZ
      have e1 : f_X3_applyValue_b85 (nI i) v2 (nI g) (nI had) σ = bd (f_X3_enterCall (nI g) v2 (nI i) σ) (fun _ τ' => gle (gN σ 1) (gN τ' 1) <| gle (gN σ 3) (gN τ' 3) <| some ((), τ')) := by
        unfold f_X3_applyValue_b85 f_X3_applyValue_b113
        rw [gdn (by omega) (by omega), nI_plus, hP'.x 3 _ (by decide), s1, if_neg (fun w => hless ((nI_lt31 (by omega) (by omega)).mp w))]
      have e2 : f_X12_apply_b100 (nI i) v3 (nI g) (nI had) μ = bd (f_X12_call (nI g) v3 (nI i) μ) (fun _ τ' => some ((), τ')) := by
        unfold f_X12_apply_b100
        rw [gdn (by omega) (by omega), nI_plus, hQ'.x 47 _ (by decide), s2, if_neg (fun w => hless ((nI_lt31 (by omega) (by omega)).mp w))]
      rw [e1, e2]
      exact hgo.g
  have ends : ∀ (t : Nat), ¬ t = 2 → ¬ t = 5 → t < 8 → (j_lushr (gJ σ 5) 32).toInt32 = nI t → f_X3_applyValue (nI i) σ = f_X3_endWith 2 4 σ := by
    intro t h2 h5 h8 ht
    unfold f_X3_applyValue f_X0_tag
    rw [ht, bd_of, gq_r, gq_r, if_neg (show ¬ nI t = 2 from fun w => h2 (nI_injL (a := t) (b := 2) (by omega) (by omega) w)), if_neg (show ¬ nI t = 5 from fun w => h5 (nI_injL (a := t) (b := 5) (by omega) (by omega) w)), ew_q]
  have endm : ∀ (t : Nat), ¬ t = 1 → ¬ t = 3 → t < 8 → (j_lshr (gJ μ 1) 32).toInt32 = nI t → f_X12_apply (gJ μ 1) (nI i) μ = f_X12_ends 2 4 μ := by
    intro t h1 h3 h8 ht
    unfold f_X12_apply f_X12_apply_b25 f_X12_apply_b26 f_X12_kindOf
    rw [ht, bd_of, if_neg (show ¬ nI t = 3 from fun w => h3 (nI_injL (a := t) (b := 3) (by omega) (by omega) w)), if_pos rfl, bd_of, if_neg (show ¬ nI t = 1 from fun w => h1 (nI_injL (a := t) (b := 1) (by omega) (by omega) w)), em_q]
  rcases id hv with ⟨x, a1, a2⟩ | ⟨g, g1, g2, a1, a2⟩ | ⟨k', -, -, -, a1, a2⟩ | ⟨c, c1, c2, c3, c4⟩
  · exact ovv_go h (by decide) (ends 1 (by omega) (by omega) (by omega) (by rw [a1]; exact vv_tag 1 _)) (endm 0 (by omega) (by omega) (by omega) (by rw [a2]; exact vv_kd 0 _))
  · have hgo := both g 0 (-1) (-1) g1 (by omega) (Or.inl ⟨rfl, rfl, rfl⟩)
    have e1 : f_X3_applyValue (nI i) σ = f_X3_applyValue_b85 (nI i) (-1) (nI g) (nI 0) σ := by
      unfold f_X3_applyValue f_X0_tag f_X3_applyValue_b31 f_X3_applyValue_b41 f_X3_applyValue_b62
      rw [show (j_lushr (gJ σ 5) 32).toInt32 = 2 by rw [a1]; exact vv_tag 2 _, bd_of, gq_r, gq_r, if_pos rfl, if_neg (by decide), if_neg (by decide), if_neg (by decide), show (gJ σ 5).toInt32 = nI g by rw [a1]; exact vv_of 2 _]
      rfl
    have e2 : f_X12_apply (gJ μ 1) (nI i) μ = f_X12_apply_b100 (nI i) (-1) (nI g) (nI 0) μ := by
      unfold f_X12_apply f_X12_apply_b25 f_X12_apply_b26 f_X12_kindOf f_X12_apply_b48 f_X12_apply_b61 f_X12_apply_b82 f_X12_of
      rw [show (j_lshr (gJ μ 1) 32).toInt32 = 1 by rw [a2]; exact vv_kd 1 _, bd_of, if_neg (by decide), if_pos rfl, bd_of, if_pos rfl, if_pos rfl, if_pos rfl, bd_of, if_pos rfl, show (gJ μ 1).toInt32 = nI g by rw [a2]; exact vv_of 1 _]
      rfl
    rw [e1, e2]
    exact hgo
  · exact ovv_go h (by decide) (ends 3 (by omega) (by omega) (by omega) (by rw [a1]; exact vv_tag 3 _)) (endm 2 (by omega) (by omega) (by omega) (by rw [a2]; exact vv_kd 2 _))
  · obtain ⟨⟨hbe, hco⟩, hcell, hfld⟩ := h.2.1.2 c c1
    have hA4 := adr_mo tg ct c1
    have hz : szc tg ct c = ct c + 1 + if tg c = 5 then 1 else 0 := rfl
    have h4 := h.2.1.1.2.2.1
    have hck : (j_lshr (gJ μ 1) 32).toInt32 = 3 := by rw [c4]; exact vv_kd 3 _
    have hco' : (gJ μ 1).toInt32 = nI c := by rw [c4]; exact vv_of 3 _
    have endc : ¬ gA μ 53 c = 1 → f_X12_apply (gJ μ 1) (nI i) μ = f_X12_ends 2 4 μ := by
      intro h53
      unfold f_X12_apply f_X12_apply_b25 f_X12_apply_b26 f_X12_kindOf f_X12_of
      rw [hck, bd_of, if_pos rfl, bd_of, hco', gdn (by omega) (by omega), xA_n (by omega), if_neg h53, if_pos rfl, bd_of, if_neg (by decide), em_q]
    rcases hcell with ⟨d1, d2, -⟩ | ⟨d1, d2, g, d3, d4, d5, d6, d7, d8⟩ | ⟨d1, d2⟩
    · exact ovv_go h (by decide) (ends 4 (by omega) (by omega) (by omega) (by rw [c3, d1]; exact vv_tag 4 _)) (endc (by rw [d2]; decide))
    · have hgo := both g (ct c) (nI (adr tg ct c)) (nI c) d3 d8 (Or.inr ⟨c, c1, d1, rfl, rfl, rfl⟩)
      rw [if_pos d1] at hz
      have e1 : f_X3_applyValue (nI i) σ = f_X3_applyValue_b85 (nI i) (nI (adr tg ct c)) (nI g) (nI (ct c)) σ := by
        unfold f_X3_applyValue f_X0_tag f_X3_applyValue_b31 f_X3_applyValue_b41 f_X3_applyValue_b62
        rw [show (j_lushr (gJ σ 5) 32).toInt32 = 5 by rw [c3, d1]; exact vv_tag 5 _, bd_of, gq_r, gq_r, if_neg (by decide), if_pos rfl, if_pos rfl, if_pos rfl, if_pos rfl, show (gJ σ 5).toInt32 = nI (adr tg ct c) by rw [c3, d1]; exact vv_of 5 _, gdn (by omega) (by omega), nI_add1, gdn (by omega) (by omega), xB_at (by omega), xB_at (by omega), d5, d6, i2l2i, i2l2i]
      have e2 : f_X12_apply (gJ μ 1) (nI i) μ = f_X12_apply_b100 (nI i) (nI c) (nI g) (nI (ct c)) μ := by
        unfold f_X12_apply f_X12_apply_b26 f_X12_kindOf f_X12_apply_b48 f_X12_apply_b61 f_X12_apply_b82 f_X12_of
        rw [hck, bd_of, if_pos rfl, bd_of, hco', gdn (by omega) (by omega), xA_n (i := c) (by omega), d2, if_pos rfl, if_neg (by decide), if_neg (by decide), bd_of, if_neg (by decide), gdn (by omega) (by omega), if_neg (by decide), gdn (by omega) (by omega), xA_n (i := c) (by omega), xA_n (i := c) (by omega), d4, hco]
      rw [e1, e2]
      exact hgo
    · exact ovv_go h (by decide) (ends 6 (by omega) (by omega) (by omega) (by rw [c3, d1]; exact vv_tag 6 _)) (endc (by
        rcases d2 with ⟨w, -⟩ | ⟨w, -⟩ | ⟨w, -⟩ <;> rw [w] <;> decide))
/-- behind a head: APPLY -/
theorem rs6 {τ μ0 : S5} {F k T : Nat} {pa nv D E : Nat → Nat} (hS : PSt τ μ0 F k T pa nv) (hD : DSt τ μ0 F T pa nv D) (hE : ESt τ μ0 F T nv E) {σs μs : S5} (hPs : eqP τ σs) (hQs : eqQ μ0 μs) {t0 : Nat} {σ μ : S5} {n : Nat} {tg ct : Nat → Nat} {a p i0 z0 : Nat} {K : List (Nat × Nat × Nat × Nat × Nat)} {t W V b f e r P R Z : Nat} (h : MSb τ μ0 F k T pa nv D E σs μs t0 σ μ n tg ct ((6, a, p, i0, z0) :: K) t W V b f e r P R) (hv : VL τ F pa n tg ct (gJ σ 5) (gJ μ 1)) (hZ : R ≤ Z + 1) : GOt τ μ0 F k T pa nv D E σs μs t0 Z σ (f_X3_resume σ) (f_X12_goOn μ) := by
  have hnv := hS.nv
  obtain ⟨t', W', V', ⟨⟨he, hf⟩, -, -, h6⟩, hm, hfq, hpop, h40, h48, hW⟩ := pop_go hnv h (show (6 : Nat) ≤ 6 by omega)
  obtain ⟨c1, c2, c3, c4, c5⟩ := h6 rfl
  dsimp only at c1 c2 c3 c4 c5 hm hfq hpop
  have e0 : nvl 6 i0 = i0 := by unfold nvl; rw [if_neg (by omega), if_pos (Or.inr rfl)]
  rw [e0] at hm hpop
  rw [c3] at hpop
  have efq : fqF E μ0 (6, a, p, i0, z0) = 2 + 0 := rfl
  rw [efq] at hm hfq
  have hgo := av_go hS hD hE hPs hQs hm hf he (by omega) c1 c2 (Z := Z) (by omega) hv
  have e1 : f_X3_resume σ = bd (f_X3_applyValue (nI i0) (pI σ 40 (nI (t' + i0)))) (fun _ τ' => gle (gN (pI σ 40 (nI (t' + i0))) 1) (gN τ' 1) <| gle (gN (pI σ 40 (nI (t' + i0))) 3) (gN τ' 3) <| some ((), τ')) := by
    rw [(rs_hd h40 hpop (by omega) (by omega) (by omega)).2.2.2.2.2.1 rfl]
    rfl
  have e2 : f_X12_goOn μ = bd (f_X12_apply (gJ μ 1) (nI i0) (pI μ 48 (nI W'))) (fun _ τ' => some ((), τ')) := by
    rw [(go_hd (kd := 7) (p := 0) h48 hW c4 (by omega) (by omega)).2.2.2.2.2.2.2 rfl, c5]
  rw [e1, e2]
  exact hgo.g.up (Nat.le_refl _) (Nat.le_refl _)
