theorem ent_g {x : Int64} {σ : S5} (h : ¬ (j_lushr x 32).toInt32 = 6) : f_X3_enter x σ = some ((), pI (pJ σ 5 x) 45 0) := by
  unfold f_X3_enter f_X0_tag f_X3_give gq bd
  dsimp only
  rw [if_pos rfl, if_pos rfl, if_neg h]
  show (if gN σ 1 = gN σ 1 then (if gN σ 3 = gN σ 3 then _ else _) else _) = _
  rw [if_pos rfl, if_pos rfl]
theorem enm_g {y : Int64} {μ : S5} (h : ¬ (j_lshr y 32).toInt32 = 3) : f_X12_enter y μ = some ((), pI (pJ μ 1 y) 53 1) := by
  unfold f_X12_enter f_X12_kindOf f_X12_gives bd
  dsimp only
  rw [if_neg h]
/-- a cell, looked at by the other -/
theorem enm_c {c : Nat} {μ : S5} (hc : c < 4100) : (gA μ 53 c = 3 → f_X12_enter (vv 3 (nI c)) μ = f_X12_ends 2 3 μ) ∧ (gA μ 53 c = 4 → f_X12_enter (vv 3 (nI c)) μ = some ((), pI (pJ μ 1 (gB μ 6 c)) 53 1)) ∧ ((gA μ 53 c = 0 ∨ gA μ 53 c = 1) → f_X12_enter (vv 3 (nI c)) μ = some ((), pI (pJ μ 1 (vv 3 (nI c))) 53 1)) := by
  have hcc : (nI c).toNatClampNeg = c := nI_clamp (by omega)
  have x53 : xA μ 53 (nI c) = gA μ 53 c := by
    show gA μ 53 (nI c).toNatClampNeg = _
    rw [hcc]
  have x6 : xB μ 6 (nI c) = gB μ 6 c := by
    show gB μ 6 (nI c).toNatClampNeg = _
    rw [hcc]
  refine ⟨fun w => ?_, fun w => ?_, fun w => ?_⟩
  · unfold f_X12_enter f_X12_kindOf f_X12_of
    rw [vv_kd, vv_of]
    unfold bd
    dsimp only
    rw [if_pos rfl, gdn hc (by omega), x53, w, if_neg (by decide), if_pos rfl]
    cases f_X12_ends 2 3 μ with
    | none => rfl
    | some z => rfl
  · unfold f_X12_enter f_X12_kindOf f_X12_of f_X12_gives
    rw [vv_kd, vv_of]
    unfold bd
    dsimp only
    rw [if_pos rfl, gdn hc (by omega), x53, w, if_neg (by decide), if_neg (by decide), if_pos rfl, gdn hc (by omega), x6]
  · unfold f_X12_enter f_X12_kindOf f_X12_of f_X12_gives
    rw [vv_kd, vv_of]
    unfold bd
    dsimp only
    rw [if_pos rfl, gdn hc (by omega), x53]
    rcases w with w | w <;> rw [w, if_neg (by decide), if_neg (by decide), if_neg (by decide)]
/-- a suspension that doesn't wait, looked at by the one -/
theorem enc_c {A : Nat} {σ : S5} (hA : A < 4000) : (gB σ 14 A = 4611686018427387904 → f_X3_enter (vv 6 (nI A)) σ = f_X3_endWith 2 3 σ) ∧ (∀ (t : Nat) (i : Int32), t < 8 → gB σ 14 A = vv (nI t) i → f_X3_enter (vv 6 (nI A)) σ = some ((), pI (pJ σ 5 (gB σ 14 A)) 45 0)) := by
  have hcc : (nI A).toNatClampNeg = A := nI_clamp (by omega)
  have x14 : xB σ 14 (nI A) = gB σ 14 A := by
    show gB σ 14 (nI A).toNatClampNeg = _
    rw [hcc]
  have w1 : (vv 6 (nI A)).toInt32 = nI A := vv_of 6 (nI A)
  have w2 : (j_lushr (vv 6 (nI A)) 32).toInt32 = 6 := vv_tag 6 (nI A)
  refine ⟨fun w => ?_, fun t i ht w => ?_⟩
  · unfold f_X3_enter f_X0_tag f_X0_isBlack gq
    rw [w1, w2]
    unfold bd
    dsimp only
    rw [if_pos rfl, if_pos rfl, if_pos rfl, gdn hA (by omega), x14, w, if_pos (lg_rf _)]
    dsimp only
    rw [if_pos rfl, if_pos rfl, if_neg (by decide)]
    unfold f_X3_endWith
    by_cases e : xA σ 40 0 = 0
    · rw [if_pos e]
      show (if gN σ 1 = gN σ 1 then (if gN σ 3 = gN σ 3 then _ else _) else _) = _
      rw [if_pos rfl, if_pos rfl]
    · rw [if_neg e]
      show (if gN σ 1 = gN σ 1 then (if gN σ 3 = gN σ 3 then _ else _) else _) = _
      rw [if_pos rfl, if_pos rfl]
  · have w3 : ¬ lg_cmp (vv (nI t) i) 4611686018427387904 = 0 := fun w => vv_bl ht i (lg_eq w)
    unfold f_X3_enter f_X0_tag f_X0_isBlack f_X0_isFresh f_X3_give gq
    rw [w1, w2]
    unfold bd
    dsimp only
    rw [if_pos rfl, if_pos rfl, if_pos rfl, gdn hA (by omega), x14, w, if_neg w3]
    dsimp only
    rw [if_pos rfl, if_pos rfl, if_pos rfl, gdn hA (by omega), x14, w, vv_fr ht, if_pos (lg_rf _)]
    dsimp only
    rw [if_pos rfl, if_pos rfl, if_pos rfl, gdn hA (by omega), x14, w]
    show (if gN σ 1 = gN σ 1 then (if gN σ 3 = gN σ 3 then _ else _) else _) = _
    rw [if_pos rfl, if_pos rfl]
theorem VL.sh {τ : S5} {F : Nat} {pa : Nat → Nat} {n : Nat} {tg ct : Nat → Nat} {x y : Int64} (v : VL τ F pa n tg ct x y) : ∃ (t : Nat) (i : Int32), t < 8 ∧ x = vv (nI t) i := by
  rcases v with ⟨i, a, -⟩ | ⟨f, -, -, a, -⟩ | ⟨k, -, -, -, a, -⟩ | ⟨c, -, a1, a2, -⟩
  · exact ⟨1, i, by omega, a⟩
  · exact ⟨2, _, by omega, a⟩
  · exact ⟨3, _, by omega, a⟩
  · exact ⟨tg c, _, by omega, a2⟩
/-- BOTH ENTER A VALUE ALIKE -/
theorem en_go {τ μ0 : S5} {F k T : Nat} {pa nv D E : Nat → Nat} (hS : PSt τ μ0 F k T pa nv) {σs μs : S5} (hPs : eqP τ σs) (hQs : eqQ μ0 μs) {t0 : Nat} {σ μ : S5} {n : Nat} {tg ct : Nat → Nat} {K : List (Nat × Nat × Nat × Nat × Nat)} {t W V b f e r P R : Nat} (h : MSb τ μ0 F k T pa nv D E σs μs t0 σ μ n tg ct K t W V b f e r P R) {Z : Nat} (hZ : R + 3 ≤ Z) {x y : Int64} (v : VL τ F pa n tg ct x y) : GOt τ μ0 F k T pa nv D E σs μs t0 Z σ (f_X3_enter x σ) (f_X12_enter y μ) := by
  have hnv := hS.nv
  rcases id v with ⟨i, a1, a2⟩ | ⟨f', -, -, a1, a2⟩ | ⟨k', -, -, -, a1, a2⟩ | ⟨c, c1, c2, c3, c4⟩
  · exact gv_go hnv h (Z := Z) (by omega) v (ent_g (by rw [a1, vv_tag]; decide)) (enm_g (by rw [a2, vv_kd]; decide))
  · exact gv_go hnv h (Z := Z) (by omega) v (ent_g (by rw [a1, vv_tag]; decide)) (enm_g (by rw [a2, vv_kd]; decide))
  · exact gv_go hnv h (Z := Z) (by omega) v (ent_g (by rw [a1, vv_tag]; decide)) (enm_g (by rw [a2, vv_kd]; decide))
  · obtain ⟨b1, b2, b3, b4, b5, b6, b7⟩ := h.bd
    have hc41 : c < 4100 := by omega
    obtain ⟨⟨f1, f2, f3⟩, hH, ⟨hn, h0⟩, hMC, hMM, hK, hG, ⟨n1, n2, cl, lf, n3, n4, n5, n6, n7, n8⟩⟩ := id h
    obtain ⟨⟨hbe, hco⟩, hcell, hfld⟩ := hH.2 c c1
    have hA4 : adr tg ct c < 4000 := by
      have := adr_mo tg ct c1
      have hz : szc tg ct c = ct c + 1 + if tg c = 5 then 1 else 0 := rfl
      have := hH.1.2.2.1
      omega
    rcases hcell with ⟨d1, d2, -⟩ | ⟨d1, d2, -⟩ | ⟨d1, d2⟩
    · exact gv_go hnv h (Z := Z) (by omega) v (ent_g (by rw [c3, vv_tag, d1]; decide)) (by rw [c4]; exact (enm_c hc41).2.2 (Or.inl d2))
    · exact gv_go hnv h (Z := Z) (by omega) v (ent_g (by rw [c3, vv_tag, d1]; decide)) (by rw [c4]; exact (enm_c hc41).2.2 (Or.inr d2))
    · rw [c3, c4, d1]
      rcases d2 with ⟨d2, g, a, p, d3, d4, d5, d6, d7⟩ | ⟨d2, d3⟩ | ⟨d2, d3⟩
      · have hP : eqP τ σ := hPs.fm f1
        have hQ : eqQ μ0 μ := hQs.fm f2
        have hg : g < F := d6.1
        have hgv := hnv g hg
        obtain ⟨-, ⟨v1, v2, v3, -⟩, -⟩ := hS.2.2.2.2 g hg
        have hF6 : F ≤ 630 := hS.1.1
        have h40 := pcn40 hgv d6
        have hsz := adr_mo tg ct c1
        have hszc : szc tg ct c = ct c + 1 := by
          show ct c + 1 + (if tg c = 5 then 1 else 0) = _
          rw [if_neg (by omega)]
        have hofs : ofs tg c = 1 := by unfold ofs; rw [if_neg (by omega)]
        have h34 := hH.1.2.2.1
        obtain ⟨-, q, lo, hi, hx, hhi, h38⟩ := id d6
        obtain ⟨⟨u1, u2, -, -, u5, -⟩, -, -⟩ := hx.un hgv
        have hpr := pre_mo' ct c1
        have hge := (adr_ge tg ct n).2
        obtain ⟨σ', p1, p2, p3, pL, p4, p5, p6, p7, p8, p9, p10, p11, p12⟩ := ent_c hS hP hMC (by omega) (by omega) (A := adr tg ct c) (by omega) d3 d6 d5
        obtain ⟨ν, q1, q2, q3, q4, q5, q6, q7, ⟨q8, q9, q10, q11, q12⟩, q13, q14, q15⟩ := ent_m hMM (by omega) (by omega) (a := xB τ 2 (nI a)) (p0 := pre ct c) (p := p) (g := g) (nvg := nv g) hc41 u2 (by omega) d2 d4 hbe (by rw [hco, d7]) (by rw [hQ.x 38 _ (by decide)]; exact (h38 p u1 (Nat.le_refl _)).1) (by rw [hQ.x 46 _ (by decide)]; exact v2) (by rw [hQ.y 5 _ (by decide)]; exact u5) (by omega)
        have hgood : ∀ y, UB τ (nI a) y → VL τ F pa n tg ct (gB σ' 13 (e + y)) (gB ν 9 (e + y)) := fun y hy => by
          have hyn : y < nv g := d6.lt hgv hy
          rw [p10 y hyn hy, q14 y (by omega) hy]
          have := hfld trivial (fun _ => d2) (pcn (i64n (xB τ 2 (nI a))) y) (by
            have h1 := pcn_mono (X := i64n (xB τ 2 (nI a))) (show y + 1 ≤ 40 by omega)
            rw [pcn_t hy] at h1
            omega)
          rw [hofs] at this
          exact this
        have hH' : HS τ μ0 F T pa nv σ' ν n tg ct (fun _ => True) := hs_ch hH c1 d1 (fun j w1 w2 => q4 j (by omega)) (congrFun (p5 40) 3) q6 (fun j w1 w2 => q5 j (by omega) (by omega)) (q7 7 (by decide)) (fun d _ => congrFun (q7 6 (by decide)) d) p11 p12 (Or.inl ⟨rfl, rfl⟩)
        have hgd : ∀ j, j < e → VL τ F pa n tg ct (gB σ 13 j) (gB μ 9 j) → VL τ F pa n tg ct (gB σ' 13 j) (gB ν 9 j) := fun j hj w => by
          rw [p9 j hj, q15 j hj]
          exact w
        have hK' := SK.mv hnv (Gro.rf n tg ct) K hK p8 q13 (fun j hj => congrFun (q7 8 (by decide)) j) hgd
        have e1 := (pre_upd (w := spC D μ) (w' := spC D ν) (c := c) (fun i hi => by unfold spC; rw [q6, up_n hi, q5 54 (by decide) (by decide)]) n).1 c1
        have e1E := (pre_upd (w := spC E μ) (w' := spC E ν) (c := c) (fun i hi => by unfold spC; rw [q6, up_n hi, q5 54 (by decide) (by decide)]) n).1 c1
        have e2 := (pre_upd (w := blC μ) (w' := blC ν) (c := c) (fun i hi => by unfold blC; rw [q6, up_n hi]) n).1 c1
        have e3 : spC D μ c = D p := by
          unfold spC
          rw [if_pos d2, d4, nI_clamp (by omega)]
        have e3E : spC E μ c = E p := by
          unfold spC
          rw [if_pos d2, d4, nI_clamp (by omega)]
        have e4E : spC E ν c = 0 := by
          unfold spC
          rw [q6, up_s, if_neg (by decide)]
        have e4 : spC D ν c = 0 := by
          unfold spC
          rw [q6, up_s, if_neg (by decide)]
        have e5 : blC μ c = 0 := by
          unfold blC
          rw [d2, if_neg (by decide)]
        have e6 : blC ν c = 1 := by
          unfold blC
          rw [q6, up_s, if_pos rfl]
        have hfb : f < 630 := by
          rcases (hK.bd).2.2.2.2 with w | w <;> omega
        have hb : MSb τ μ0 F k T pa nv D E σs μs t0 σ' ν n tg ct ((7, c, b, f, e) :: K) (t + 2) (W + 2) V e g (e + nv g) 40 (P + D p) (R + 2 - E p) := by
          refine ⟨⟨f1.tr p3, f2.tr q3, f3.eq (q7 7 (by decide))⟩, hH', ⟨?_, ?_⟩, p2, q2, Or.inr ⟨Or.inl rfl, t, W, r, rfl, rfl, ⟨⟨rfl, rfl, hg, hgv, rfl, hfb, b5⟩, ⟨p7, q10, q11, q12⟩, fun _ => ⟨c1, d1, p6, q8, q9⟩⟩, hK'⟩, ?_, ?_⟩
          · exact hn.st (fun x _ => congrFun (p5 40) x) (p5 41) (p5 42) (fun j w => p4 j (by omega)) (fun j w => q4 j (by omega)) (q5 57 (by decide) (by decide)) (q5 58 (by decide) (by decide))
          · rw [q4 44 (by omega)]; exact h0
          · unfold GLB at *
            rw [p5 43, q5 64 (by decide) (by decide)]
            exact hG
          · refine ⟨?_, n2, cl, lf, by rw [q4 38 (by omega)]; exact n3, by rw [q4 37 (by omega)]; exact n4, n5, ?_, ?_, ?_⟩
            · show (if (7 : Nat) = 7 then 1 else 0) + nLU K ≤ _
              rw [if_pos rfl]
              omega
            · show (if (7 : Nat) = 8 then 1 else 0) + nLC K ≤ cl
              rw [if_neg (by decide)]
              omega
            · have e7 : fpK D μ0 ((7, c, b, f, e) :: K) = fpK D μ0 K := by
                show fpF D μ0 (7, c, b, f, e) + _ = _
                unfold fpF
                dsimp only
                rw [if_neg (by decide), if_neg (by decide), if_neg (by decide), Nat.zero_add]
              rw [e7]
              omega
            · have e8 : fqK E μ0 ((7, c, b, f, e) :: K) = 2 + fqK E μ0 K := by
                show fqF E μ0 (7, c, b, f, e) + _ = _
                unfold fqF
                dsimp only
                rw [if_neg (by decide), if_neg (by decide), if_neg (by decide)]
              rw [e8]
              omega
        have hER : E p ≤ R := by omega
        refine ⟨_, _, p1, q1, pL, Or.inl ⟨n, tg, ct, _, _, _, _, _, _, _, _, _, _, hb.st hnv (fun j w => ?_) (fun _ _ => rfl) (fun _ => rfl) (fun _ => rfl) rfl (fun j w => ?_) (fun _ _ => rfl) (fun _ => rfl) (fun _ => rfl) rfl, Or.inl ⟨nI a, p, UB τ (nI a), ⟨rfl, rfl, rfl, rfl⟩, d6, hgood, d6.h, ⟨Nat.le_add_left _ _, by omega⟩, rfl⟩⟩⟩
        · rw [gI_pI, if_neg (by omega), gI_pI, if_neg (by omega)]
        · rw [gI_pI, if_neg (by omega), gI_pI, if_neg (by omega)]
      · exact ov_go h (by decide) ((enc_c hA4).1 d3) ((enm_c hc41).1 d2)
      · obtain ⟨tt, ii, w1, w2⟩ := d3.sh
        exact gv_go hnv h (Z := Z) (by omega) d3 ((enc_c hA4).2 tt ii w1 w2) ((enm_c hc41).2.1 d2)
