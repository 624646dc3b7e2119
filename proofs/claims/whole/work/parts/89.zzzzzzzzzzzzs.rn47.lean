theorem em_q (a b : Int32) (μ : S5) : bd (f_X12_ends a b μ) (fun _ τ' => some ((), τ')) = f_X12_ends a b μ := by
  cases f_X12_ends a b μ with
  | none => rfl
  | some z => rfl
/-- both end, with values on top -/
theorem ovv_go {τ μ0 : S5} {F k T : Nat} {pa nv D E : Nat → Nat} {σs μs : S5} {t0 : Nat} {σ μ : S5} {n : Nat} {tg ct : Nat → Nat} {K : List (Nat × Nat × Nat × Nat × Nat)} {t W V b f e r P R i : Nat} (h : MSv τ μ0 F k T pa nv D E σs μs t0 σ μ n tg ct K t W V b f e r P R i) {Z : Nat} {a b' : Int32} (ha : ¬ a = 0) {Fc Fm : Option (Unit × S5)} (hc : Fc = f_X3_endWith a b' σ) (hm : Fm = f_X12_ends a b' μ) : GOt τ μ0 F k T pa nv D E σs μs t0 Z σ Fc Fm := by
  obtain ⟨⟨f1, f2, -⟩, -, ⟨hn, h0⟩, ⟨-, m5, -, m7, -⟩, -⟩ := h
  obtain ⟨τ', ν, w1, w2, w3, w4, w5, -⟩ := end_go hn h0 a b' ha
  refine ⟨τ', ν, hc.trans w1, hm.trans w2, ⟨Nat.le_of_eq (congrFun w4.2.2.2.2 1).symm, Nat.le_of_eq (congrFun w4.2.2.2.2 3).symm⟩, Or.inr ⟨w3, f1.tr w4.fm, f2.tr w5.fm, ?_, ?_⟩⟩
  · rw [show gN τ' 1 = gN σ 1 from congrFun w4.2.2.2.2 1]; exact m5
  · rw [show gN τ' 3 = gN σ 3 from congrFun w4.2.2.2.2 3]; exact m7
theorem ND.p7 {τ μ : S5} {F T : Nat} {nv : Nat → Nat} {f : Nat} {c : Int32} {p : Nat} {Sc : Nat → Prop} (hv : nv f ≤ 40) (h : ND τ μ F T nv f c p Sc) : p < 7000 ∧ 0 ≤ c ∧ c < 6200 := by
  obtain ⟨a, q, lo, hi, hx, -, -⟩ := h
  have u := (hx.un hv).1
  exact ⟨u.2.1, u.2.2.1⟩
/-- BOTH CALL A FUNCTION -/
theorem cll_go {τ μ0 : S5} {F k T : Nat} {pa nv D E : Nat → Nat} (hS : PSt τ μ0 F k T pa nv) (hD : DSt τ μ0 F T pa nv D) (hE : ESt τ μ0 F T nv E) {σs μs : S5} (hPs : eqP τ σs) (hQs : eqQ μ0 μs) {t0 : Nat} {σ μ : S5} {n : Nat} {tg ct : Nat → Nat} {K : List (Nat × Nat × Nat × Nat × Nat)} {t W V b f e r P R i : Nat} (h : MSv τ μ0 F k T pa nv D E σs μs t0 σ μ n tg ct K t W V b f e r P R i) (hf : f < F) (he : e = b + nv f) (hr : 1 ≤ r) {g had : Nat} {v2 v3 : Int32} (hg : g < F) (hhad : had < pa g) (hi8 : i ≤ 8) (hcall : pa g ≤ had + i) (hv : (had = 0 ∧ v2 = -1 ∧ v3 = -1) ∨ (∃ c, c < n ∧ tg c = 5 ∧ ct c = had ∧ v2 = nI (adr tg ct c) ∧ v3 = nI c)) {Z : Nat} (hZ : R ≤ Z) : GOt τ μ0 F k T pa nv D E σs μs t0 Z σ (f_X3_enterCall (nI g) v2 (nI i) σ) (f_X12_call (nI g) v3 (nI i) μ) := by
  have hnv := hS.nv
  obtain ⟨b1, b2, b3, b4, b5, b6, b7, b8⟩ := h.bd
  obtain ⟨⟨f1, f2, f3⟩, hH, ⟨hn, h0⟩, hMC, hMM, hK, hG, ⟨n1, n2, cl, lf, n3, n4, n5, n6, n7, n8⟩, hvs⟩ := id h
  have hP : eqP τ σ := hPs.fm f1
  have hQ : eqQ μ0 μ := hQs.fm f2
  have hF6 : F ≤ 630 := hS.1.1
  obtain ⟨⟨s1, s2, s3, s4⟩, ⟨v1, v2', v3', v4⟩, c0, p0, z1, z2, z3, z4⟩ := hS.2.2.2.2 g hg
  have hcnt : gA σ 40 2 = nI cl := hn.1.2.2.1.trans n3
  have h47 : gI σ 47 = nI (lf + cl) := by rw [← hn.2.2.2.1, n4, hcnt, nI_plus]
  have hp0 := (z3.p7 v4).1
  obtain ⟨A, c, q0, hA, hc41, hq0, w2, w3, h55, hfl⟩ : ∃ A c q0, A + 2 + had ≤ 4000 ∧ c < 4100 ∧ q0 + had ≤ 4100 ∧ ((had = 0 ∧ v2 = -1) ∨ (1 ≤ had ∧ v2 = nI A ∧ gB σ 14 (A + 1) = (nI had).toInt64)) ∧ ((had = 0 ∧ v3 = -1) ∨ (1 ≤ had ∧ v3 = nI c ∧ gA μ 56 c = nI had)) ∧ (0 < had → gA μ 55 c = nI q0) ∧ ∀ y, y < had → VL τ F pa n tg ct (gB σ 14 (A + 2 + y)) (gB μ 7 (q0 + y)) := by
    rcases hv with ⟨y1, y2, y3⟩ | ⟨c, y1, y2, y3, y4, y5⟩
    · exact ⟨0, 0, 0, by omega, by omega, by omega, Or.inl ⟨y1, y2⟩, Or.inl ⟨y1, y3⟩, fun w => by omega, fun y hy => by omega⟩
    · obtain ⟨⟨hbe, hco⟩, hcell, hfld⟩ := hH.2 c y1
      have hsz := adr_mo tg ct y1
      have hszc : szc tg ct c = ct c + 2 := by
        show ct c + 1 + (if tg c = 5 then 1 else 0) = _
        rw [if_pos y2]
      have hofs : ofs tg c = 2 := by unfold ofs; rw [if_pos y2]
      have h4 := hH.1.2.2.1
      have hpr := pre_mo' ct y1
      have hge := (adr_ge tg ct n).2
      rcases hcell with ⟨d1, -⟩ | ⟨d1, d2, g', d3, d4, d5, d6, d7, d8⟩ | ⟨d1, -⟩
      · omega
      · refine ⟨adr tg ct c, c, pre ct c, by omega, by omega, by omega, Or.inr ⟨by omega, y4, by rw [d6, y3]⟩, Or.inr ⟨by omega, y5, by rw [hco, y3]⟩, fun _ => hbe, fun y hy => ?_⟩
        have := hfld trivial (fun w => by omega) y (by omega)
        rw [hofs] at this
        exact this
      · omega
  by_cases hl0 : lf = 0
  · have hlt : ¬ xA σ 40 2 < gI σ 47 := by
      rw [show xA σ 40 2 = nI cl from hcnt, h47]
      intro w
      have := (nI_lt31 (by omega) (by omega)).mp w
      omega
    refine ovv_go h (a := 3) (b' := 1) (by decide) ?_ ?_
    · unfold f_X3_enterCall
      rw [if_neg hlt, ew_q]
    · unfold f_X12_call
      rw [if_pos (by rw [n4, hl0]; rfl), em_q]
  · have hlt : xA σ 40 2 < gI σ 47 := by
      rw [show xA σ 40 2 = nI cl from hcnt, h47]
      exact (nI_lt31 (by omega) (by omega)).mpr (by omega)
    have h37 : ¬ gI μ 37 = 0 := by
      rw [n4]
      intro w
      exact hl0 (nI_injL (a := lf) (b := 0) (by omega) (by omega) w)
    obtain ⟨σ', p1, p2, p3, pL, p4, p5, p6, p7, p8, ⟨p9, p10, p11, p12⟩, p13, p14, p15⟩ := call_c (t := t) (g := g) (i := i) (A := A) (had := had) (nvg := nv g) (pag := pa g) (v2 := v2) hMC (by omega) (by omega) (by omega) (by rw [hP.x 6 _ (by decide)]; exact v1) v4 (by rw [hP.x 3 _ (by decide)]; exact s1) v3' s3 hhad hi8 hcall hlt w2 hA
    obtain ⟨ν, q1, q2, q3, ⟨q4, q5, q6⟩, q7, q8, q9, q10, q11, ⟨q12, q13, q14⟩, q15, ⟨q16, q17⟩, q18, q19, q20⟩ := call_m (V := V) (g := g) (i := i) (c := c) (p0 := q0) (had := had) (nvg := nv g) (pag := pa g) (v2 := v3) hMM (by omega) (by omega) (by omega) (by omega) (by rw [hQ.x 46 _ (by decide)]; exact v2') v4 (by rw [hQ.x 47 _ (by decide)]; exact s2) v3' s3 hhad hi8 hcall h37 w3 h55 hc41 hq0
    rw [show xA σ 7 (nI g) = c0 by rw [hP.x 7 _ (by decide)]; exact z1] at p1
    rw [show xA μ 45 (nI g) = nI p0 by rw [hQ.x 45 _ (by decide)]; exact z2] at q1
    have hD0 := hD.2 g hg
    have hE0 := hE.2 g hg
    rw [z2, nI_clamp (by omega)] at hD0 hE0
    have hgd : ∀ j, j < e → VL τ F pa n tg ct (gB σ 13 j) (gB μ 9 j) → VL τ F pa n tg ct (gB σ' 13 j) (gB ν 9 j) := fun j hj w => by
      rw [p13 j hj, q18 j hj]
      exact w
    have hK' := SK.mv hnv (Gro.rf n tg ct) K hK p11 q15 q16 hgd
    have hH' : HS τ μ0 F T pa nv σ' ν n tg ct (fun _ => True) := hH.of (by rw [p5]; exact up_n (by decide)) p8 (fun j _ _ => q7 j (by omega) (by omega)) (fun j _ _ => q9 j (by omega) (by omega)) (q10 6 (by decide) (by decide)) (q10 7 (by decide) (by decide))
    have hgood : ∀ x, x < pa g → VL τ F pa n tg ct (gB σ' 13 (e + x)) (gB ν 9 (e + x)) := fun x hx => by
      by_cases hxh : x < had
      · rw [p14 x hxh, q19 x hxh]
        exact hfl x hxh
      · rw [show e + x = e + had + (x - had) by omega, p15 _ (by omega), q20 _ (by omega)]
        exact hvs (x - had) (by omega)
    generalize hL : had + i - pa g = L at *
    have hK1 : ∃ K1 r1, SK τ μ0 F T pa nv σ' ν n tg ct t0 (gB σs 12) K1 (t + L + (if L = 0 then 0 else 1)) (W + (if L = 0 then 0 else 1)) (V + L) b f e r1 ∧ nLU K1 = nLU K ∧ nLC K1 = nLC K ∧ fpK D μ0 K1 = fpK D μ0 K ∧ fqK E μ0 K1 ≤ fqK E μ0 K + 2 := by
      by_cases hl : L = 0
      · refine ⟨K, r, ?_, rfl, rfl, rfl, Nat.le_add_right _ _⟩
        rw [if_pos hl, hl]
        exact hK'
      · obtain ⟨r', rfl⟩ : ∃ r', r = r' + 1 := ⟨r - 1, by omega⟩
        have hnl : nvl 6 L = L := by unfold nvl; rw [if_neg (by omega), if_pos (Or.inr rfl)]
        refine ⟨(6, 0, 0, L, 0) :: K, r', Or.inl ⟨Nat.le_refl _, t, W, V, by rw [if_neg hl, hnl], by rw [if_neg hl], by rw [hnl], ⟨⟨he, hf⟩, fun j hj => ?_, fun w => absurd w (show ¬ (6 : Nat) ≤ 5 by omega), fun _ => ⟨show 1 ≤ L by omega, show L ≤ 8 by omega, p10 hl, (q11 hl).1, (q11 hl).2⟩⟩, hK'⟩, ?_, ?_, ?_, ?_⟩
        · have hj' : j < L := by
            rw [← hnl]
            exact hj
          rw [p12 j hj', q17 j hj', Nat.add_assoc, Nat.add_assoc]
          exact hvs _ (by omega)
        · show (if (6 : Nat) = 7 then 1 else 0) + nLU K = _
          rw [if_neg (by omega), Nat.zero_add]
        · show (if (6 : Nat) = 8 then 1 else 0) + nLC K = _
          rw [if_neg (by omega), Nat.zero_add]
        · show fpF D μ0 (6, 0, 0, L, 0) + _ = _
          unfold fpF
          dsimp only
          rw [if_neg (by decide), if_neg (by decide), if_neg (by decide), Nat.zero_add]
        · show fqF E μ0 (6, 0, 0, L, 0) + _ ≤ _
          unfold fqF
          dsimp only
          rw [if_neg (by decide), if_neg (by decide), if_neg (by decide)]
          omega
    obtain ⟨K1, r1, k1, k2, k3, k4, k5⟩ := hK1
    have eb : blC ν = blC μ := funext (fun x => by unfold blC; rw [q9 53 (by decide) (by decide)])
    have es : spC D ν = spC D μ := funext (fun x => by unfold spC; rw [q9 53 (by decide) (by decide), q9 54 (by decide) (by decide)])
    have ez : spC E ν = spC E μ := funext (fun x => by unfold spC; rw [q9 53 (by decide) (by decide), q9 54 (by decide) (by decide)])
    have hfb : f < 630 := by omega
    have hb : MSb τ μ0 F k T pa nv D E σs μs t0 σ' ν n tg ct ((8, 0, b, f, e) :: K1) (t + L + (if L = 0 then 0 else 1) + 1) (W + (if L = 0 then 0 else 1) + 1) (V + L) e g (e + nv g) 40 (D p0) (R + 4 - 49020) := by
      refine ⟨⟨f1.tr p3, f2.tr q3, f3.eq (q10 7 (by decide) (by decide))⟩, hH', ⟨?_, ?_⟩, p2, q2, Or.inr ⟨Or.inr rfl, t + L + (if L = 0 then 0 else 1), W + (if L = 0 then 0 else 1), r1, rfl, rfl, ⟨⟨rfl, rfl, hg, v4, rfl, hfb, b5⟩, ⟨p9, q12, q13, q14⟩, fun w => absurd w (show ¬ (8 : Nat) = 7 by omega)⟩, k1⟩, ?_, ?_⟩
      · exact nr_call hn p5 p6 (p7 42 (by decide) (by decide)) p4 q4 q5 q6 q7 q8 (q9 58 (by decide) (by decide))
      · rw [q7 44 (by omega) (by omega)]; exact h0
      · unfold GLB at *
        rw [p7 43 (by decide) (by decide), q9 64 (by decide) (by decide)]
        exact hG
      · refine ⟨?_, n2, cl + 1, lf - 1, by rw [q5, n3, nI_add1], by rw [q4, n4, show (1 : Int32) = nI 1 from rfl, nI_sub (by omega)], by omega, ?_, ?_, ?_⟩
        · rw [eb]
          show (if (8 : Nat) = 7 then 1 else 0) + nLU K1 ≤ _
          rw [if_neg (by omega)]
          omega
        · show (if (8 : Nat) = 8 then 1 else 0) + nLC K1 ≤ _
          rw [if_pos rfl]
          omega
        · have e7 : fpK D μ0 ((8, 0, b, f, e) :: K1) = fpK D μ0 K1 := by
            show fpF D μ0 (8, 0, b, f, e) + _ = _
            unfold fpF
            dsimp only
            rw [if_neg (by decide), if_neg (by decide), if_neg (by decide), Nat.zero_add]
          rw [e7, es]
          omega
        · have e8 : fqK E μ0 ((8, 0, b, f, e) :: K1) = 2 + fqK E μ0 K1 := by
            show fqF E μ0 (8, 0, b, f, e) + _ = _
            unfold fqF
            dsimp only
            rw [if_neg (by decide), if_neg (by decide), if_neg (by decide)]
          rw [e8, ez]
          omega
    have hR49 : 49020 ≤ R := by omega
    refine ⟨_, _, p1, q1, pL, Or.inl ⟨n, tg, ct, _, _, _, _, _, _, _, _, _, _, hb.st hnv (fun j w => ?_) (fun _ _ => rfl) (fun _ => rfl) (fun _ => rfl) rfl (fun j w => ?_) (fun _ _ => rfl) (fun _ => rfl) (fun _ => rfl) rfl, Or.inl ⟨c0, p0, fun x => x < pa g, ⟨rfl, rfl, rfl, rfl⟩, z3, hgood, z4, ⟨Nat.le_refl _, by omega⟩, rfl⟩⟩⟩
    · rw [gI_pI, if_neg (by omega), gI_pI, if_neg (by omega)]
    · rw [gI_pI, if_neg (by omega), gI_pI, if_neg (by omega)]
