theorem HS.of {τ μ0 : S5} {F T : Nat} {pa nv : Nat → Nat} {σ μ σ' μ' : S5} {n : Nat} {tg ct : Nat → Nat} {Rd : Nat → Prop} (h : HS τ μ0 F T pa nv σ μ n tg ct Rd) (h40 : gA σ' 40 3 = gA σ 40 3) (h14 : gB σ' 14 = gB σ 14) (hI : ∀ j, 32 ≤ j → j ≤ 34 → gI μ' j = gI μ j) (hA : ∀ j, 53 ≤ j → j ≤ 56 → gA μ' j = gA μ j) (h6 : gB μ' 6 = gB μ 6) (h7 : gB μ' 7 = gB μ 7) : HS τ μ0 F T pa nv σ' μ' n tg ct Rd := by
  unfold HS at *
  rw [hI 32 (by omega) (by omega), hI 33 (by omega) (by omega), hI 34 (by omega) (by omega), h40, h14, hA 53 (by omega) (by omega), hA 54 (by omega) (by omega), hA 55 (by omega) (by omega), hA 56 (by omega) (by omega), h6, h7]
  exact h
/-- both push a value -/
theorem pv_go {τ μ0 : S5} {F k T : Nat} {pa nv D E : Nat → Nat} (hnv : ∀ f, f < F → nv f ≤ 40) {σs μs : S5} {t0 : Nat} {σ μ : S5} {n : Nat} {tg ct : Nat → Nat} {K : List (Nat × Nat × Nat × Nat × Nat)} {t W V b f e r P P' R i : Nat} (h : MSv τ μ0 F k T pa nv D E σs μs t0 σ μ n tg ct K t W V b f e r P R i) {x y : Int64} (v : VL τ F pa n tg ct x y) (hP : P' + 1 ≤ P) : ∃ σ' μ', f_X3_push x σ = some ((), σ') ∧ f_X12_push y μ = some ((), μ') ∧ MSv τ μ0 F k T pa nv D E σs μs t0 σ' μ' n tg ct K t W V b f e r P' R (i + 1) ∧ FpC σ σ' ∧ FwM μ μ' ∧ gN σ 1 ≤ gN σ' 1 ∧ gN σ' 3 = gN σ 3 := by
  obtain ⟨b1, b2, b3, b4, b5, b6, b7, -⟩ := h.bd
  obtain ⟨⟨f1, f2, f3⟩, hH, ⟨hn, h0⟩, hMC, hMM, hK, hG, hB, hvs⟩ := h
  obtain ⟨σ', p1, p2, p3, p4, p5, p6, p7⟩ := push_c hMC (by omega) x
  obtain ⟨μ', q1, q2, q3, q4, q5, q6⟩ := push_m hMM (by omega) y
  have e13 : gB σ' 13 = gB σ 13 := p3.2.2.2.1 13 (by decide)
  have e9 : gB μ' 9 = gB μ 9 := q3.2.2.2.1 9 (by decide)
  obtain ⟨n1, n2, cl, lf, n3, n4, n5, n6, n7, n8⟩ := hB
  have eb : blC μ' = blC μ := funext (fun c => by unfold blC; rw [q4 53])
  have es : spC D μ' = spC D μ := funext (fun c => by unfold spC; rw [q4 53, q4 54])
  have ez : spC E μ' = spC E μ := funext (fun c => by unfold spC; rw [q4 53, q4 54])
  refine ⟨σ', μ', p1, q1, ⟨⟨f1.tr p3.fm, f2.tr q3.fm, f3.eq (q3.2.2.2.1 7 (by decide))⟩, ?_, ⟨?_, ?_⟩, p2, q2, ?_, ?_, ⟨by rw [eb]; exact n1, n2, cl, lf, by rw [q3.1 38 (by omega)]; exact n3, by rw [q3.1 37 (by omega)]; exact n4, n5, n6, by rw [es]; omega, by rw [ez]; omega⟩, fun j hj => ?_⟩, p3, q3, p6, p7⟩
  · exact hH.of (congrFun (p3.2.2.1 40) 3) (p3.2.2.2.1 14 (by decide)) (fun j _ _ => q3.1 j (by omega)) (fun j _ _ => q4 j) (q3.2.2.2.1 6 (by decide)) (q3.2.2.2.1 7 (by decide))
  · exact hn.st (fun x _ => congrFun (p3.2.2.1 40) x) (p3.2.2.1 41) (p3.2.2.1 42) (fun j w => p3.1 j (by omega)) (fun j w => q3.1 j (by omega)) (q4 57) (q4 58)
  · rw [q3.1 44 (by omega)]; exact h0
  · exact SK.mv hnv (Gro.rf n tg ct) K hK (fun j hj => p5 j (by omega)) (fun j _ => by rw [q4 59, q4 60, q4 61]; exact ⟨rfl, rfl, rfl⟩) (fun j hj => q6 j (by omega)) (fun j _ w => by rw [e13, e9]; exact w)
  · unfold GLB at *
    rw [p3.2.2.1 43, q4 64]
    exact hG
  · by_cases hji : j = i
    · subst hji
      rw [p4, q5]
      exact v
    · rw [p5 _ (by omega), q6 _ (by omega)]
      exact hvs j (by omega)
/-- both push a frame of a part -/
theorem fr_go {τ μ0 : S5} {F k T : Nat} {pa nv D E : Nat → Nat} (hnv : ∀ f, f < F → nv f ≤ 40) {σs μs : S5} {t0 : Nat} {σ μ : S5} {n : Nat} {tg ct : Nat → Nat} {K : List (Nat × Nat × Nat × Nat × Nat)} {t W V b f e r P P' R R' i : Nat} (h : MSv τ μ0 F k T pa nv D E σs μs t0 σ μ n tg ct K t W V b f e (r + 1) P R i) {kd a p i0 : Nat} (hkd : 1 ≤ kd ∧ kd ≤ 5) (hi : nvl kd i0 = i) (ha : a < 6200) (hp : p < 7000) (hi0 : i0 < 100) (he : e = b + nv f) {Sc : Nat → Prop} (hN : ND τ μ0 F T nv f (nI a) p Sc) (hg : ∀ x, Sc x → VL τ F pa n tg ct (gB σ 13 (b + x)) (gB μ 9 (b + x))) (hr : hF τ (nI a) ≤ r + 1) (hKC : KCn τ F pa kd a i0) (hP : fpF D μ0 (kd, a, p, i0, 0) + P' ≤ P) (hR : R + fqF E μ0 (kd, a, p, i0, 0) ≤ R') (m : Int32) (hm : kd = 5 → m = nI i0) : ∃ σ' μ', f_X3_push (fr kd a (if kd = 5 then i0 else 0)) σ = some ((), σ') ∧ f_X12_waits (nI (kd + 1)) (nI p) m μ = some ((), μ') ∧ MSb τ μ0 F k T pa nv D E σs μs t0 σ' μ' n tg ct ((kd, a, p, i0, 0) :: K) (t + i + 1) (W + 1) (V + i) b f e r P' R' ∧ FpC σ σ' ∧ FwM μ μ' ∧ gN σ 1 ≤ gN σ' 1 ∧ gN σ' 3 = gN σ 3 := by
  obtain ⟨b1, b2, b3, b4, b5, b6, b7, -⟩ := h.bd
  obtain ⟨⟨f1, f2, f3⟩, hH, ⟨hn, h0⟩, hMC, hMM, hK, hG, hB, hvs⟩ := h
  obtain ⟨σ', p1, p2, p3, p4, p5, p6, p7⟩ := push_c hMC (by omega) (fr kd a (if kd = 5 then i0 else 0))
  obtain ⟨μ', q1, q2, q3, q4, ⟨q5, q6, q7⟩, q8⟩ := wait_m hMM (by omega) (nI (kd + 1)) (nI p) m
  have e13 : gB σ' 13 = gB σ 13 := p3.2.2.2.1 13 (by decide)
  have e9 : gB μ' 9 = gB μ 9 := q3.2.2.2.1 9 (by decide)
  obtain ⟨n1, n2, cl, lf, n3, n4, n5, n6, n7, n8⟩ := hB
  have eA : ∀ j, ¬ (59 ≤ j ∧ j ≤ 61) → gA μ' j = gA μ j := q3.2.2.1
  have eb : blC μ' = blC μ := funext (fun c => by unfold blC; rw [eA 53 (by omega)])
  have es : spC D μ' = spC D μ := funext (fun c => by unfold spC; rw [eA 53 (by omega), eA 54 (by omega)])
  have ez : spC E μ' = spC E μ := funext (fun c => by unfold spC; rw [eA 53 (by omega), eA 54 (by omega)])
  have hK' := SK.mv hnv (Gro.rf n tg ct) K hK (fun j hj => p5 j (by omega)) (fun j hj => q8 j hj) (fun j _ => by rw [q4]) (fun j _ w => by rw [e13, e9]; exact w)
  refine ⟨σ', μ', p1, q1, ⟨⟨f1.tr p3.fm, f2.tr q3.fm, f3.eq (q3.2.2.2.1 7 (by decide))⟩, ?_, ⟨?_, ?_⟩, p2, q2, Or.inl ⟨by omega, t, W, V, by rw [hi], rfl, by rw [hi], ⟨⟨he, hN.1⟩, fun j hj => ?_, fun _ => ⟨hkd.1, ha, hp, hi0, ?_, q5, fun w => by rw [q7]; exact hm w, ⟨Sc, hN, fun x hx => by rw [e13, e9]; exact hg x hx⟩, hr, hKC⟩, fun w => by omega⟩, hK'⟩, ?_, ⟨?_, n2, cl, lf, by rw [q3.1 38 (by omega)]; exact n3, by rw [q3.1 37 (by omega)]; exact n4, n5, ?_, ?_, ?_⟩⟩, p3, q3, p6, p7⟩
  · exact hH.of (congrFun (p3.2.2.1 40) 3) (p3.2.2.2.1 14 (by decide)) (fun j _ _ => q3.1 j (by omega)) (fun j _ _ => eA j (by omega)) (q3.2.2.2.1 6 (by decide)) (q3.2.2.2.1 7 (by decide))
  · exact hn.st (fun x _ => congrFun (p3.2.2.1 40) x) (p3.2.2.1 41) (p3.2.2.1 42) (fun j w => p3.1 j (by omega)) (fun j w => q3.1 j (by omega)) (eA 57 (by omega)) (eA 58 (by omega))
  · rw [q3.1 44 (by omega)]; exact h0
  · rw [hi] at hj
    rw [p5 _ (by omega), q4]
    exact hvs j hj
  · rw [hi]; exact p4
  · unfold GLB at *
    rw [p3.2.2.1 43, eA 64 (by omega)]
    exact hG
  · rw [eb]
    show (if kd = 7 then 1 else 0) + nLU K ≤ _
    rw [if_neg (by omega)]
    omega
  · show (if kd = 8 then 1 else 0) + nLC K ≤ _
    rw [if_neg (by omega)]
    omega
  · rw [es]
    show V + i + _ + (fpF D μ0 (kd, a, p, i0, 0) + fpK D μ0 K) + P' ≤ _
    omega
  · rw [ez]
    show _ + (fqF E μ0 (kd, a, p, i0, 0) + fqK E μ0 K) + _ ≤ _
    omega
/-- both push a frame for an application -/
theorem fr6_go {τ μ0 : S5} {F k T : Nat} {pa nv D E : Nat → Nat} (hnv : ∀ f, f < F → nv f ≤ 40) {σs μs : S5} {t0 : Nat} {σ μ : S5} {n : Nat} {tg ct : Nat → Nat} {K : List (Nat × Nat × Nat × Nat × Nat)} {t W V b f e r P R R' i : Nat} (h : MSv τ μ0 F k T pa nv D E σs μs t0 σ μ n tg ct K t W V b f e (r + 1) P R i) (hi1 : 1 ≤ i) (hi8 : i ≤ 8) (hR : R + 2 ≤ R') (hf : f < F) (he : e = b + nv f) : ∃ σ' μ', f_X3_push (fr 6 i 0) σ = some ((), σ') ∧ f_X12_waits 7 0 (nI i) μ = some ((), μ') ∧ MSb τ μ0 F k T pa nv D E σs μs t0 σ' μ' n tg ct ((6, 0, 0, i, 0) :: K) (t + i + 1) (W + 1) (V + i) b f e r P R' ∧ FpC σ σ' ∧ FwM μ μ' ∧ gN σ 1 ≤ gN σ' 1 ∧ gN σ' 3 = gN σ 3 := by
  obtain ⟨b1, b2, b3, b4, b5, b6, b7, -⟩ := h.bd
  obtain ⟨⟨f1, f2, f3⟩, hH, ⟨hn, h0⟩, hMC, hMM, hK, hG, hB, hvs⟩ := h
  obtain ⟨σ', p1, p2, p3, p4, p5, p6, p7⟩ := push_c hMC (by omega) (fr 6 i 0)
  obtain ⟨μ', q1, q2, q3, q4, ⟨q5, q6, q7⟩, q8⟩ := wait_m hMM (by omega) 7 0 (nI i)
  have e13 : gB σ' 13 = gB σ 13 := p3.2.2.2.1 13 (by decide)
  have e9 : gB μ' 9 = gB μ 9 := q3.2.2.2.1 9 (by decide)
  obtain ⟨n1, n2, cl, lf, n3, n4, n5, n6, n7, n8⟩ := hB
  have eA : ∀ j, ¬ (59 ≤ j ∧ j ≤ 61) → gA μ' j = gA μ j := q3.2.2.1
  have eb : blC μ' = blC μ := funext (fun c => by unfold blC; rw [eA 53 (by omega)])
  have es : spC D μ' = spC D μ := funext (fun c => by unfold spC; rw [eA 53 (by omega), eA 54 (by omega)])
  have ez : spC E μ' = spC E μ := funext (fun c => by unfold spC; rw [eA 53 (by omega), eA 54 (by omega)])
  have hK' := SK.mv hnv (Gro.rf n tg ct) K hK (fun j hj => p5 j (by omega)) (fun j hj => q8 j hj) (fun j _ => by rw [q4]) (fun j _ w => by rw [e13, e9]; exact w)
  have hnl : nvl 6 i = i := by unfold nvl; rw [if_neg (by omega), if_pos (Or.inr rfl)]
  refine ⟨σ', μ', p1, q1, ⟨⟨f1.tr p3.fm, f2.tr q3.fm, f3.eq (q3.2.2.2.1 7 (by decide))⟩, ?_, ⟨?_, ?_⟩, p2, q2, Or.inl ⟨Nat.le_refl _, t, W, V, by rw [hnl], rfl, by rw [hnl], ⟨⟨he, hf⟩, fun j hj => ?_, fun w => absurd w (show ¬ (6 : Nat) ≤ 5 by omega), fun _ => ⟨hi1, hi8, p4, q5, q7⟩⟩, hK'⟩, ?_, ⟨?_, n2, cl, lf, by rw [q3.1 38 (by omega)]; exact n3, by rw [q3.1 37 (by omega)]; exact n4, n5, ?_, ?_, ?_⟩⟩, p3, q3, p6, p7⟩
  · exact hH.of (congrFun (p3.2.2.1 40) 3) (p3.2.2.2.1 14 (by decide)) (fun j _ _ => q3.1 j (by omega)) (fun j _ _ => eA j (by omega)) (q3.2.2.2.1 6 (by decide)) (q3.2.2.2.1 7 (by decide))
  · exact hn.st (fun x _ => congrFun (p3.2.2.1 40) x) (p3.2.2.1 41) (p3.2.2.1 42) (fun j w => p3.1 j (by omega)) (fun j w => q3.1 j (by omega)) (eA 57 (by omega)) (eA 58 (by omega))
  · rw [q3.1 44 (by omega)]; exact h0
  · have hj' : j < i := by
      rw [← hnl]
      exact hj
    rw [p5 _ (by omega), q4]
    exact hvs j hj'
  · unfold GLB at *
    rw [p3.2.2.1 43, eA 64 (by omega)]
    exact hG
  · rw [eb]
    show (if (6 : Nat) = 7 then 1 else 0) + nLU K ≤ _
    rw [if_neg (by omega)]
    omega
  · show (if (6 : Nat) = 8 then 1 else 0) + nLC K ≤ _
    rw [if_neg (by omega)]
    omega
  · rw [es]
    have e7 : fpK D μ0 ((6, 0, 0, i, 0) :: K) = fpK D μ0 K := by
      show fpF D μ0 (6, 0, 0, i, 0) + _ = _
      unfold fpF
      dsimp only
      rw [if_neg (by decide), if_neg (by decide), if_neg (by decide), Nat.zero_add]
    rw [e7]
    omega
  · rw [ez]
    have e8 : fqK E μ0 ((6, 0, 0, i, 0) :: K) = 2 + fqK E μ0 K := by
      show fqF E μ0 (6, 0, 0, i, 0) + _ = _
      unfold fqF
      dsimp only
      rw [if_neg (by decide), if_neg (by decide), if_neg (by decide)]
    rw [e8]
    omega
