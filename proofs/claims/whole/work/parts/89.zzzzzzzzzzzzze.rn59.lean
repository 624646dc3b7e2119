/-- behind a function's or a suspension's E: BACK -/
theorem back_go {τ μ0 : S5} {F k T : Nat} {pa nv D E : Nat → Nat} (hS : PSt τ μ0 F k T pa nv) {σs μs : S5} {t0 : Nat} {σ μ : S5} {n : Nat} {tg ct : Nat → Nat} {x : Nat × Nat × Nat × Nat × Nat} {K : List (Nat × Nat × Nat × Nat × Nat)} {t W V b f e r P R : Nat} (h : MSb τ μ0 F k T pa nv D E σs μs t0 σ μ n tg ct (x :: K) t W V b f e r P R) (hx : x.1 = 7 ∨ x.1 = 8) : ∃ t' W' r' σ1 μ1, f_X3_resume σ = some ((), σ1) ∧ f_X12_goOn μ = some ((), μ1) ∧ (FmC σs σ1 ∧ FmM μs μ1 ∧ OLD μs μ1 n tg ct) ∧ HS τ μ0 F T pa nv σ1 μ1 n tg ct (fun _ => True) ∧ (NR σ1 μ1 ∧ gI μ1 44 = 0) ∧ MC σ1 (t' + (if x.1 = 7 then 1 else 0)) x.2.2.1 x.2.2.2.1 x.2.2.2.2 ∧ MM μ1 (W' + (if x.1 = 7 then 1 else 0)) V x.2.2.1 x.2.2.2.2 ∧ SK τ μ0 F T pa nv σ1 μ1 n tg ct t0 (gB σs 12) K t' W' V x.2.2.1 x.2.2.2.1 x.2.2.2.2 r' ∧ GLB k pa σ1 μ1 n tg ct ∧ (x.1 = 7 → x.2.1 < n ∧ tg x.2.1 = 6 ∧ gB σ1 12 t' = fr 7 (adr tg ct x.2.1) 0 ∧ gA μ1 59 W' = wt 0 0 ∧ gA μ1 61 W' = nI x.2.1) ∧ (gI σ1 45 = gI σ 45 ∧ gJ σ1 5 = gJ σ 5 ∧ gI μ1 53 = gI μ 53 ∧ gJ μ1 1 = gJ μ 1) ∧ (gN σ1 1 = gN σ 1 ∧ gN σ1 3 = gN σ 3) ∧ (∀ j, gA μ1 j = gA μ j) ∧ (∀ j, 36 ≤ j → j ≤ 38 → gI μ1 j = gI μ j) ∧ W' + 2 < 202000 := by
  have hnv := hS.nv
  obtain ⟨b1, b2, b3, b4, b5, b6, b7⟩ := h.bd
  obtain ⟨⟨f1, f2, f3⟩, hH, ⟨hn, h0⟩, ⟨⟨m1, m2, m3, m4⟩, m5, m6, m7, m8⟩, ⟨q1, q2, q3, q4⟩, hK, hG, hB⟩ := h
  rcases hK with ⟨a0, -⟩ | ⟨a0, t', W', r', a1, a2, ⟨⟨d1, d2, d3, d4, d5, d6, d7⟩, ⟨d8, d9, d10, d11⟩, d12⟩, a5⟩
  · omega
  · obtain ⟨u, hu⟩ : ∃ u, u = if x.1 = 7 then 1 else 0 := ⟨_, rfl⟩
    rw [← hu] at a1 a2 d8 d9 d10 d11
    rw [← hu]
    have hu1 : u ≤ 1 := by
      rw [hu]
      split <;> omega
    have l1 := m5.b
    have e40 : gI σ 40 - 1 = nI (t' + u) := by
      rw [m1, show (1 : Int32) = nI 1 from rfl, nI_sub (by omega), a1]
      rfl
    have h40 : 0 < gI σ 40 := by
      rw [m1, show (0 : Int32) = nI 0 from rfl]
      exact (nI_lt31 (by omega) (by omega)).mpr (by omega)
    have hpop : f_X3_pop σ = some (fr 8 x.2.2.1 x.2.2.2.1, pI σ 40 (nI (t' + u))) := by
      unfold f_X3_pop
      rw [if_pos h40, e40, gdn (by omega) (by omega), xB_at (by omega), d8]
    have h48 : gI μ 48 - 1 = nI (W' + u) := by
      rw [q1, show (1 : Int32) = nI 1 from rfl, nI_sub (by omega), a2]
      rfl
    have hrs : f_X3_resume σ = some ((), pI (pI (pI (pI σ 40 (nI (t' + u))) 42 (gI σ 41)) 41 (nI x.2.2.1)) 43 (nI x.2.2.2.1)) := by
      rw [(rs_hd h40 hpop (by omega) (by omega) (by omega)).2.2.2.2.2.2.2.1 rfl]
      unfold f_X3_closeVariables
      rw [bd_of]
      show gq (gN σ 1) (gN σ 1) (gq (gN σ 3) (gN σ 3) _) = _
      rw [gq_r, gq_r]
      rfl
    have hgo : f_X12_goOn μ = some ((), pI (pI (pI μ 48 (nI (W' + u))) 50 (gA μ 60 (W' + u))) 51 (gA μ 61 (W' + u))) := (go_hd (kd := 1) (p := 0) h48 (by omega) d9 (by omega) (by omega)).2.1 rfl
    rw [d10, d11] at hgo
    rw [m2, d1] at hrs
    obtain ⟨σ1, e1⟩ : ∃ z, z = pI (pI (pI (pI σ 40 (nI (t' + u))) 42 (nI x.2.2.2.2)) 41 (nI x.2.2.1)) 43 (nI x.2.2.2.1) := ⟨_, rfl⟩
    obtain ⟨μ1, e2⟩ : ∃ z, z = pI (pI (pI μ 48 (nI (W' + u))) 50 (nI x.2.2.1)) 51 (nI x.2.2.2.2) := ⟨_, rfl⟩
    rw [← e1] at hrs
    rw [← e2] at hgo
    have sI : ∀ j, ¬ (40 ≤ j ∧ j ≤ 43) → gI σ1 j = gI σ j := fun j w => by rw [e1, gI_pI, if_neg (by omega), gI_pI, if_neg (by omega), gI_pI, if_neg (by omega), gI_pI, if_neg (by omega)]
    have sJ : ∀ j, gJ σ1 j = gJ σ j := fun j => by rw [e1]; rfl
    have sA : ∀ j, gA σ1 j = gA σ j := fun j => by rw [e1]; rfl
    have sB : ∀ j, gB σ1 j = gB σ j := fun j => by rw [e1]; rfl
    have sN : ∀ j, gN σ1 j = gN σ j := fun j => by rw [e1]; rfl
    have uI : ∀ j, ¬ (48 ≤ j ∧ j ≤ 51) → gI μ1 j = gI μ j := fun j w => by rw [e2, gI_pI, if_neg (by omega), gI_pI, if_neg (by omega), gI_pI, if_neg (by omega)]
    have uJ : ∀ j, gJ μ1 j = gJ μ j := fun j => by rw [e2]; rfl
    have uA : ∀ j, gA μ1 j = gA μ j := fun j => by rw [e2]; rfl
    have uB : ∀ j, gB μ1 j = gB μ j := fun j => by rw [e2]; rfl
    have uN : μ1.2.2.2.2 = μ.2.2.2.2 := by rw [e2]; rfl
    refine ⟨t', W', r', σ1, μ1, hrs, hgo, ⟨f1.tr ⟨fun j w => sI j (by omega), fun j _ => sJ j, fun j _ => sA j, fun j _ => sB j, fun k _ _ => sN k⟩, f2.tr ⟨fun j w w' => uI j (by omega), fun j _ => uJ j, fun j _ => uA j, fun j _ => uB j, uN⟩, f3.eq (uB 7)⟩, ?_, ⟨?_, ?_⟩, ⟨⟨?_, ?_, ?_, ?_⟩, ?_, ?_, ?_, ?_⟩, ⟨?_, ?_, ?_, ?_⟩, ?_, ?_, fun w => ?_, ⟨sI 45 (by omega), sJ 5, uI 53 (by omega), uJ 1⟩, ⟨sN 1, sN 3⟩, uA, fun j w w' => uI j (by omega), by omega⟩
    · exact hH.of (by rw [sA]) (sB 14) (fun j _ _ => uI j (by omega)) (fun j _ _ => uA j) (uB 6) (uB 7)
    · exact hn.st (fun y _ => by rw [sA]) (sA 41) (sA 42) (fun j w => sI j (by omega)) (fun j w => uI j (by omega)) (uA 57) (uA 58)
    · rw [uI 44 (by omega)]; exact h0
    · rw [e1]; rfl
    · rw [e1]; rfl
    · rw [e1]; rfl
    · rw [e1]; rfl
    · rw [sN]; exact m5
    · rw [sN]; omega
    · rw [sN]; exact m7
    · rw [sN]; omega
    · rw [e2]; rfl
    · exact (show gI μ1 49 = gI μ 49 by rw [e2]; rfl).trans q2
    · rw [e2]; rfl
    · rw [e2]; rfl
    · exact SK.mv hnv (Gro.rf n tg ct) K a5 (fun j _ => by rw [sB]) (fun j _ => by rw [uA, uA, uA]; exact ⟨rfl, rfl, rfl⟩) (fun j _ => by rw [uB]) (fun j _ w => by rw [sB, uB]; exact w)
    · unfold GLB at *
      rw [sA, uA]
      exact hG
    · obtain ⟨g1, g2, g3, g4, g5⟩ := d12 w
      exact ⟨g1, g2, by rw [sB]; exact g3, by rw [uA]; exact g4, by rw [uA]; exact g5⟩
/-- BACK to a caller -/
theorem rs8 {τ μ0 : S5} {F k T : Nat} {pa nv D E : Nat → Nat} (hS : PSt τ μ0 F k T pa nv) {σs μs : S5} {t0 : Nat} {σ μ : S5} {n : Nat} {tg ct : Nat → Nat} {x : Nat × Nat × Nat × Nat × Nat} {K : List (Nat × Nat × Nat × Nat × Nat)} {t W V b f e r P R Z : Nat} (h : MSb τ μ0 F k T pa nv D E σs μs t0 σ μ n tg ct (x :: K) t W V b f e r P R) (hx : x.1 = 8) (hv : GvM τ F pa σ μ n tg ct) (hZ : R ≤ Z + 1) : GOt τ μ0 F k T pa nv D E σs μs t0 Z σ (f_X3_resume σ) (f_X12_goOn μ) := by
  obtain ⟨t', W', r', σ1, μ1, w1, w2, w3, w4, w5, w6, w7, w8, w9, -, ⟨v1, v2, v3, v4⟩, ⟨l1, l3⟩, w12, w13, -⟩ := back_go hS h (Or.inr hx)
  rw [if_neg (by omega), Nat.add_zero] at w6 w7
  obtain ⟨-, -, -, -, -, -, -, ⟨n1, n2, cl, lf, n3, n4, n5, n6, n7, n8⟩⟩ := h
  have eU : nLU (x :: K) = (if x.1 = 7 then 1 else 0) + nLU K := rfl
  have eC : nLC (x :: K) = (if x.1 = 8 then 1 else 0) + nLC K := rfl
  rw [if_neg (by omega)] at eU
  rw [if_pos hx] at eC
  have eF : fpK D μ0 (x :: K) = fpF D μ0 x + fpK D μ0 K := rfl
  have eQ : fqK E μ0 (x :: K) = fqF E μ0 x + fqK E μ0 K := rfl
  have eq2 : fqF E μ0 x = 2 + 0 := by
    unfold fqF
    rw [if_neg (by omega), if_neg (by omega), if_neg (by omega)]
  have eb : blC μ1 = blC μ := funext (fun c => by unfold blC; rw [w12])
  have es : ∀ G : Nat → Nat, spC G μ1 = spC G μ := fun G => funext (fun c => by unfold spC; rw [w12, w12])
  exact ⟨σ1, μ1, w1, w2, ⟨Nat.le_of_eq l1.symm, Nat.le_of_eq l3.symm⟩, Or.inl ⟨n, tg, ct, K, t', W', V, _, _, _, r', P, R - 2, ⟨w3, w4, w5, w6, w7, w8, w9, ⟨by rw [eb]; omega, n2, cl, lf, by rw [w13 38 (by omega) (by omega)]; exact n3, by rw [w13 37 (by omega) (by omega)]; exact n4, n5, by omega, by rw [es]; omega, by rw [es]; omega⟩⟩, Or.inr ⟨⟨v1.trans hv.1, v3.trans hv.2.1, by rw [v2, v4]; exact hv.2.2⟩, by omega⟩⟩⟩
/-- a suspension gets its value: the numbers -/
theorem nr_up {σ μ σ' μ' : S5} (h : NR σ μ) (h40 : gA σ' 40 = upd (gA σ 40) 7 (gA σ 40 7 + 1)) (h41 : gA σ' 41 = gA σ 41) (h42 : gA σ' 42 = gA σ 42) (hI : ∀ j, j = 46 ∨ j = 47 ∨ j = 64 ∨ j = 65 → gI σ' j = gI σ j) (m42 : gI μ' 42 = gI μ 42 + 1) (mI : ∀ j, 34 ≤ j ∧ j ≤ 47 → ¬ j = 42 → gI μ' j = gI μ j) (m57 : gA μ' 57 = gA μ 57) (m58 : gA μ' 58 = gA μ 58) : NR σ' μ' := by
  obtain ⟨⟨r0, r1, r2, r3, r4, r5, r6, r7, r8, r9, q1, q2, q3, q4⟩, a1, a2, a3, a4⟩ := h
  have gx : ∀ x, ¬ x = 7 → gA σ' 40 x = gA σ 40 x := fun x a => by rw [h40, up_n a]
  refine ⟨⟨?_, ?_, ?_, ?_, ?_, ?_, ?_, ?_, ?_, ?_, ?_, ?_, ?_, ?_⟩, ?_, ?_, ?_, ?_⟩
  · rw [gx 0 (by omega), mI 44 (by omega) (by omega)]; exact r0
  · rw [gx 1 (by omega), mI 45 (by omega) (by omega)]; exact r1
  · rw [gx 2 (by omega), mI 38 (by omega) (by omega)]; exact r2
  · rw [gx 3 (by omega), mI 34 (by omega) (by omega)]; exact r3
  · rw [gx 4 (by omega), mI 39 (by omega) (by omega)]; exact r4
  · rw [gx 5 (by omega), mI 40 (by omega) (by omega)]; exact r5
  · rw [gx 6 (by omega), mI 41 (by omega) (by omega)]; exact r6
  · rw [h40, up_s, m42, r7]
  · rw [gx 8 (by omega), mI 43 (by omega) (by omega)]; exact r8
  · rw [gx 9 (by omega), mI 46 (by omega) (by omega)]; exact r9
  · rw [mI 46 (by omega) (by omega)]; exact q1
  · rw [mI 46 (by omega) (by omega)]; exact q2
  · rw [mI 46 (by omega) (by omega), h42, m58]; exact q3
  · rw [h41, m57]; exact q4
  · rw [mI 35 (by omega) (by omega), hI 65 (by omega), gx 3 (by omega)]; exact a1
  · rw [mI 36 (by omega) (by omega), hI 64 (by omega), gx 2 (by omega)]; exact a2
  · rw [mI 37 (by omega) (by omega), gx 2 (by omega), hI 47 (by omega)]; exact a3
  · rw [hI 46 (by omega), mI 47 (by omega) (by omega)]; exact a4
/-- BACK and UPDATE: two steps -/
theorem rs7 {τ μ0 : S5} {F k T : Nat} {pa nv D E : Nat → Nat} (hS : PSt τ μ0 F k T pa nv) {σs μs : S5} {t0 : Nat} {σ μ : S5} {n : Nat} {tg ct : Nat → Nat} {x : Nat × Nat × Nat × Nat × Nat} {K : List (Nat × Nat × Nat × Nat × Nat)} {t W V b f e r P R Z : Nat} (h : MSb τ μ0 F k T pa nv D E σs μs t0 σ μ n tg ct (x :: K) t W V b f e r P R) (hx : x.1 = 7) (hv : GvM τ F pa σ μ n tg ct) (hZ : R ≤ Z + 2) : ∃ σ1 μ1, f_X3_resume σ = some ((), σ1) ∧ f_X12_goOn μ = some ((), μ1) ∧ (gN σ 1 ≤ gN σ1 1 ∧ gN σ 3 ≤ gN σ1 3) ∧ (xA σ1 40 0 = 0 ∧ gI σ1 45 = 0 ∧ gI μ1 44 = 0 ∧ ¬ gI μ1 53 = 0 ∧ ¬ gI μ1 48 ≤ 0) ∧ GOt τ μ0 F k T pa nv D E σs μs t0 Z σ1 (f_X3_resume σ1) (f_X12_goOn μ1) := by
  have hnv := hS.nv
  obtain ⟨t', W', r', σ1, μ1, w1, w2, w3, w4, w5, w6, w7, w8, w9, w10, ⟨v1, v2, v3, v4⟩, ⟨l1, l3⟩, w12, w13, hW'⟩ := back_go hS h (Or.inl hx)
  rw [if_pos hx] at w6 w7
  obtain ⟨c1, c2, c3, c4, c5⟩ := w10 hx
  obtain ⟨b1, b2, b3, b4, b5, b6, b7⟩ := h.bd
  obtain ⟨-, -, -, -, -, -, -, ⟨n1, n2, cl, lf, n3, n4, n5, n6, n7, n8⟩⟩ := h
  obtain ⟨⟨m1, m2, m3, m4⟩, m5, m6, m7, m8⟩ := w6
  obtain ⟨q1, q2, q3, q4⟩ := w7
  have l1' := m5.b
  generalize x.2.1 = c at *
  have hA4 := adr_mo tg ct c1
  have hz : szc tg ct c = ct c + 1 + if tg c = 5 then 1 else 0 := rfl
  have h4 := w4.1.2.2.1
  have e40 : gI σ1 40 - 1 = nI t' := by
    rw [m1, show (1 : Int32) = nI 1 from rfl, nI_sub (by omega)]
    rfl
  have h40 : 0 < gI σ1 40 := by
    rw [m1, show (0 : Int32) = nI 0 from rfl]
    exact (nI_lt31 (by omega) (by omega)).mpr (by omega)
  have hpop : f_X3_pop σ1 = some (fr 7 (adr tg ct c) 0, pI σ1 40 (nI t')) := by
    unfold f_X3_pop
    rw [if_pos h40, e40, gdn (by omega) (by omega), xB_at (by omega), c3]
  have h48 : gI μ1 48 - 1 = nI W' := by
    rw [q1, show (1 : Int32) = nI 1 from rfl, nI_sub (by omega)]
    rfl
  have hv1 : VL τ F pa n tg ct (gJ σ1 5) (gJ μ1 1) := by
    rw [v2, v4]
    exact hv.2.2
  obtain ⟨σ2, e1⟩ : ∃ z, z = pA (pB (pI σ1 40 (nI t')) 14 (nI (adr tg ct c)) (gJ σ1 5)) 40 7 ((xA σ1 40 7) + 1) := ⟨_, rfl⟩
  obtain ⟨μ2, e2⟩ : ∃ z, z = pI (pB (pA (pI μ1 48 (nI W')) 53 (nI c) 4) 6 (nI c) (gJ μ1 1)) 42 ((gI μ1 42) + 1) := ⟨_, rfl⟩
  have hrs : f_X3_resume σ1 = some ((), σ2) := by
    rw [(rs_hd h40 hpop (by omega) (by omega) (by omega)).2.2.2.2.2.2.1 rfl]
    unfold f_X0_update
    rw [gdn (by omega) (by omega), bd_of]
    show gq (gN σ1 1) (gN σ1 1) (gq (gN σ1 3) (gN σ1 3) _) = _
    rw [gq_r, gq_r, e1]
    rfl
  have hgo : f_X12_goOn μ1 = some ((), μ2) := by
    rw [(go_hd (kd := 0) (p := 0) h48 (by omega) c4 (by omega) (by omega)).1 rfl, c5, gdn (by omega) (by omega), gdn (by omega) (by omega), e2]
  have sI : ∀ j, ¬ j = 40 → gI σ2 j = gI σ1 j := fun j w => by
    rw [e1]
    show gI (pI σ1 40 _) j = _
    rw [gI_pI, if_neg w]
  have sJ : ∀ j, gJ σ2 j = gJ σ1 j := fun j => by rw [e1]; rfl
  have sA40 : gA σ2 40 = upd (gA σ1 40) 7 (gA σ1 40 7 + 1) := by rw [e1]; rfl
  have sA : ∀ j, ¬ j = 40 → gA σ2 j = gA σ1 j := fun j w => by rw [e1, gA_pA_ne w]; rfl
  have sB : ∀ j, ¬ j = 14 → gB σ2 j = gB σ1 j := fun j w => by
    rw [e1]
    show gB (pB (pI σ1 40 (nI t')) 14 _ _) j = _
    rw [gB_pB_ne w]
    rfl
  have sB14 : gB σ2 14 (adr tg ct c) = gJ σ1 5 := by
    rw [e1]
    show gB (pB (pI σ1 40 (nI t')) 14 (nI (adr tg ct c)) (gJ σ1 5)) 14 _ = _
    rw [gB_s (by omega)]
  have sB14n : ∀ j, ¬ j = adr tg ct c → gB σ2 14 j = gB σ1 14 j := fun j w => by
    rw [e1]
    show gB (pB (pI σ1 40 (nI t')) 14 (nI (adr tg ct c)) (gJ σ1 5)) 14 _ = _
    rw [gB_n (by omega) w]
    rfl
  have sN : ∀ j, gN σ2 j = gN σ1 j := fun j => by rw [e1]; rfl
  have uI : ∀ j, ¬ j = 42 → ¬ j = 48 → gI μ2 j = gI μ1 j := fun j w w' => by
    rw [e2, gI_pI, if_neg w]
    show gI (pI μ1 48 _) j = _
    rw [gI_pI, if_neg w']
  have uJ : ∀ j, gJ μ2 j = gJ μ1 j := fun j => by rw [e2]; rfl
  have uA53 : gA μ2 53 = upd (gA μ1 53) c 4 := by
    rw [e2]
    show upd (gA μ1 53) (nI c).toNatClampNeg 4 = _
    rw [nI_clamp (by omega)]
  have uA : ∀ j, ¬ j = 53 → gA μ2 j = gA μ1 j := fun j w => by
    rw [e2]
    show gA (pA (pI μ1 48 (nI W')) 53 (nI c) 4) j = _
    rw [gA_pA_ne w]
    rfl
  have uB : ∀ j, ¬ j = 6 → gB μ2 j = gB μ1 j := fun j w => by
    rw [e2]
    show gB (pB (pA (pI μ1 48 (nI W')) 53 (nI c) 4) 6 (nI c) (gJ μ1 1)) j = _
    rw [gB_pB_ne w]
    rfl
  have uB6 : gB μ2 6 c = gJ μ1 1 := by
    rw [e2]
    show gB (pB (pA (pI μ1 48 (nI W')) 53 (nI c) 4) 6 (nI c) (gJ μ1 1)) 6 c = _
    rw [gB_s (by omega)]
  have uB6n : ∀ d, ¬ d = c → gB μ2 6 d = gB μ1 6 d := fun d w => by
    rw [e2]
    show gB (pB (pA (pI μ1 48 (nI W')) 53 (nI c) 4) 6 (nI c) (gJ μ1 1)) 6 d = _
    rw [gB_n (by omega) w]
    rfl
  have uN : μ2.2.2.2.2 = μ1.2.2.2.2 := by rw [e2]; rfl
  have hH2 : HS τ μ0 F T pa nv σ2 μ2 n tg ct (fun _ => True) := hs_ch w4 c1 c2 (fun j a b => uI j (by omega) (by omega)) (by rw [sA40]; exact up_n (by decide)) uA53 (fun j a b => uA j (by omega)) (uB 7 (by decide)) uB6n sB14 sB14n (Or.inr ⟨rfl, by rw [uB6]; exact hv1⟩)
  have eU : nLU (x :: K) = (if x.1 = 7 then 1 else 0) + nLU K := rfl
  have eC : nLC (x :: K) = (if x.1 = 8 then 1 else 0) + nLC K := rfl
  rw [if_pos hx] at eU
  rw [if_neg (by omega)] at eC
  have eF : fpK D μ0 (x :: K) = fpF D μ0 x + fpK D μ0 K := rfl
  have eQ : fqK E μ0 (x :: K) = fqF E μ0 x + fqK E μ0 K := rfl
  have eq2 : fqF E μ0 x = 2 + 0 := by
    unfold fqF
    rw [if_neg (by omega), if_neg (by omega), if_neg (by omega)]
  have eb : blC μ1 = blC μ := funext (fun c => by unfold blC; rw [w12])
  have es : ∀ G : Nat → Nat, spC G μ1 = spC G μ := fun G => funext (fun c => by unfold spC; rw [w12, w12])
  have pb := (pre_upd (w := blC μ1) (w' := blC μ2) (c := c) (fun i hi => by unfold blC; rw [uA53, up_n hi]) n).1 c1
  have pb0 : blC μ2 c = 0 := by
    unfold blC
    rw [uA53, up_s, if_neg (by decide)]
  have pb1 : blC μ1 c ≤ 1 := by
    unfold blC
    split <;> omega
  have ps : ∀ G : Nat → Nat, pre (spC G μ2) n ≤ pre (spC G μ) n := fun G => by
    have a := (pre_upd (w := spC G μ1) (w' := spC G μ2) (c := c) (fun i hi => by unfold spC; rw [uA53, up_n hi, uA 54 (by decide)]) n).1 c1
    have a0 : spC G μ2 c = 0 := by
      unfold spC
      rw [uA53, up_s, if_neg (by decide)]
    rw [es] at a
    omega
  have psD := ps D
  have psE := ps E
  rw [eb] at pb
  have pb1' : blC μ c ≤ 1 := by rw [← eb]; exact pb1
  refine ⟨σ1, μ1, w1, w2, ⟨Nat.le_of_eq l1.symm, Nat.le_of_eq l3.symm⟩, ⟨w5.1.1.1.trans w5.2, v1.trans hv.1, w5.2, ?_, ?_⟩, σ2, μ2, hrs, hgo, ⟨Nat.le_of_eq (sN 1).symm, Nat.le_of_eq (sN 3).symm⟩, Or.inl ⟨n, tg, ct, K, t', W', V, x.2.2.1, x.2.2.2.1, x.2.2.2.2, r', P, R - 2, ⟨⟨w3.1.tr ⟨fun j w => sI j (by omega), fun j _ => sJ j, fun j w => sA j (by omega), fun j w => sB j (by omega), fun k _ _ => sN k⟩, w3.2.1.tr ⟨fun j w w' => uI j (by omega) (by omega), fun j _ => uJ j, fun j w => uA j (by omega), fun j w => uB j (by omega), uN⟩, w3.2.2.eq (uB 7 (by decide))⟩, hH2, ⟨?_, ?_⟩, ⟨⟨?_, ?_, ?_, ?_⟩, ?_, ?_, ?_, ?_⟩, ⟨?_, ?_, ?_, ?_⟩, ?_, ?_, ⟨?_, n2, cl, lf, ?_, ?_, n5, ?_, ?_, ?_⟩⟩, Or.inr ⟨⟨?_, ?_, ?_⟩, by omega⟩⟩⟩
  · rw [v3, hv.2.1]; decide
  · rw [q1]; exact nle0 (by omega) (by omega)
  · exact nr_up w5.1 sA40 (sA 41 (by decide)) (sA 42 (by decide)) (fun j w => sI j (by omega)) (by rw [e2]; rfl) (fun j w w' => uI j w' (by omega)) (uA 57 (by decide)) (uA 58 (by decide))
  · rw [uI 44 (by omega) (by omega)]; exact w5.2
  · rw [e1]; rfl
  · rw [sI 41 (by decide)]; exact m2
  · rw [sI 42 (by decide)]; exact m3
  · rw [sI 43 (by decide)]; exact m4
  · rw [sN]; exact m5
  · rw [sN]; omega
  · rw [sN]; exact m7
  · rw [sN]; exact m8
  · rw [e2]; rfl
  · rw [uI 49 (by omega) (by omega)]; exact q2
  · rw [uI 50 (by omega) (by omega)]; exact q3
  · rw [uI 51 (by omega) (by omega)]; exact q4
  · exact SK.mv hnv (Gro.rf n tg ct) K w8 (fun j _ => by rw [sB 12 (by decide)]) (fun j _ => by rw [uA 59 (by decide), uA 60 (by decide), uA 61 (by decide)]; exact ⟨rfl, rfl, rfl⟩) (fun j _ => by rw [uB 8 (by decide)]) (fun j _ w => by rw [sB 13 (by decide), uB 9 (by decide)]; exact w)
  · unfold GLB at *
    rw [sA 43 (by decide), uA 64 (by decide)]
    exact w9
  · omega
  · rw [uI 38 (by omega) (by omega), w13 38 (by omega) (by omega)]; exact n3
  · rw [uI 37 (by omega) (by omega), w13 37 (by omega) (by omega)]; exact n4
  · omega
  · omega
  · omega
  · rw [sI 45 (by decide)]; exact v1.trans hv.1
  · rw [uI 53 (by omega) (by omega)]; exact v3.trans hv.2.1
  · rw [sJ, uJ]; exact hv1
