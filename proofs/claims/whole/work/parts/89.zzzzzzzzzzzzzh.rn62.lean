theorem FU_big2 : 100000000 < FU := by
  unfold FU
  decide
theorem mr_f {μ : S5} (h44 : gI μ 44 = 0) (h53 : ¬ gI μ 53 = 0) (h48 : gI μ 48 ≤ 0) (N : Nat) : f_X12_workOut_L25 (N + 1) μ = some ((), μ) := by
  show f_X12_workOut_B25 _ _ = _
  unfold f_X12_workOut_B25
  rw [if_pos h44, if_neg h53, if_pos h48]
theorem mr_o {μ : S5} (h44 : ¬ gI μ 44 = 0) (N : Nat) : f_X12_workOut_L25 (N + 1) μ = some ((), μ) := by
  show f_X12_workOut_B25 _ _ = _
  unfold f_X12_workOut_B25
  rw [if_neg h44]
theorem b226_o {μ : S5} (h44 : ¬ gI μ 44 = 0) (N : Nat) : f_X12_run_L171 (N + 1) μ = some (gI μ 44, μ) := by
  show f_X12_run_B171 _ _ = _
  unfold f_X12_run_B171 f_X12_run_b226 f_X12_ends
  rw [if_neg h44, if_neg h44, bd_of]
/-- the ghosts at the start are those of the heap -/
theorem OLD.rf {τ μ0 : S5} {F T : Nat} {pa nv : Nat → Nat} {σ μ : S5} {n : Nat} {tg ct : Nat → Nat} {Rd : Nat → Prop} (h : HS τ μ0 F T pa nv σ μ n tg ct Rd) : OLD μ μ n tg ct := by
  have h4 := h.1.2.2.1
  have hge := adr_ge tg ct n
  have hn : nSs μ = n := by
    unfold nSs
    rw [h.1.1, nI_clamp (by omega)]
  refine ⟨⟨Nat.le_of_eq hn, fun i hi => ?_⟩, fun _ _ => rfl⟩
  rw [hn] at hi
  obtain ⟨⟨-, hco⟩, hcell, -⟩ := h.2 i hi
  have hm := adr_mo tg ct hi
  have hz : szc tg ct i = ct i + 1 + if tg i = 5 then 1 else 0 := rfl
  refine ⟨?_, ?_⟩
  · unfold tSs
    rcases hcell with ⟨d1, d2, -⟩ | ⟨d1, d2, -⟩ | ⟨d1, d2⟩
    · rw [d2, if_pos rfl, d1]
    · rw [d2, if_neg (by decide), if_pos rfl, d1]
    · have : ¬ gA μ 53 i = 0 ∧ ¬ gA μ 53 i = 1 := by
        rcases d2 with ⟨w, -⟩ | ⟨w, -⟩ | ⟨w, -⟩ <;> rw [w] <;> exact ⟨by decide, by decide⟩
      rw [if_neg this.1, if_neg this.2, d1]
  · unfold cSs
    rw [hco, nI_clamp (by omega)]
/-- ALL THAT IS LEFT IS SHOWN, and both end -/
theorem top_go {τ μ0 : S5} {F k T : Nat} {pa nv D E : Nat → Nat} (hS : PSt τ μ0 F k T pa nv) (hD : DSt τ μ0 F T pa nv D) (hE : ESt τ μ0 F T nv E) (hB : NDb τ μ0 F pa) (hMk : MKb τ μ0 F T nv) {σa μa : S5} (hPa : eqP τ σa) (hQa : eqQ μ0 μa) : ∀ (m : Nat) (σ μ : S5) (n : Nat) (tg ct : Nat → Nat) (L : List (Nat × Nat)) (R Y : Nat), R + Y ≤ m → m < 90000000 → TLb τ μ0 F k T pa nv D E σa μa σ μ n tg ct L 0 R Y → ∃ j σ' μ', j ≤ R + Y + 1 ∧ CRn j σ σ' ∧ (∀ N, R + Y + 2 ≤ N → f_X12_run_L171 N μ = some (gI μ' 44, μ')) ∧ (gN σ 1 ≤ gN σ' 1 ∧ gN σ 3 ≤ gN σ' 3) ∧ OVq σa μa σ' μ' := by
  have hbig := FU_big2
  intro m
  induction m with
  | zero =>
    intro σ μ n tg ct L R Y hRY hm h
    obtain ⟨⟨f1, f2⟩, hH, ⟨hn, h0⟩, hC, hG, hBN, ⟨s, hs1, hs2⟩, ⟨rc, hr1, hr2, hr3, hr4⟩, h45⟩ := h
    cases L with
    | nil =>
      obtain ⟨-, hs0⟩ := hs2
      subst hs0
      have h00 : xA σ 40 0 = 0 := hn.1.1.trans h0
      obtain ⟨σ', μ', w1, w2, w3, w4, w5, -⟩ := end_go hn h0 1 0 (by decide)
      have q1 : gN σ' 1 = gN σ 1 := congrFun w4.2.2.2.2 1
      have q3 : gN σ' 3 = gN σ 3 := congrFun w4.2.2.2.2 3
      refine ⟨1, σ', μ', by omega, cr_r h00 h45 ?_ (Nat.le_of_eq q1.symm) (Nat.le_of_eq q3.symm), fun N hN => ?_, ⟨Nat.le_of_eq q1.symm, Nat.le_of_eq q3.symm⟩, w3, f1.tr w4.fm, f2.tr w5.fm.q, by rw [q1]; exact hC.2.1, by rw [q3]; exact hC.2.2.2.1⟩
      · unfold f_X3_resume
        rw [show gI σ 40 = nI 0 from hC.1.1, if_neg (by decide), ew_q]
        exact w1
      · obtain ⟨N, rfl⟩ : ∃ n, N = n + 1 := ⟨N - 1, by omega⟩
        show f_X12_run_B171 _ _ = _
        unfold f_X12_run_B171 f_X12_run_b226
        rw [if_pos h0, hs1, if_pos (by decide), w2, bd_of]
    | cons x L =>
      exfalso
      have : yL ct (x :: L) = 10 * (ct x.1 - x.2) + 1 + yL ct L := rfl
      omega
  | succ m ih =>
    intro σ μ n tg ct L R Y hRY hm h
    by_cases hle : R + Y ≤ m
    · exact ih σ μ n tg ct L R Y hle (by omega) h
    have hP' : eqP τ σ := hPa.fm h.1.1
    have hQ' : eqQ μ0 μ := hQa.fq h.1.2
    obtain ⟨⟨f1, f2⟩, hH, ⟨hn, h0⟩, hC, hG, hBN, ⟨s, hs1, hs2⟩, ⟨rc, hr1, hr2, hr3, hr4⟩, h45⟩ := id h
    have h00 : xA σ 40 0 = 0 := hn.1.1.trans h0
    cases L with
    | nil =>
      obtain ⟨-, hs0⟩ := hs2
      subst hs0
      obtain ⟨σ', μ', w1, w2, w3, w4, w5, -⟩ := end_go hn h0 1 0 (by decide)
      have q1 : gN σ' 1 = gN σ 1 := congrFun w4.2.2.2.2 1
      have q3 : gN σ' 3 = gN σ 3 := congrFun w4.2.2.2.2 3
      refine ⟨1, σ', μ', by omega, cr_r h00 h45 ?_ (Nat.le_of_eq q1.symm) (Nat.le_of_eq q3.symm), fun N hN => ?_, ⟨Nat.le_of_eq q1.symm, Nat.le_of_eq q3.symm⟩, w3, f1.tr w4.fm, f2.tr w5.fm.q, by rw [q1]; exact hC.2.1, by rw [q3]; exact hC.2.2.2.1⟩
      · unfold f_X3_resume
        rw [show gI σ 40 = nI 0 from hC.1.1, if_neg (by decide), ew_q]
        exact w1
      · obtain ⟨N, rfl⟩ : ∃ n, N = n + 1 := ⟨N - 1, by omega⟩
        show f_X12_run_B171 _ _ = _
        unfold f_X12_run_B171 f_X12_run_b226
        rw [if_pos h0, hs1, if_pos (by decide), w2, bd_of]
    | cons x L =>
      obtain ⟨c, b⟩ := x
      have hlen : ((c, b) :: L).length = L.length + 1 := rfl
      have hyL : yL ct ((c, b) :: L) = 10 * (ct c - b) + 1 + yL ct L := rfl
      rw [hlen] at hs2 hr3 hC
      obtain ⟨t', s', a1, a2, ⟨a3, a4, a5, a6⟩, a7, a8, a9⟩ := id hs2
      dsimp only at a2 a3 a4 a5 a6 a7 a8
      have ht' : t' = L.length := by omega
      subst ht'
      obtain ⟨⟨m1, m2, m3, m4⟩, m5, m6, m7, m8⟩ := id hC
      rw [Nat.add_zero] at m1 m6
      have l1 := m5.b
      obtain ⟨⟨hbe, hco⟩, hcell, hfld⟩ := hH.2 c a3
      have hA4 := adr_mo tg ct a3
      have hz : szc tg ct c = ct c + 1 + if tg c = 5 then 1 else 0 := rfl
      rw [if_neg (by omega)] at hz
      have h4 := hH.1.2.2.1
      have hofs : ofs tg c = 1 := by unfold ofs; rw [if_neg (by omega)]
      obtain ⟨kk, d3, d4, d5, d6, d7, d8⟩ : ∃ kk, kk < 30 ∧ nI kk < gI τ 4 ∧ gA μ 54 c = nI kk ∧ gB σ 14 (adr tg ct c) = (nI kk).toInt64 ∧ xA τ 2 (nI kk) = nI (ct c) ∧ 1 ≤ ct c := by
        rcases hcell with ⟨-, -, w⟩ | ⟨d1, -⟩ | ⟨d1, -⟩
        · exact w
        · omega
        · omega
      clear hcell
      have hsb : s ≤ 4 * (L.length + 1) := hs2.bd.2
      have e40 : gI σ 40 - 1 = nI L.length := by
        rw [m1, show (1 : Int32) = nI 1 from rfl, nI_sub (by omega)]
        rfl
      have h40 : 0 < gI σ 40 := by
        rw [m1, show (0 : Int32) = nI 0 from rfl]
        exact (nI_lt31 (by omega) (by omega)).mpr (by omega)
      have hpop : f_X3_pop σ = some (fr 10 (adr tg ct c) b, pI σ 40 (nI L.length)) := by
        unfold f_X3_pop
        rw [if_pos h40, e40, gdn (by omega) (by omega), xB_at (by omega), a7]
      have hrs := (rs_hd h40 hpop (by omega) (by omega) (by omega)).2.2.2.2.2.2.2.2.2 rfl
      have hC1 : MC (pI σ 40 (nI L.length)) L.length 0 0 0 := ⟨⟨rfl, m2, m3, m4⟩, m5, (by show L.length ≤ gN σ 1; omega), m7, m8⟩
      have hx2 : xA (pI σ 40 (nI L.length)) 2 (nI kk) = nI (ct c) := by
        show xA σ 2 (nI kk) = _
        rw [hP'.x 2 _ (by decide)]
        exact d7
      have hx14 : xB (pI σ 40 (nI L.length)) 14 (nI (adr tg ct c)) = (nI kk).toInt64 := by
        show xB σ 14 (nI (adr tg ct c)) = _
        rw [xB_at (by omega)]
        exact d6
      by_cases hbe' : b = ct c
      · -- all its fields are shown
        subst hbe'
        have hsf : f_X3_showField (nI (adr tg ct c)) (nI (ct c)) (pI σ 40 (nI L.length)) = some ((), pI σ 40 (nI L.length)) := by
          unfold f_X3_showField f_X3_showField_b63
          rw [gdn (by omega) (by omega), hx14, i2l2i, gdn (by omega) (by omega), hx2, if_pos (Int32.le_refl _)]
        have hres : f_X3_resume σ = some ((), pI σ 40 (nI L.length)) := by
          rw [hrs, hsf, bd_of]
          show gle (gN σ 1) (gN σ 1) (gle (gN σ 3) (gN σ 3) _) = _
          rw [gl_e (Nat.le_refl _), gl_e (Nat.le_refl _)]
        have hs' : s = s' := by omega
        subst hs'
        have hT : TLb τ μ0 F k T pa nv D E σa μa (pI σ 40 (nI L.length)) μ n tg ct L 0 R (Y - 1) := ⟨⟨f1.tr (FmC.t _ _), f2⟩, hH, ⟨hn, h0⟩, by rw [Nat.add_zero]; exact hC1, hG, hBN, ⟨s, hs1, (a9.mv (σ' := pI σ 40 (nI L.length)) (Gro.rf n tg ct) (fun _ _ => rfl) L (fun _ _ => rfl) (fun _ _ => rfl)).1⟩, ⟨rc, hr1, hr2, by omega, by omega⟩, h45⟩
        obtain ⟨j, σ', μ', b1, b2, b3, b4, b5⟩ := ih (pI σ 40 (nI L.length)) μ n tg ct L R (Y - 1) (by omega) (by omega) hT
        exact ⟨1 + j, σ', μ', by omega, (cr_r h00 h45 hres (Nat.le_refl _) (Nat.le_refl _)).tr b2, fun N hN => b3 N (by omega), b4, b5⟩
      · -- its next field
        have hbc : b < ct c := by omega
        obtain ⟨s1, hss⟩ : ∃ s1, s = s1 + 1 := ⟨s - 1, by omega⟩
        obtain ⟨σ2, p1, p2, p3, p4, p5, p6, p7⟩ := push_c hC1 (by omega) (fr 10 (adr tg ct c) (b + 1))
        obtain ⟨σ3, r1, r2, r3, r4, r5, r6, r7⟩ := push_c p2 (by omega) (fr 9 0 0)
        have g1 : gN σ 1 ≤ gN σ3 1 := Nat.le_trans p6 r6
        have g3 : gN σ3 3 = gN σ 3 := r7.trans p7
        obtain ⟨μ2, e2⟩ : ∃ z, z = pI (pI (pI (pI (pI μ 55 (nI s1)) 48 0) 49 0) 50 0) 51 0 := ⟨_, rfl⟩
        have I3 : ∀ j, ¬ j = 40 → gI σ3 j = gI σ j := fun j w => by
          rw [r3.1 j w, p3.1 j w, gI_pI, if_neg w]
        have J3 : ∀ j, gJ σ3 j = gJ σ j := fun j => by rw [r3.2.1, p3.2.1]; rfl
        have A3 : ∀ j, gA σ3 j = gA σ j := fun j => by rw [r3.2.2.1, p3.2.2.1]; rfl
        have B3 : ∀ j, ¬ j = 12 → gB σ3 j = gB σ j := fun j w => by rw [r3.2.2.2.1 j w, p3.2.2.2.1 j w]; rfl
        have uI : ∀ j, ¬ (48 ≤ j ∧ j ≤ 51) → ¬ j = 55 → gI μ2 j = gI μ j := fun j w w' => by rw [e2, gI_pI, if_neg (by omega), gI_pI, if_neg (by omega), gI_pI, if_neg (by omega), gI_pI, if_neg (by omega), gI_pI, if_neg w']
        have uJ : ∀ j, gJ μ2 j = gJ μ j := fun j => by rw [e2]; rfl
        have uA : ∀ j, gA μ2 j = gA μ j := fun j => by rw [e2]; rfl
        have uB : ∀ j, gB μ2 j = gB μ j := fun j => by rw [e2]; rfl
        have uN : μ2.2.2.2.2 = μ.2.2.2.2 := by rw [e2]; rfl
        have u55 : gI μ2 55 = nI s1 := by rw [e2]; rfl
        have F3 : FmC σa σ3 := f1.tr ((FmC.t _ _).tr (p3.fm.tr r3.fm))
        have Q2 : FqM μa μ2 := f2.tr ⟨fun j w w' => uI j (by omega) (by omega), fun j _ => uJ j, fun j _ => uA j, fun j _ => uB j, uN⟩
        have hPs : eqP τ σ3 := hPa.fm F3
        have hQs : eqQ μ0 μ2 := hQa.fq Q2
        have hH2 : HS τ μ0 F T pa nv σ3 μ2 n tg ct (fun _ => True) := hH.of (by rw [A3]) (B3 14 (by decide)) (fun j _ _ => uI j (by omega) (by omega)) (fun j _ _ => uA j) (uB 6) (uB 7)
        have hN2 : NR σ3 μ2 := hn.st (fun x _ => by rw [A3]) (A3 41) (A3 42) (fun j w => I3 j (by omega)) (fun j w => uI j (by omega) (by omega)) (uA 57) (uA 58)
        have hBN2 := hBN.st (μ' := μ2) (uA 53) (uA 54) (uI 37 (by omega) (by omega)) (uI 38 (by omega) (by omega))
        have hMb : MSb τ μ0 F k T pa nv D E σ3 μ2 (L.length + 2) σ3 μ2 n tg ct [] (L.length + 2) 0 0 0 0 0 0 0 R := by
          refine ⟨⟨FmC.rf _, FmM.rf _, OLD.rf hH2⟩, hH2, ⟨hN2, by rw [uI 44 (by omega) (by omega)]; exact h0⟩, r2, ⟨by rw [e2]; rfl, by rw [e2]; rfl, by rw [e2]; rfl, by rw [e2]; rfl⟩, ⟨rfl, rfl, rfl, rfl, rfl, rfl, rfl, fun _ _ => rfl⟩, ?_, ?_⟩
          · unfold GLB at *
            rw [A3, uA]
            exact hG
          · obtain ⟨n1, n2, cl, lf, n3, n4, n5, n6, n7, n8⟩ := hBN2
            exact ⟨n1, by omega, cl, lf, n3, n4, n5, n6, n7, n8⟩
        have hvl : VL τ F pa n tg ct (gB σ 14 (adr tg ct c + 1 + b)) (gB μ 10 s1) := by
          have hv1 := hfld trivial (fun w => by omega) b hbc
          rw [hofs] at hv1
          have hp := a8 (ct c - b - 1) (by omega)
          rw [show s' + (ct c - b - 1) = s1 by omega, show ct c - 1 - (ct c - b - 1) = b by omega] at hp
          rw [hp]
          exact hv1
        have hgo := en_go hS hPs hQs hMb (Z := R + 3) (Nat.le_refl _) hvl
        obtain ⟨σ4, μ4, k1, k2, ⟨k3, k4⟩, k5⟩ := hgo
        have hres : f_X3_resume σ = some ((), σ4) := by
          rw [hrs]
          unfold f_X3_showField f_X3_showField_b35 f_X3_showField_b46 f_X3_showField_b63 f_X3_frame
          rw [gdn (by omega) (by omega), hx14, i2l2i, gdn (by omega) (by omega), hx2, if_neg (fun w => absurd ((lp_le (by omega) (by omega)).mp w) (by omega)), bd_of, gq_r, gq_r, nI_add1, show (((j_lshl ((10 : Int32).toInt64) 56) ||| (j_lshl ((nI (adr tg ct c)).toInt64) 28)) ||| ((nI (b + 1)).toInt64)) = fr 10 (adr tg ct c) (b + 1) from rfl, p1, bd_of, gl_e p6, gl_e (Nat.le_of_eq p7.symm), bd_of, gq_r, gq_r, show (((j_lshl ((9 : Int32).toInt64) 56) ||| (j_lshl ((0 : Int32).toInt64) 28)) ||| ((0 : Int32).toInt64)) = fr 9 0 0 from rfl, r1, bd_of, gl_e r6, gl_e (Nat.le_of_eq r7.symm)]
          rw [show nI (adr tg ct c) + 1 + nI b = nI (adr tg ct c + 1 + b) by rw [nI_add1, nI_plus], gdn (by omega) (by omega), xB_at (by omega), B3 14 (by decide), k1, bd_of, gl_e k3, gl_e k4]
          show gle (gN σ 1) (gN σ4 1) (gle (gN σ 3) (gN σ4 3) _) = _
          rw [gl_e (Nat.le_trans g1 k3), gl_e (by rw [← g3]; exact k4)]
        have hcr1 := cr_r h00 h45 hres (Nat.le_trans g1 k3) (by rw [← g3]; exact k4)
        -- worked out
        obtain ⟨j, σ5, μ5, j1, j2, j3, ⟨j4, j5⟩, j6⟩ : ∃ j σ5 μ5, j ≤ R + 3 ∧ CRn j σ4 σ5 ∧ MRn j μ4 μ5 ∧ (gN σ4 1 ≤ gN σ5 1 ∧ gN σ4 3 ≤ gN σ5 3) ∧ (FIN τ μ0 F k T pa nv D E σ3 μ2 (L.length + 2) σ5 μ5 (R + 3 - j) ∨ OVt σ3 μ2 σ5 μ5) := by
          rcases k5 with w | w
          · exact loop_go hS hD hE hB hMk hPs hQs (R + 3) (R + 3) σ4 μ4 (Nat.le_refl _) w
          · exact ⟨0, σ4, μ4, Nat.zero_le _, CRn.rf _, MRn.rf _, ⟨Nat.le_refl _, Nat.le_refl _⟩, Or.inr w⟩
        have hwo : ∀ (hx : ∀ N, f_X12_workOut_L25 (N + 1) μ5 = some ((), μ5)), f_X12_workOut (gB μ 10 s1) (pI μ 55 (nI s1)) = some ((), μ5) := by
          intro hx
          unfold f_X12_workOut
          rw [← e2, k2, bd_of, show FU = (FU - j - 1 + 1) + j by omega, j3, hx]
        have hL171 : ∀ N, (∀ hx : ∀ N, f_X12_workOut_L25 (N + 1) μ5 = some ((), μ5), f_X12_run_L171 (N + 1) μ = if gI μ5 44 = 0 then bd (f_X12_force (gJ μ5 1) μ5) (fun _ τ220 => f_X12_run_L171 N τ220) else f_X12_run_L171 N μ5) := by
          intro N hx
          show f_X12_run_B171 _ _ = _
          unfold f_X12_run_B171
          rw [if_pos h0, hs1, hss, if_neg (nle0 (by omega) (by omega)), show nI (s1 + 1) - 1 = nI s1 from (by
            rw [show (1 : Int32) = nI 1 from rfl, nI_sub (by omega)]
            rfl), gdn (by omega) (by omega), xB_at (by omega), hwo hx, bd_of]
        rcases j6 with ⟨n5, tg5, ct5, P5, R5, hM5, hv5, hR5⟩ | ⟨ov, ov2, ov3, ov4, ov5⟩
        · -- it is shown
          obtain ⟨⟨F5, Q5, O5⟩, hH5, ⟨hn5, h05⟩, hC5, hM5', ⟨-, -, -, -, -, -, -, hbot⟩, hG5, hB5⟩ := hM5
          have hx : ∀ N, f_X12_workOut_L25 (N + 1) μ5 = some ((), μ5) := fun N => mr_f h05 (by rw [hv5.2.1]; decide) (by rw [hM5'.1]; decide) N
          have hg5 : Gro n tg ct n5 tg5 ct5 := by
            have hO := O5.1
            have hO2 := (OLD.rf hH2).1
            have hnn : nSs μ2 = n := by
              unfold nSs
              rw [hH2.1.1, nI_clamp (by have := (adr_ge tg ct n).1; omega)]
            rw [hnn] at hO hO2
            exact ⟨hO.1, fun i hi => ⟨(hO.2 i hi).1.trans (hO2.2 i hi).1.symm, (hO.2 i hi).2.trans (hO2.2 i hi).2.symm⟩⟩
          have h75 : ∀ j, j < pre ct n → gB μ5 7 j = gB μ2 7 j := fun j hj => O5.2 j (by
            have hO2 := (OLD.rf hH2).1
            have hnn : nSs μ2 = n := by
              unfold nSs
              rw [hH2.1.1, nI_clamp (by have := (adr_ge tg ct n).1; omega)]
            have := (hO2.ad (Nat.le_refl _)).2
            rw [hnn] at this ⊢
            omega)
          have hLL3 : LLs σ3 μ2 n tg ct ((c, b + 1) :: L) (L.length + 1) s1 := by
            refine ⟨L.length, s', rfl, ?_, ⟨a3, a4, hbc, a6⟩, ?_, fun i hi => ?_, ?_⟩
            · show s1 = s' + (ct c - (b + 1))
              omega
            · rw [r5 _ (by omega)]
              exact p4
            · have hi' : i < ct c - (b + 1) := hi
              rw [uB, uB]
              exact a8 i (by omega)
            · exact (a9.mv (Gro.rf n tg ct) (fun j _ => by rw [uB]) L (fun j hj => by rw [r5 j (by omega), p5 j hj]; rfl) (fun j _ => by rw [uB])).1
          obtain ⟨hLL5, hy5⟩ := hLL3.mv hg5 h75 ((c, b + 1) :: L) (σ' := pI σ5 40 (nI (L.length + 1))) (fun j hj => hbot j (by omega)) (fun j _ => by rw [Q5.2.2.2.1 10 (by decide)])
          obtain ⟨⟨x1, x2, x3, x4⟩, x5, x6, x7, x8⟩ := hC5
          have e405 : gI σ5 40 - 1 = nI (L.length + 1) := by
            rw [x1, show (1 : Int32) = nI 1 from rfl, nI_sub (by omega)]
            rfl
          have h405 : 0 < gI σ5 40 := by
            rw [x1, show (0 : Int32) = nI 0 from rfl]
            exact (nI_lt31 (by omega) (by omega)).mpr (by omega)
          have x5b := x5.b
          have hpop5 : f_X3_pop σ5 = some (fr 9 0 0, pI σ5 40 (nI (L.length + 1))) := by
            unfold f_X3_pop
            rw [if_pos h405, e405, gdn (by omega) (by omega), xB_at (by omega), hbot _ (by omega), r4]
          have hrs5 := (rs_hd h405 hpop5 (by omega) (by omega) (by omega)).2.2.2.2.2.2.2.2.1 rfl
          have hyy : yL ct ((c, b + 1) :: L) = 10 * (ct c - (b + 1)) + 1 + yL ct L := rfl
          have hT5 : TLb τ μ0 F k T pa nv D E σa μa (pI σ5 40 (nI (L.length + 1))) μ5 n5 tg5 ct5 ((c, b + 1) :: L) 0 R5 (Y - 10) := by
            refine ⟨⟨(F3.tr F5).tr (FmC.t _ _), Q2.tr Q5.q⟩, hH5, ⟨hn5, h05⟩, ⟨⟨rfl, x2, x3, x4⟩, x5, ?_, x7, x8⟩, hG5, ?_, ⟨s1, ?_, hLL5⟩, ⟨rc, ?_, hr2, ?_, ?_⟩, hv5.1⟩
            · show L.length + 1 + 0 ≤ gN σ5 1
              omega
            · obtain ⟨n1, n2, cl, lf, n3, n4, n5', n6, n7, n8⟩ := hB5
              exact ⟨n1, by omega, cl, lf, n3, n4, n5', n6, by omega, n8⟩
            · rw [Q5.1 55 (by omega) (by omega)]; exact u55
            · rw [Q5.1 46 (by omega) (by omega), uI 46 (by omega) (by omega)]; exact hr1
            · show 2 * (L.length + 1) ≤ rc
              omega
            · rw [hy5, hyy]
              omega
          obtain ⟨σ7, μ7, t1, t2, ⟨t3, t4⟩, t5⟩ := sh_go hS hT5 hv5.2.2
          have hres5 : f_X3_resume σ5 = some ((), σ7) := by
            rw [hrs5, t1, bd_of]
            show gle (gN σ5 1) (gN σ7 1) (gle (gN σ5 3) (gN σ7 3) _) = _
            rw [gl_e (show gN σ5 1 ≤ gN σ7 1 from t3), gl_e (show gN σ5 3 ≤ gN σ7 3 from t4)]
          have h005 : xA σ5 40 0 = 0 := hn5.1.1.trans h05
          have hcr5 := cr_r h005 hv5.1 hres5 t3 t4
          have hf5 : f_X12_force (gJ μ5 1) μ5 = some ((), μ7) := t2
          have t3' : gN σ5 1 ≤ gN σ7 1 := t3
          have t4' : gN σ5 3 ≤ gN σ7 3 := t4
          rcases t5 with ⟨L', hT7, h50⟩ | hov
          · obtain ⟨j', σ', μ', b1, b2, b3, ⟨b4, b5⟩, b6⟩ := ih σ7 μ7 n5 tg5 ct5 L' R5 (Y - 10 - 50) (by omega) (by omega) hT7
            refine ⟨1 + j + 1 + j', σ', μ', by omega, ((hcr1.tr j2).tr hcr5).tr b2, fun N hN => ?_, ⟨by omega, by omega⟩, b6⟩
            obtain ⟨N, rfl⟩ : ∃ n, N = n + 1 := ⟨N - 1, by omega⟩
            rw [hL171 N hx, if_pos h05, hf5, bd_of]
            exact b3 N (by omega)
          · refine ⟨1 + j + 1, σ7, μ7, by omega, (hcr1.tr j2).tr hcr5, fun N hN => ?_, ⟨by omega, by omega⟩, hov⟩
            obtain ⟨N, rfl⟩ : ∃ n, N = n + 1 := ⟨N - 1, by omega⟩
            obtain ⟨N, rfl⟩ : ∃ n, N = n + 1 := ⟨N - 1, by omega⟩
            rw [hL171 (N + 1) hx, if_pos h05, hf5, bd_of]
            exact b226_o hov.1.2 N
        · -- both have ended
          have hx : ∀ N, f_X12_workOut_L25 (N + 1) μ5 = some ((), μ5) := fun N => mr_o ov.2 N
          refine ⟨1 + j, σ5, μ5, by omega, hcr1.tr j2, fun N hN => ?_, ⟨by omega, by omega⟩, ov, F3.tr ov2, Q2.tr ov3.q, ov4, ov5⟩
          obtain ⟨N, rfl⟩ : ∃ n, N = n + 1 := ⟨N - 1, by omega⟩
          obtain ⟨N, rfl⟩ : ∃ n, N = n + 1 := ⟨N - 1, by omega⟩
          rw [hL171 (N + 1) hx, if_neg ov.2]
          exact b226_o ov.2 N
