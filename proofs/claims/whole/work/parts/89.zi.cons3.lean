theorem CL.turn {r : Int32} {σ0 μ0 : S5} {E : S5 → Option (Int32 × S5)} (hE : ESp E (gI σ0 14 + 1)) (hs0 : Sim σ0 μ0) (hz : Pz 3 σ0 μ0) {j kf : Nat} (hjk : j + 1 ≤ kf) (hk4 : kf ≤ 4) (hr0 : 0 ≤ r) (hr1 : r < gI σ0 4) (hf : xA σ0 2 r = nI kf) {σ μ : S5} {c0 cl : Int32} {g cc fs fu fn ft : Nat → Int32} (q : CL r σ0 μ0 σ μ j c0 cl g cc fs fu fn ft) {P : Nat} (hP : P + 1 ≤ 4 * pn σ) (m : Nat) (hrec : j + 1 < kf → ∀ (σ1 μ1 : S5) (c : Int32) (g cc fs fu fn ft : Nat → Int32), CL r σ0 μ0 σ1 μ1 (j + 1) c0 c g cc fs fu fn ft → pn σ + 1 ≤ pn σ1 → Qt (f_X5_readBuild_L14 E (m + 1) r c0 c (nI (j + 2)) σ1) (Out (4 * pn σ1 - 1) (fun μ' => gI μ' 20 = 1 ∧ gI μ' 21 = 0) (fun k => ¬ atK k) atK σ0 μ0 μ1)) : Qt (f_X5_readBuild_L14 E (m + 2) r c0 cl (nI (j + 1)) σ) (Out P (fun μ' => gI μ' 20 = 1 ∧ gI μ' 21 = 0) (fun k => ¬ atK k) atK σ0 μ0 μ) := by
  have ho0 := hs0.2.2
  unfold Bg at ho0
  obtain ⟨h160, h161, h170, h171⟩ := hz.rg ho0.2.2.2.2.2.2.2.1 (by decide)
  obtain ⟨μy, y1, y2, y3, y4, y5, y6, y7, y8, y9, y10, y11, y12, y13, y14, y15, y16, y17⟩ := GL.hang q (by grind) (by grind) h170 (by grind)
  have hq := q
  obtain ⟨hBa, a19, a20, a21, a16, a17, a18, p14, p15, p17, hgr, hRB, hc0, hcl, k2, k10, k5, k7, k34, k30, hn0, hn1, haa, hM0, h01⟩ := hq
  obtain ⟨r1, r4, r5, r6, r7, r8, r9, r10, r11, t4, t5⟩ := hBa
  have hb := r1.2.2
  unfold Bg at hb
  have hp3 := r1.p3
  have hpn3 := pn_3 r1
  have hclr : 0 ≤ cl ∧ cl < 6200 := by
    have x := (hRB.2.2.2.2.2.2.2.2 j (Nat.le_refl j)).1.c
    rw [hcl] at x
    exact x
  have hr30 : r < 30 := by have := hs0.2.1.2.2.1; grind
  have h2r : xA σ 2 r = nI kf := (congrFun (r4.2.2.1 2 (by decide)) _).trans hf
  have h2y : xA μy 13 r = nI kf := by
    have hct : Ct σ μy := Ct_eq r1.2.1 (EqE.rf σ) y5
    rw [← (hct.2.2.2 r hr0 (by rw [r4.1 4 (by decide)]; exact hr1)).2.1]; exact h2r
  have hcmp : (nI kf ≤ nI (j + 1)) ↔ kf ≤ j + 1 := nI_le31 (by omega) (by omega)
  have hj0 : ¬ nI (j + 1) = 0 := (nI_j (by omega) (by omega)).1
  have hsy : Sim σ μy := r1.of y5 (y2 3 (by decide)) (y2 4 (by decide)) (y2 5 (by decide)) (y2 6 (by decide)) (congrFun y3 0) (y2 7 (by decide)) (y2 9 (by decide)) (y2 10 (by decide)) (y2 11 (by decide)) (y2 15 (by decide))
  have e16 : gI μ 16 - 1 = gI μ0 16 := by rw [a16]; grind
  have hae := m_ae9 (μ := μ) (by rw [e16]; grind) (by rw [e16]; grind) (by rw [e16]; exact p14)
  rw [e16, p15, p17, y1, gd3200 (by grind) (by grind), y17, gd30 hr0 hr30, h2y, nI_add1] at hae
  show Qt (f_X5_readBuild_B14 E (f_X5_readBuild_L14 E (m + 1)) r c0 cl (nI (j + 1)) σ) _
  unfold f_X5_readBuild_B14
  rw [gd30 hr0 hr30, h2r]
  by_cases hex : kf ≤ j + 1
  · have hkf : kf = j + 1 := by omega
    rw [if_pos (hcmp.mpr hex)] at hae ⊢
    unfold f_X5_readBuild_b81
    rw [c_addN 9 r 0 c0 (by grind) (by grind), bd_of]
    by_cases hat : atK (gI σ 17)
    · have hatm := (kMd_atom hsy.1.2.2.2.1).mpr hat
      rw [← hsy.1.2.2.1] at hatm
      rw [m_isAtom, bd_of, if_pos hatm, if_neg (by decide), bd_eta, m_wrong0 (by rw [y2 7 (by decide)]; exact hb.2.1)] at hae
      refine Qt.so (Or.inr ⟨1, gI σ 18, gI σ 13, 1, by omega, die_of (tn_atom hb.2.1 (by grind) a19 a20 hae) (by decide) rfl ?_ ?_ ?_ ?_, Or.inr ⟨rfl, hb.1, okK_ne r1.1.2.2.2.1, hat, rfl, rfl, ?_⟩, by grind, by grind⟩)
      · show gI μy 5 = gI σ 18
        exact hsy.1.2.2.2.2.1.symm
      · show gI μy 11 = gI σ 13
        rw [y2 11 (by decide)]; exact hb.2.2.1.symm
      · show gI μy 12 - gI μy 11 = gI μ0 12 - gI μ0 11
        rw [y2 12 (by decide), y2 11 (by decide)]; exact r6
      · exact ((r5.tr y5).I (by decide)).I (by decide)
      · have hrg := r1.rg
        obtain ⟨a1, a2, a3, a4, a5, a6, a7, a8⟩ := hrg
        exact ⟨by show 0 ≤ gI σ 8 + 1; grind, by show gI σ 8 + 1 ≤ 6200; grind, a3, a4, a5, a6, a7, a8⟩
    · have hatm : ¬ (gI μy 4 = 3 ∨ gI μy 4 = 4 ∨ gI μy 4 = 2 ∨ gI μy 4 = 15 ∨ gI μy 4 = 140) := by
        rw [hsy.1.2.2.1, kMd_atom hsy.1.2.2.2.1]; exact hat
      rw [m_isAtom, bd_of, if_neg hatm, if_pos rfl, mO_eq (μ := pI μy 16 (gI μy 16 - 1)) (gI μ0 9) (by show 0 ≤ gI μy 17; rw [y4]; exact h170) (by show gI μy 17 < 3200; rw [y4]; grind), bd_of] at hae
      have hcor := CL.exit hs0 q (by omega) hr0 hr1 (by rw [hf, hkf]) y2 y3 y4 y5 y6 y7 y11 y12 y13 y14 y15 y17
      refine Qt.so (Or.inl ⟨_, gI μ0 9, 1, ?_, tn_atom hb.2.1 (by grind) a19 a20 hae, hcor, ⟨rfl, ?_⟩, hat⟩)
      · have : pn (cN σ 9 r 0 c0) = pn σ := rfl
        omega
      · show gI μy 21 = 0
        rw [y2 21 (by decide)]; exact a21
  · rw [if_neg (fun w => hex (hcmp.mp w))] at hae ⊢
    obtain ⟨r', f1, f2, f3⟩ := con_of hsy.2.1 (gJ σ 0)
    have hjn : gI σ 17 = 4 → gJ σ 0 = gJ μy 0 := fun w => hsy.1.2.2.2.2.2.2.2.2.2.1 (Or.inr w)
    have hfr : gI σ 17 = 4 → f_X12_findConstructor (gJ μy 0) μy = some (r', μy) := fun w => by rw [← hjn w]; exact f2
    have hb6 : gI σ 14 = gI μy 15 := by rw [y2 15 (by decide)]; exact hb.2.2.2.2.2.1
    have h7y : gI μy 7 = 0 := by rw [y2 7 (by decide)]; exact hb.2.1
    rcases c_stands r1 (r := r') (fun _ => ⟨f1, f3⟩) with ⟨hk, e1⟩ | ⟨hk, τ, e1, e2⟩
    · rw [e1, bd_of, if_neg (by decide), if_neg hj0]
      have hju := m_judge0 hsy.1 hsy.2.1 hb6 hk hfr
      obtain ⟨z, τ, g1, g2, g3, g4⟩ := at_go (σ := σ) (μ := μy) (E := E) (by rw [r7]; exact hE) hsy hk hfr (by
          have i16 := iv_a1 ((y2 16 (by decide)).trans a16) (by grind) (by grind)
          have i17 := iv_eq y4
          have i14 := iv_eq r7
          unfold Pz at *
          omega) (by rw [y2 21 (by decide)]; exact a21)
      rw [m_fieldN h7y hju (by grind) (by grind) (by rw [y10, nI_add1]; exact hj0) g1 g2, bd_of, m_b80 g2 (by rw [g3, y2 20 (by decide)]; exact a20)] at hae
      have ht1 := tn_atom hb.2.1 (by grind) a19 a20 hae
      unfold f_X5_readBuild_b44 f_X5_readBuild_b72
      refine Qt.bd g4 (fun c σ2 ho => ?_)
      rw [if_neg (by grind), gd6200 hclr.1 hclr.2]
      rcases ho with ⟨μ2, n, k, o1, o2, o3, o4, o5⟩ | ⟨f, pp, mm, k, o1, o2, o3, o4, o5⟩
      · have hCL := GL.next hs0 q rfl y2 y4 y5 y6 y7 y8 y9 y10 y11 y12 y13 y14 y15 y16 y17 (by grind) (by grind) h170 o3 o4.1 o4.2
        have hpe : pn (pA σ2 17 cl c) = pn σ2 := rfl
        have hx := hrec (by omega) _ _ _ _ _ _ _ _ _ hCL (by omega)
        rw [← nI_add1] at hx
        refine hx.mono (fun c3 σ3 w => ?_)
        rcases w with ⟨μ3, n3, k3, w1, w2, w3, w4, w5⟩ | ⟨f, pp, mm, k3, w1, w2, w3, w4, w5⟩
        · exact Or.inl ⟨μ3, n3, 1 + k + k3, by omega, (ht1.tr o2).tr w2, w3, w4, w5⟩
        · exact Or.inr ⟨f, pp, mm, 1 + k + k3, by omega, (ht1.tr o2).die w2 rfl (EqR.rf μ0), w3, w4, w5⟩
      · have hst := o3.no
        exact (st_buildL E atK (St17 _ _ hst) hr0 hr30).mono (fun c3 σ3 w => Or.inr ⟨f, pp, mm, 1 + k, by omega, ht1.die o2 (by rw [y2 12 (by decide), y2 11 (by decide)]; exact r6) (r5.tr y5), w.1, w.2.1, w.2.2⟩)
    · rw [e1, bd_of, if_pos rfl]
      have hju := m_judgeB hsy.1 hsy.2.1 h7y hb6 hb.2.2.2.2.2.2.2.1 hk (fun w => ⟨hfr w, f3⟩)
      rw [m_fieldB hju (by exact bad0 σ r'), bd_of, if_pos rfl] at hae
      have hbb : f_X12_atomEnds_b80 1 (pI (pI μy 7 (badK σ r')) 8 (gI μy 5)) = some ((), pI (pI (pI (pI μy 7 (badK σ r')) 8 (gI μy 5)) 19 1) 18 1) := rfl
      rw [hbb] at hae
      refine (st_build81 E atK (Or.inl e2)).mono (fun c σ2 w => Or.inr ⟨badK σ r', gI σ 18, gI σ 13, 1, by omega, die_of (tn_atom hb.2.1 (by grind) a19 a20 hae) (bad0 σ r') rfl ?_ ?_ ?_ ?_, w.1, w.2.1, w.2.2⟩)
      · show gI μy 5 = gI σ 18
        exact hsy.1.2.2.2.2.1.symm
      · show gI μy 11 = gI σ 13
        rw [y2 11 (by decide)]; exact hb.2.2.1.symm
      · show gI μy 12 - gI μy 11 = gI μ0 12 - gI μ0 11
        rw [y2 12 (by decide), y2 11 (by decide)]; exact r6
      · exact ((((r5.tr y5).I (by decide)).I (by decide)).I (by decide)).I (by decide)
theorem CL.loop {r : Int32} {σ0 μ0 : S5} {E : S5 → Option (Int32 × S5)} (hE : ESp E (gI σ0 14 + 1)) (hs0 : Sim σ0 μ0) (hz : Pz 3 σ0 μ0) {kf : Nat} (hk4 : kf ≤ 4) (hr0 : 0 ≤ r) (hr1 : r < gI σ0 4) (hf : xA σ0 2 r = nI kf) : ∀ (d j : Nat), j + 1 + d = kf → ∀ (m : Nat) (σ μ : S5) (c0 cl : Int32) (g cc fs fu fn ft : Nat → Int32), CL r σ0 μ0 σ μ j c0 cl g cc fs fu fn ft → ∀ P, P + 1 ≤ 4 * pn σ → Qt (f_X5_readBuild_L14 E (m + d + 2) r c0 cl (nI (j + 1)) σ) (Out P (fun μ' => gI μ' 20 = 1 ∧ gI μ' 21 = 0) (fun k => ¬ atK k) atK σ0 μ0 μ) := by
  intro d
  induction d with
  | zero =>
    intro j hjd m σ μ c0 cl g cc fs fu fn ft q P hP
    exact CL.turn hE hs0 hz (by omega) hk4 hr0 hr1 hf q hP (m + 0) (fun w => by omega)
  | succ d ih =>
    intro j hjd m σ μ c0 cl g cc fs fu fn ft q P hP
    refine CL.turn hE hs0 hz (by omega) hk4 hr0 hr1 hf q hP (m + (d + 1)) (fun _ σ1 μ1 c g cc fs fu fn ft q1 hp => ?_)
    exact ih (j + 1) (by omega) m σ1 μ1 c0 c g cc fs fu fn ft q1 (4 * pn σ1 - 1) (by omega)
