def two (a b : Int32) : Nat → Int32 := fun i => if i = 0 then a else b
theorem RB.one {σ μ : S5} {h s0 s1 u0 u1 a0 b1 t0 n c nn c1 : Int32} (gap : Nat → Int32) (hg : gap 0 = 0) (ht : TR σ μ h s0 s1 u0 u1 a0 b1 t0 n c) (h17 : xA σ 17 c = -1) (h5 : xA μ 5 n = -1) (hc : c + 1 = c1) (hn : b1 ≤ nn ∨ nn < a0) (ap : Nat) (hap : ap ≤ 1) : RB σ μ h s0 u0 a0 t0 gap nn s1 u1 b1 c1 0 ap (two n n) (two c c) (two s0 s1) (two u0 u1) (two a0 b1) (two t0 c1) := by
  refine ⟨rfl, rfl, rfl, rfl, rfl, rfl, rfl, hc, fun i hi => ?_⟩
  have hi0 : i = 0 := by omega
  subst hi0
  have hb := ht.un.1
  unfold Bd at hb
  show TR σ μ h s0 s1 u0 u1 (a0 + gap 0) b1 t0 n c ∧ s0 ≤ s0 ∧ s1 ≤ s1 ∧ u0 ≤ u0 ∧ u1 ≤ u1 ∧ a0 ≤ a0 + gap 0 ∧ b1 ≤ b1 ∧ t0 ≤ t0 ∧ c < c1 ∧ c1 = c + 1 ∧ xA σ 17 c = (if 0 < 0 then c else -1) ∧ xA μ 5 n = (if 0 + 1 < ap then n else -1) ∧ (gap 0 = 1 → a0 = nn) ∧ (b1 ≤ nn ∨ nn < a0 + gap 0)
  rw [hg, Int32.add_zero, if_neg (by omega), if_neg (by omega)]
  refine ⟨ht, by grind, by grind, by grind, by grind, by grind, by grind, by grind, by grind, hc.symm, h17, h5, fun w => absurd w (by decide), hn⟩
theorem bad0 (σ : S5) (r : Int32) : ¬ badK σ r = 0 := by
  unfold badK
  split <;> decide
theorem st_app139 {f p n : Int32} {σ : S5} (E : S5 → Option (Int32 × S5)) (B : Int32 → Prop) {v1 v3 : Int32} (h : St f p n σ) (h0 : 0 ≤ v1) (h1 : v1 < 6200) : Qt (f_X5_readApplication_b139 E v1 v3 σ) (fun r τ => Dm B f p n τ ∧ 0 ≤ r ∧ r < 6200) := by
  unfold f_X5_readApplication_b139
  rw [bd_eta']
  split
  · exact Qt.so ⟨Or.inl h, h0, h1⟩
  · exact dm_add9 _ _ _ _ (Or.inl h)
theorem AL.turn {σ0 μ0 : S5} {E : S5 → Option (Int32 × S5)} (hE : ESp E (gI σ0 14 + 1)) (hs0 : Sim σ0 μ0) (hz : Pz 3 σ0 μ0) {j : Nat} (hj : 1 ≤ j) (hj5 : j ≤ 5) {σ μ : S5} {c0 cl an : Int32} {g cc fs fu fn ft : Nat → Int32} (q : AL σ0 μ0 σ μ j c0 cl an g cc fs fu fn ft) {P : Nat} (hP : P + 1 ≤ 4 * pn σ) (m : Nat) (hrec : j < 5 → ∀ (σ1 μ1 : S5) (c : Int32) (g cc fs fu fn ft : Nat → Int32), AL σ0 μ0 σ1 μ1 (j + 1) c0 c an g cc fs fu fn ft → pn σ + 1 ≤ pn σ1 → Qt (f_X5_readApplication_L67 E (m + 1) c0 c (nI (j + 1)) σ1) (Out (4 * pn σ1 - 1) (fun μ' => gI μ' 20 = 1 ∧ gI μ' 21 = 0) (fun k => ¬ atK k) (fun _ => False) σ0 μ0 μ1)) : Qt (f_X5_readApplication_L67 E (m + 2) c0 cl (nI j) σ) (Out P (fun μ' => gI μ' 20 = 1 ∧ gI μ' 21 = 0) (fun k => ¬ atK k) (fun _ => False) σ0 μ0 μ) := by
  have ho0 := hs0.2.2
  unfold Bg at ho0
  obtain ⟨h160, h161, h170, h171⟩ := hz.rg ho0.2.2.2.2.2.2.2.1 (by decide)
  have hq := q
  obtain ⟨hBa, a19, a20, a21, a16, a17, a18, p14, p15, p17, hgr, hRB, hc0, hcl, k2, k10, k5, k7, k34, k30, hn0, hn1, haa, hM0, h01⟩ := hq
  obtain ⟨r1, r4, r5, r6, r7, r8, r9, r10, r11, t4, t5⟩ := hBa
  have hb := r1.2.2
  unfold Bg at hb
  have hp3 := r1.p3
  have hpn3 := pn_3 r1
  have hc0r : 0 ≤ c0 ∧ c0 < 6200 := by
    have x := (hRB.2.2.2.2.2.2.2.2 0 (by omega)).1.un.1
    unfold Bd at x
    grind
  have hclr : 0 ≤ cl ∧ cl < 6200 := by
    have x := (hRB.2.2.2.2.2.2.2.2 j (Nat.le_refl j)).1.un.1
    unfold Bd at x
    grind
  have hnI := nI_j hj (by omega)
  have hnI5 : nI j ≤ 5 := (nI_le31 (a := j) (b := 5) (by omega) (by omega)).mpr hj5
  by_cases hat : atK (gI σ 17)
  · obtain ⟨μy, y1, y2, y3, y4, y5, y6, y7, y8, y9, y10, y11, y12, y13, y14, y15, y16, y17⟩ := q.hang (by grind) (by grind) h170 (by grind)
    have hsy : Sim σ μy := r1.of y5 (y2 3 (by decide)) (y2 4 (by decide)) (y2 5 (by decide)) (y2 6 (by decide)) (congrFun y3 0) (y2 7 (by decide)) (y2 9 (by decide)) (y2 10 (by decide)) (y2 11 (by decide)) (y2 15 (by decide))
    obtain ⟨r, f1, f2, f3⟩ := con_of hsy.2.1 (gJ σ 0)
    have hjn : gI σ 17 = 4 → gJ σ 0 = gJ μy 0 := fun w => hsy.1.2.2.2.2.2.2.2.2.2.1 (Or.inr w)
    have hfr : gI σ 17 = 4 → f_X12_findConstructor (gJ μy 0) μy = some (r, μy) := fun w => by rw [← hjn w]; exact f2
    show Qt (f_X5_readApplication_B67 E (f_X5_readApplication_L67 E (m + 1)) c0 cl (nI j) σ) _
    unfold f_X5_readApplication_B67
    rw [if_neg (by grind), c_isAtom, bd_of, if_pos (show (gI σ 17 = 3 ∨ gI σ 17 = 4 ∨ gI σ 17 = 5 ∨ gI σ 17 = 11 ∨ gI σ 17 = 40) from hat), if_neg (by decide)]
    rcases c_stands r1 (r := r) (fun _ => ⟨f1, f3⟩) with ⟨hk, e1⟩ | ⟨hk, τ, e1, e2⟩
    · rw [e1, bd_of, if_neg (by decide)]
      by_cases c5 : j = 5
      · subst c5
        have hm := m_aeK hsy hk hfr (gI μ0 16) an (nI 5 + 1)
        rw [if_pos (by decide)] at hm
        have hfin : f_X12_atomEnds_b259 (gI μ0 16) an (pI (pI μy 7 4) 8 (gI μy 5)) = some ((), pI (pI (pI (pI μy 7 4) 8 (gI μy 5)) 19 0) 18 1) := by
          unfold f_X12_atomEnds_b259 f_X12_atomEnds_b303 f_X12_atomEnds_b322 f_X12_atomEnds_b323
          rw [if_neg (show ¬ gI (pI (pI μy 7 4) 8 (gI μy 5)) 7 = 0 from (by decide : ¬ (4 : Int32) = 0)), if_neg (show ¬ gI (pI (pI μy 7 4) 8 (gI μy 5)) 7 = 0 from (by decide : ¬ (4 : Int32) = 0))]
          rfl
        rw [hm, hfin] at y1
        obtain ⟨τ, g1, g2⟩ := c_ref r1 (k := 4) (by decide)
        rw [if_pos (by decide), g1, bd_of]
        refine (st_app113 E (fun _ => False) g2 hc0r.1 hc0r.2 hclr.1 hclr.2).mono (fun c σ2 w => Or.inr ⟨4, gI σ 18, gI σ 13, 1, by omega, die_of (tn_atom hb.2.1 (by grind) a19 a20 y1) (by decide) rfl ?_ ?_ ?_ ?_, w.1, w.2.1, w.2.2⟩)
        · show gI μy 5 = gI σ 18
          exact hsy.1.2.2.2.2.1.symm
        · show gI μy 11 = gI σ 13
          rw [y2 11 (by decide)]; exact hb.2.2.1.symm
        · show gI μy 12 - gI μy 11 = gI μ0 12 - gI μ0 11
          rw [y2 12 (by decide), y2 11 (by decide)]; exact r6
        · exact ((((r5.tr y5).I (by decide)).I (by decide)).I (by decide)).I (by decide)
      · have hn5 : ¬ nI j = 5 := by
          intro w
          have := (nI_lt31 (a := j) (b := 5) (by omega) (by omega)).mpr (by omega)
          rw [w] at this
          exact absurd this (by decide)
        have hn6 : ¬ nI j + 1 = 6 := by grind
        rw [if_neg hn5, if_neg hnI.1]
        have hm := m_aeK hsy hk hfr (gI μ0 16) an (nI j + 1)
        rw [if_neg hn6] at hm
        obtain ⟨z, τ, g1, g2, g3, g4⟩ := at_go (σ := σ) (μ := μy) (E := E) (by rw [r7]; exact hE) hsy hk hfr (by
          have i16 := iv_a1 ((y2 16 (by decide)).trans a16) (by grind) (by grind)
          have i17 := iv_eq y4
          have i14 := iv_eq r7
          unfold Pz at *
          omega) (by rw [y2 21 (by decide)]; exact a21)
        have hm2 : f_X12_atomEnds_b259 (gI μ0 16) an μy = some ((), aft (1 - z) τ) := by
          unfold f_X12_atomEnds_b259
          rw [if_pos (by rw [y2 7 (by decide)]; exact hb.2.1), if_pos (by grind)]
          exact m_303 (by rw [y2 7 (by decide)]; exact hb.2.1) g1 g2 (by rw [g3, y2 20 (by decide)]; exact a20)
        rw [hm, hm2] at y1
        have ht1 := tn_atom hb.2.1 (by grind) a19 a20 y1
        unfold f_X5_readApplication_b113
        refine Qt.bd g4 (fun c σ2 ho => ?_)
        rw [gd6200 hclr.1 hclr.2]
        rcases ho with ⟨μ2, n, k, o1, o2, o3, o4, o5⟩ | ⟨f, pp, mm, k, o1, o2, o3, o4, o5⟩
        · have hAL := GL.next hs0 q (if_neg (by omega)) y2 y4 y5 y6 y7 y8 y9 y10 y11 y12 y13 y14 y15 y16 y17 (by grind) (by grind) h170 o3 o4.1 o4.2
          have hpp : pn σ + 1 ≤ pn (pA σ2 17 cl c) := by
            have : pn (pA σ2 17 cl c) = pn σ2 := rfl
            omega
          have hx := hrec (by omega) _ _ _ _ _ _ _ _ _ hAL hpp
          rw [← nI_add1] at hx
          refine hx.mono (fun c3 σ3 w => ?_)
          have hpe : pn (pA σ2 17 cl c) = pn σ2 := rfl
          rcases w with ⟨μ3, n3, k3, w1, w2, w3, w4, w5⟩ | ⟨f, pp, mm, k3, w1, w2, w3, w4, w5⟩
          · exact Or.inl ⟨μ3, n3, 1 + k + k3, by omega, (ht1.tr o2).tr w2, w3, w4, w5⟩
          · exact Or.inr ⟨f, pp, mm, 1 + k + k3, by omega, (ht1.tr o2).die w2 rfl (EqR.rf μ0), w3, w4, w5⟩
        · have hst := o3.no
          refine (st_appL E (fun _ => False) (St17 _ _ hst) hc0r.1 hc0r.2).mono (fun c3 σ3 w => Or.inr ⟨f, pp, mm, 1 + k, by omega, ht1.die o2 (by rw [y2 12 (by decide), y2 11 (by decide)]; exact r6) (r5.tr y5), w.1, w.2.1, w.2.2⟩)
    · rw [e1, bd_of, if_pos rfl]
      obtain ⟨ρ, g1, g2, g3, g4, g5, g6⟩ := m_aeB hsy hat hk (fun w => ⟨hfr w, f3⟩) (gI μ0 16) an (nI j + 1)
      rw [g1] at y1
      refine (st_app139 E (fun _ => False) e2 hc0r.1 hc0r.2).mono (fun c σ2 w => Or.inr ⟨badK σ r, gI σ 18, gI σ 13, 1, by omega, die_of (tn_atom hb.2.1 (by grind) a19 a20 y1) (bad0 σ r) g2 g3 g4 ?_ ((r5.tr y5).tr g6), w.1, w.2.1, w.2.2⟩)
      rw [g5, g4, y2 12 (by decide), hb.2.2.1]; exact r6
  · obtain ⟨μ', e1, e2, e3, e4, e5⟩ := q.exit hs0 hj hj5 (by grind) (by grind) h170 (by grind) hat E (m + 1)
    refine Qt.eq e2 (Or.inl ⟨μ', an, 1, ?_, e1, e3, ⟨e4, e5⟩, hat⟩)
    have : pn (cN σ 8 0 (nI j) c0) = pn σ := rfl
    omega
theorem AL.loop {σ0 μ0 : S5} {E : S5 → Option (Int32 × S5)} (hE : ESp E (gI σ0 14 + 1)) (hs0 : Sim σ0 μ0) (hz : Pz 3 σ0 μ0) : ∀ (d j : Nat), 1 ≤ j → j + d = 5 → ∀ (m : Nat) (σ μ : S5) (c0 cl an : Int32) (g cc fs fu fn ft : Nat → Int32), AL σ0 μ0 σ μ j c0 cl an g cc fs fu fn ft → ∀ P, P + 1 ≤ 4 * pn σ → Qt (f_X5_readApplication_L67 E (m + d + 2) c0 cl (nI j) σ) (Out P (fun μ' => gI μ' 20 = 1 ∧ gI μ' 21 = 0) (fun k => ¬ atK k) (fun _ => False) σ0 μ0 μ) := by
  intro d
  induction d with
  | zero =>
    intro j hj hjd m σ μ c0 cl an g cc fs fu fn ft q P hP
    exact AL.turn hE hs0 hz hj (by omega) q hP (m + 0) (fun w => by omega)
  | succ d ih =>
    intro j hj hjd m σ μ c0 cl an g cc fs fu fn ft q P hP
    refine AL.turn hE hs0 hz hj (by omega) q hP (m + (d + 1)) (fun _ σ1 μ1 c g cc fs fu fn ft q1 hp => ?_)
    exact ih (j + 1) (by omega) (by omega) m σ1 μ1 c0 c an g cc fs fu fn ft q1 (4 * pn σ1 - 1) (by omega)
