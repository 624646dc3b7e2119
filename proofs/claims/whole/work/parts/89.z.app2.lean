/-- pile and operands below stay -/
def PF (μ0 μ : S5) : Prop := (∀ i, 0 ≤ i → i < gI μ0 16 → xA μ 14 i = xA μ0 14 i ∧ xA μ 15 i = xA μ0 15 i ∧ xA μ 16 i = xA μ0 16 i ∧ xA μ 17 i = xA μ0 17 i) ∧ (∀ i, 0 ≤ i → i < gI μ0 17 → xA μ 18 i = xA μ0 18 i)
/-- what holds all along while both read -/
def Ba (σ0 μ0 σ μ : S5) : Prop := Sim σ μ ∧ EqE σ0 σ ∧ EqR μ0 μ ∧ gI μ 12 - gI μ 11 = gI μ0 12 - gI μ0 11 ∧ gI σ 14 = gI σ0 14 ∧ gI σ 15 = gI σ0 15 ∧ FrC σ0 σ ∧ FrM μ0 μ ∧ Gr σ0 σ μ0 μ ∧ PF μ0 μ
theorem Cor.ba {σ μ σ' μ' : S5} {c n : Int32} (h : Cor σ μ c σ' μ' n) : Ba σ μ σ' μ' := by
  obtain ⟨r1, r2, ⟨t1, t2, t3, t4, t5⟩, r4, r5, r6, r7, r8, r9, r10, r11, r12, r13, r14, r15⟩ := h
  exact ⟨r1, r4, r5, r6, r7, r8, r9, r10, r11, t4, t5⟩
theorem FrC.tr {σ σ1 σ2 : S5} (h : FrC σ σ1) (h2 : FrC σ1 σ2) (k8 : gI σ 8 ≤ gI σ1 8) (k9 : gI σ 9 ≤ gI σ1 9) (k10 : gI σ 10 ≤ gI σ1 10) (hb : 0 ≤ gI σ 9) (hb2 : gI σ1 9 ≤ 700) : FrC σ σ2 := by
  obtain ⟨a1, a2, a3, a4⟩ := h
  obtain ⟨b1, b2, b3, b4⟩ := h2
  refine ⟨fun i p q => ?_, fun i p q => ?_, fun i p q => (b3 i p (by grind)).trans (a3 i p q), fun i p q => ?_⟩
  · have x := a1 i p q
    have y := b1 i p (by grind)
    exact ⟨y.1.trans x.1, y.2.1.trans x.2.1, y.2.2.1.trans x.2.2.1, y.2.2.2.1.trans x.2.2.2.1, y.2.2.2.2.trans x.2.2.2.2⟩
  · have x := a2 i p q
    have y := b2 i p (by grind)
    exact ⟨y.1.trans x.1, y.2.1.trans x.2.1, y.2.2.1.trans x.2.2.1, y.2.2.2.1.trans x.2.2.2.1, y.2.2.2.2.trans x.2.2.2.2⟩
  · have x := a4 i p q
    have y := b4 i p (by grind)
    exact ⟨y.1.trans x.1, y.2.1.trans x.2.1, y.2.2.1.trans x.2.2.1, y.2.2.2.trans x.2.2.2⟩
theorem FrM.tr {μ μ1 μ2 : S5} (h : FrM μ μ1) (h2 : FrM μ1 μ2) (k9 : gI μ 9 ≤ gI μ1 9) (k10 : gI μ 10 ≤ gI μ1 10) : FrM μ μ2 := by
  obtain ⟨a1, a2⟩ := h
  obtain ⟨b1, b2⟩ := h2
  refine ⟨fun i p q => ?_, fun i p q => (b2 i p (by grind)).trans (a2 i p q)⟩
  have x := a1 i p q
  have y := b1 i p (by grind)
  exact ⟨y.1.trans x.1, y.2.1.trans x.2.1, y.2.2.1.trans x.2.2.1, y.2.2.2.1.trans x.2.2.2.1, y.2.2.2.2.1.trans x.2.2.2.2.1, y.2.2.2.2.2.1.trans x.2.2.2.2.2.1, y.2.2.2.2.2.2.1.trans x.2.2.2.2.2.2.1, y.2.2.2.2.2.2.2.1.trans x.2.2.2.2.2.2.2.1, y.2.2.2.2.2.2.2.2.1.trans x.2.2.2.2.2.2.2.2.1, y.2.2.2.2.2.2.2.2.2.trans x.2.2.2.2.2.2.2.2.2⟩
theorem PF.tr {μ μ1 μ2 : S5} (h : PF μ μ1) (h2 : PF μ1 μ2) (k : gI μ 16 ≤ gI μ1 16) (k2 : gI μ 17 ≤ gI μ1 17) : PF μ μ2 := by
  obtain ⟨a1, a2⟩ := h
  obtain ⟨b1, b2⟩ := h2
  refine ⟨fun i p q => ?_, fun i p q => (b2 i p (by grind)).trans (a2 i p q)⟩
  have x := a1 i p q
  have y := b1 i p (by grind)
  exact ⟨y.1.trans x.1, y.2.1.trans x.2.1, y.2.2.1.trans x.2.2.1, y.2.2.2.trans x.2.2.2⟩
/-- a state's rows of nodes are another's -/
theorem RB.rows {σ μ μ' : S5} {h s0 u0 a0 t0 : Int32} {gap : Nat → Int32} {nn s1 u1 b1 c1 : Int32} {j ap : Nat} {g cc fs fu fn ft : Nat → Int32} (q : RB σ μ h s0 u0 a0 t0 gap nn s1 u1 b1 c1 j ap g cc fs fu fn ft) (h2 : ∀ k, k ≤ 13 → gA μ' k = gA μ k) (h3 : gB μ' = gB μ) (h4 : gI μ' 10 = gI μ 10) : RB σ μ' h s0 u0 a0 t0 gap nn s1 u1 b1 c1 j ap g cc fs fu fn ft := by
  have ya : ∀ k i, k ≤ 13 → xA μ' k i = xA μ k i := fun k i hk => congrFun (h2 k hk) _
  have yb : ∀ k i, xB μ' k i = xB μ k i := fun k i => congrFun (congrFun h3 k) _
  refine q.st (fun i hk => ⟨fun i _ _ => ⟨rfl, rfl, rfl, rfl⟩, fun i _ _ => rfl, fun i _ _ => ⟨rfl, rfl, rfl, rfl⟩, fun i _ _ => rfl, fun i _ _ => rfl, fun i _ _ => ⟨rfl, rfl, rfl, rfl⟩, fun i _ _ => ⟨ya _ _ (by decide), ya _ _ (by decide), ya _ _ (by decide), ya _ _ (by decide), ya _ _ (by decide), ya _ _ (by decide), ya _ _ (by decide), ya _ _ (by decide), yb _ _⟩, fun i _ _ _ => ya _ _ (by decide), fun i _ _ => yb _ _, by rw [h4]; grind, rfl, fun i _ _ => rfl⟩) (fun i hk => rfl) (fun i hk => ya _ _ (by decide))
theorem app01 (i : Nat) : appGap i = 0 ∨ appGap i = 1 := by
  unfold appGap
  split
  · exact Or.inr rfl
  · exact Or.inl rfl
theorem no01 (i : Nat) : noGap i = 0 ∨ noGap i = 1 := Or.inl rfl
/-- a row that is being read at a node an of the reference: j items behind the first are there -/
def GL (pk nk aa vv : Int32) (gap : Nat → Int32) (σ0 μ0 σ μ : S5) (j : Nat) (c0 cl an : Int32) (g cc fs fu fn ft : Nat → Int32) : Prop := Ba σ0 μ0 σ μ ∧ gI μ 19 = 0 ∧ gI μ 20 = 0 ∧ gI μ 21 = 0 ∧ gI μ 16 = gI μ0 16 + 1 ∧ gI μ 17 = gI μ0 17 + 1 ∧ xA μ 18 (gI μ0 17) = g j ∧ xA μ 14 (gI μ0 16) = pk ∧ xA μ 15 (gI μ0 16) = an ∧ xA μ 17 (gI μ0 16) = nI j ∧ Gm 2 1 σ0 σ μ0 μ ∧ RB σ μ (gI σ0 15) (gI σ0 9) (gI σ0 10) aa (gI σ0 8) gap an (gI σ 9) (gI σ 10) (gI μ 9) (gI σ 8) j j g cc fs fu fn ft ∧ cc 0 = c0 ∧ cc j = cl ∧ xA μ 2 an = nk ∧ xA μ 10 an = 0 ∧ xA μ 5 an = -1 ∧ xA μ 7 an = vv ∧ (0 < j → xA μ 3 an = g 0 ∧ xA μ 4 an = g (j - 1)) ∧ (j = 0 → xA μ 3 an = -1) ∧ gI μ0 9 ≤ an ∧ an < gI μ 9 ∧ gI μ0 9 ≤ aa ∧ 0 ≤ gI μ0 9 ∧ (∀ i, gap i = 0 ∨ gap i = 1)
theorem Sim.bm {σ μ : S5} (h : Sim σ μ) : Bm σ μ := by
  have hb := h.2.2
  unfold Bg at hb
  exact hb.2.2.2.2.2.2.2.2.2.2.2.2.2.2.2.2.2.2.2.2.2.2
theorem Sim.of {σ μ μ' : S5} (h : Sim σ μ) (he : EqR μ μ') (m3 : gI μ' 3 = gI μ 3) (m4 : gI μ' 4 = gI μ 4) (m5 : gI μ' 5 = gI μ 5) (m6 : gI μ' 6 = gI μ 6) (mJ : gJ μ' 0 = gJ μ 0) (m7 : gI μ' 7 = gI μ 7) (m9 : gI μ' 9 = gI μ 9) (m10 : gI μ' 10 = gI μ 10) (m11 : gI μ' 11 = gI μ 11) (m15 : gI μ' 15 = gI μ 15) : Sim σ μ' := by
  obtain ⟨hw, hc, hb⟩ := h
  refine ⟨Wd_of hw rfl rfl rfl rfl rfl rfl rfl (he.1 1 (by decide)) m3 m4 m5 m6 mJ (he.2.2.1 0 (by decide)), Ct_eq hc (EqE.rf σ) he, ?_⟩
  unfold Bg Bm iv at *
  rw [m7, m9, m10, m11, m15]
  exact hb
theorem GL.hang {pk nk aa vv : Int32} {gap : Nat → Int32} {σ0 μ0 σ μ : S5} {j : Nat} {c0 cl an : Int32} {g cc fs fu fn ft : Nat → Int32} (q : GL pk nk aa vv gap σ0 μ0 σ μ j c0 cl an g cc fs fu fn ft) (h160 : 0 ≤ gI μ0 16) (h161 : gI μ0 16 < 3100) (h170 : 0 ≤ gI μ0 17) (h171 : gI μ0 17 < 3100) : ∃ μy : S5, (∀ f : Unit → S5 → Option (Unit × S5), bd (f_X12_taken (pA μ 17 (gI μ0 16) (nI j + 1))) (fun r τ => bd (f_X12_append an r τ) f) = f () μy) ∧ (∀ k, ¬ k = 17 → gI μy k = gI μ k) ∧ gJ μy = gJ μ ∧ gI μy 17 = gI μ0 17 ∧ EqR μ μy ∧ FrM μ0 μy ∧ PF μ0 μy ∧ xA μy 14 (gI μ0 16) = pk ∧ xA μy 15 (gI μ0 16) = an ∧ xA μy 17 (gI μ0 16) = nI j + 1 ∧ RB σ μy (gI σ0 15) (gI σ0 9) (gI σ0 10) aa (gI σ0 8) gap an (gI σ 9) (gI σ 10) (gI μ 9) (gI σ 8) j (j + 1) g cc fs fu fn ft ∧ xA μy 2 an = nk ∧ xA μy 10 an = 0 ∧ xA μy 5 an = -1 ∧ xA μy 3 an = g 0 ∧ xA μy 4 an = g j ∧ xA μy 7 an = vv := by
  obtain ⟨hBa, a19, a20, a21, a16, a17, a18, p14, p15, p17, hgr, hRB, hc0, hcl, k2, k10, k5, k7, k34, k30, hn0, hn1, haa, hM0, h01⟩ := q
  obtain ⟨r1, r4, r5, r6, r7, r8, r9, r10, r11, t4, t5⟩ := hBa
  have hb := r1.2.2
  unfold Bg at hb
  have hp3 := r1.p3
  have hN : gI μ 9 < 3200 := by grind
  have e17 : gI (pA μ 17 (gI μ0 16) (nI j + 1)) 17 - 1 = gI μ0 17 := by show gI μ 17 - 1 = _; rw [a17]; grind
  have e18 : xA (pA μ 17 (gI μ0 16) (nI j + 1)) 18 (gI μ0 17) = g j := by rw [xA_pA, if_neg (fun w => absurd w.1 (by decide))]; exact a18
  have hRB2 : RB σ (pI (pA μ 17 (gI μ0 16) (nI j + 1)) 17 (gI μ0 17)) (gI σ0 15) (gI σ0 9) (gI σ0 10) aa (gI σ0 8) gap an (gI σ 9) (gI σ 10) (gI μ 9) (gI σ 8) j j g cc fs fu fn ft := hRB.rows (fun k hk => gA_ne _ _ _ (by omega)) rfl rfl
  have x3 : xA (pI (pA μ 17 (gI μ0 16) (nI j + 1)) 17 (gI μ0 17)) 3 an = xA μ 3 an := rfl
  have x4 : xA (pI (pA μ 17 (gI μ0 16) (nI j + 1)) 17 (gI μ0 17)) 4 an = xA μ 4 an := rfl
  obtain ⟨μy, y1, y2, y3, y4, y5, y6, y7, y8, y9, y10, y11, y12⟩ := hRB2.ap (by grind) (by grind) (fun w => by rw [x3, k30 w]; decide) (fun w => ⟨by rw [x3]; exact (k34 w).1, by rw [x4]; exact (k34 w).2⟩) h01
  have hx : ∀ f : Unit → S5 → Option (Unit × S5), bd (f_X12_taken (pA μ 17 (gI μ0 16) (nI j + 1))) (fun r τ => bd (f_X12_append an r τ) f) = f () μy := by
    intro f
    rw [m_taken (μ := pA μ 17 (gI μ0 16) (nI j + 1)) (by rw [e17]; exact h170) (by rw [e17]; grind), bd_of, e17, e18, y1, bd_of]
  have gy : ∀ k, gI μy k = gI (pI (pA μ 17 (gI μ0 16) (nI j + 1)) 17 (gI μ0 17)) k := fun k => congrFun y5 k
  have yA : ∀ k i, ¬ k = 3 → ¬ k = 4 → ¬ k = 5 → xA μy k i = xA (pA μ 17 (gI μ0 16) (nI j + 1)) k i := fun k i q1 q2 q3 => congrFun (y7 k q1 q2 q3) _
  have yB : ∀ k i, xB μy k i = xB μ k i := fun k i => congrFun (congrFun y8 k) _
  have yR : EqR μ μy := ((EqR.rf μ).A (by decide) |>.I (by decide)).tr y9
  refine ⟨μy, hx, fun k hk => ?_, ?_, ?_, yR, ⟨fun i p q => ?_, fun i p q => ?_⟩, ⟨fun i p q => ?_, fun i p q => ?_⟩, ?_, ?_, ?_, y2, ?_, ?_, ?_, y3, y4, ?_⟩
  · rw [gy, gI_pI, if_neg hk]; rfl
  · exact y6
  · rw [gy]; rfl
  · have x := r10.1 i p q
    have w := y10 i p (by grind) (by grind)
    have z : ∀ k, ¬ k = 3 → ¬ k = 4 → ¬ k = 5 → ¬ k = 17 → xA μy k i = xA μ k i := fun k q1 q2 q3 q4 => by rw [yA k i q1 q2 q3, xA_pA, if_neg (fun w => q4 w.1)]
    refine ⟨(z 2 (by decide) (by decide) (by decide) (by decide)).trans x.1, w.1.trans x.2.1, w.2.1.trans x.2.2.1, w.2.2.trans x.2.2.2.1, (z 6 (by decide) (by decide) (by decide) (by decide)).trans x.2.2.2.2.1, (z 7 (by decide) (by decide) (by decide) (by decide)).trans x.2.2.2.2.2.1, (z 8 (by decide) (by decide) (by decide) (by decide)).trans x.2.2.2.2.2.2.1, (z 9 (by decide) (by decide) (by decide) (by decide)).trans x.2.2.2.2.2.2.2.1, (z 10 (by decide) (by decide) (by decide) (by decide)).trans x.2.2.2.2.2.2.2.2.1, (yB 0 i).trans x.2.2.2.2.2.2.2.2.2⟩
  · exact (yB 1 i).trans (r10.2 i p q)
  · have x := t4 i p q
    have hne := i_ne p q
    rw [yA 14 i (by decide) (by decide) (by decide), yA 15 i (by decide) (by decide) (by decide), yA 16 i (by decide) (by decide) (by decide), yA 17 i (by decide) (by decide) (by decide)]
    simp only [xA_pA, hne, and_false, if_false]
    exact x
  · rw [yA 18 i (by decide) (by decide) (by decide), xA_pA, if_neg (fun w => absurd w.1 (by decide))]
    exact t5 i p q
  · rw [yA 14 _ (by decide) (by decide) (by decide), xA_pA, if_neg (fun w => absurd w.1 (by decide))]; exact p14
  · rw [yA 15 _ (by decide) (by decide) (by decide), xA_pA, if_neg (fun w => absurd w.1 (by decide))]; exact p15
  · rw [yA 17 _ (by decide) (by decide) (by decide), xA_pA, if_pos ⟨rfl, rfl⟩]
  · rw [yA 2 _ (by decide) (by decide) (by decide), xA_pA, if_neg (fun w => absurd w.1 (by decide))]; exact k2
  · rw [yA 10 _ (by decide) (by decide) (by decide), xA_pA, if_neg (fun w => absurd w.1 (by decide))]; exact k10
  · rw [y12, xA_pI, xA_pA, if_neg (fun w => absurd w.1 (by decide))]; exact k5
  · rw [yA 7 _ (by decide) (by decide) (by decide), xA_pA, if_neg (fun w => absurd w.1 (by decide))]; exact k7
/-- an application's arguments -/
def AL (σ0 μ0 σ μ : S5) (j : Nat) (c0 cl an : Int32) (g cc fs fu fn ft : Nat → Int32) : Prop := GL 8 6 (gI μ0 9) 0 appGap σ0 μ0 σ μ j c0 cl an g cc fs fu fn ft
theorem AL.hang {σ0 μ0 σ μ : S5} {j : Nat} {c0 cl an : Int32} {g cc fs fu fn ft : Nat → Int32} (q : AL σ0 μ0 σ μ j c0 cl an g cc fs fu fn ft) (h160 : 0 ≤ gI μ0 16) (h161 : gI μ0 16 < 3100) (h170 : 0 ≤ gI μ0 17) (h171 : gI μ0 17 < 3100) : ∃ μy : S5, f_X12_atomEnds μ = f_X12_atomEnds_b139 (gI μ0 16) an (nI j + 1) μy ∧ (∀ k, ¬ k = 17 → gI μy k = gI μ k) ∧ gJ μy = gJ μ ∧ gI μy 17 = gI μ0 17 ∧ EqR μ μy ∧ FrM μ0 μy ∧ PF μ0 μy ∧ xA μy 14 (gI μ0 16) = 8 ∧ xA μy 15 (gI μ0 16) = an ∧ xA μy 17 (gI μ0 16) = nI j + 1 ∧ RB σ μy (gI σ0 15) (gI σ0 9) (gI σ0 10) (gI μ0 9) (gI σ0 8) appGap an (gI σ 9) (gI σ 10) (gI μ 9) (gI σ 8) j (j + 1) g cc fs fu fn ft ∧ xA μy 2 an = 6 ∧ xA μy 10 an = 0 ∧ xA μy 5 an = -1 ∧ xA μy 3 an = g 0 ∧ xA μy 4 an = g j ∧ xA μy 7 an = 0 := by
  obtain ⟨μy, y1, y⟩ := GL.hang q h160 h161 h170 h171
  refine ⟨μy, ?_, y⟩
  obtain ⟨hBa, a19, a20, a21, a16, a17, a18, p14, p15, p17, hgr, hRB, hc0, hcl, k2, k10, k5, k7, k34, k30, hn0, hn1, haa, hM0, h01⟩ := q
  have e16 : gI μ 16 - 1 = gI μ0 16 := by rw [a16]; grind
  have hx := m_ae8 (μ := μ) (by rw [e16]; exact h160) (by rw [e16]; grind) (by rw [e16]; exact p14)
  rw [e16, p15, if_neg (by grind), p17] at hx
  rw [hx]
  exact y1 _
