/-- the one calls a function -/
theorem call_c {σ : S5} {t b f e g i had A nvg pag : Nat} {v2 : Int32} (hM : MC σ (t + i) b f e) (ht : t + i + 3 < 1048576) (he : e + 40 < 262144) (hg : g < 630) (h6 : xA σ 6 (nI g) = nI nvg) (hnv : nvg ≤ 40) (h3 : xA σ 3 (nI g) = nI pag) (hpn : pag ≤ nvg) (hp8 : pag ≤ 8) (hhad : had < pag) (hi8 : i ≤ 8) (hcall : pag ≤ had + i) (hlt : xA σ 40 2 < gI σ 47) (hv2 : (had = 0 ∧ v2 = -1) ∨ (1 ≤ had ∧ v2 = nI A ∧ gB σ 14 (A + 1) = (nI had).toInt64)) (hA : A + 2 + had ≤ 4000) : ∃ σ', f_X3_enterCall (nI g) v2 (nI i) σ = some ((), pI (pI σ' 44 (xA σ 7 (nI g))) 45 1) ∧ MC σ' (t + (had + i - pag) + (if had + i - pag = 0 then 0 else 1) + 1) e g (e + nvg) ∧ FmC σ σ' ∧ (gN σ 1 ≤ gN σ' 1 ∧ gN σ 3 ≤ gN σ' 3) ∧ (∀ j, ¬ (40 ≤ j ∧ j ≤ 43) → gI σ' j = gI σ j) ∧ gA σ' 40 = upd (gA σ 40) 2 (gA σ 40 2 + 1) ∧ gA σ' 41 = upd (gA σ 41) g (gA σ 41 g + 1) ∧ (∀ j, ¬ j = 40 → ¬ j = 41 → gA σ' j = gA σ j) ∧ gB σ' 14 = gB σ 14 ∧ (gB σ' 12 (t + (had + i - pag) + (if had + i - pag = 0 then 0 else 1)) = fr 8 b f ∧ (¬ had + i - pag = 0 → gB σ' 12 (t + (had + i - pag)) = fr 6 (had + i - pag) 0) ∧ (∀ j, j < t → gB σ' 12 j = gB σ 12 j) ∧ ∀ y, y < had + i - pag → gB σ' 12 (t + y) = gB σ 12 (t + (pag - had) + y)) ∧ (∀ j, j < e → gB σ' 13 j = gB σ 13 j) ∧ (∀ y, y < had → gB σ' 13 (e + y) = gB σ 14 (A + 2 + y)) ∧ ∀ y, y < pag - had → gB σ' 13 (e + had + y) = gB σ 12 (t + y) := by
  have hbig := FU_big (n := 5000) (by decide)
  obtain ⟨tk, htk⟩ : ∃ z, z = pag - had := ⟨_, rfl⟩
  obtain ⟨lf, hlf⟩ : ∃ z, z = had + i - pag := ⟨_, rfl⟩
  rw [← htk, ← hlf]
  obtain ⟨⟨m1, m2, m3, m4⟩, m5, m6, m7, m8⟩ := id hM
  have l1 := m5.b
  have l3 := m7.b
  -- the counts
  obtain ⟨σ0, e0⟩ : ∃ z, z = pA (pA σ 40 2 ((xA σ 40 2) + 1)) 41 (nI g) ((xA σ 41 (nI g)) + 1) := ⟨_, rfl⟩
  have hgc : (nI g).toNatClampNeg = g := nI_clamp (by omega)
  have a40 : gA σ0 40 = upd (gA σ 40) 2 (gA σ 40 2 + 1) := by
    rw [e0, gA_pA_ne (by decide)]
    rfl
  have a41 : gA σ0 41 = upd (gA σ 41) g (gA σ 41 g + 1) := by
    rw [e0]
    show upd (gA σ 41) (nI g).toNatClampNeg (gA σ 41 (nI g).toNatClampNeg + 1) = _
    rw [hgc]
  have aO : ∀ j, ¬ j = 40 → ¬ j = 41 → gA σ0 j = gA σ j := fun j x y => by rw [e0, gA_pA_ne y, gA_pA_ne x]
  have fI : ∀ j, gI σ0 j = gI σ j := fun j => by rw [e0]; rfl
  have fJ : ∀ j, gJ σ0 j = gJ σ j := fun j => by rw [e0]; rfl
  have fB : ∀ j, gB σ0 j = gB σ j := fun j => by rw [e0]; rfl
  have fN : ∀ j, gN σ0 j = gN σ j := fun j => by rw [e0]; rfl
  have x6 : xA σ0 6 (nI g) = nI nvg := by
    show gA σ0 6 _ = _
    rw [aO 6 (by decide) (by decide)]
    exact h6
  have x3 : xA σ0 3 (nI g) = nI pag := by
    show gA σ0 3 _ = _
    rw [aO 3 (by decide) (by decide)]
    exact h3
  -- room
  obtain ⟨σ1, r1, r2, r3, r4, r5, r6⟩ := room_go (τ := σ) (edge := e) hg x6 hnv (by rw [fI]; exact m3) (by rw [fN]; exact m7) (by rw [fN]; exact m8) he
  have k1 : gN σ1 1 = gN σ 1 := (r2.2.2.2.2 1 (by decide)).trans (fN 1)
  have k13 : gN σ 3 ≤ gN σ1 3 := by rw [← fN 3]; exact r6
  have l31 := r4.b
  -- variables
  obtain ⟨σ2, c1, c2, c3, c4⟩ := cl105 (v1 := nI g) (v2 := v2) (v5 := nI tk) (v6 := nI t) (v7 := nI lf) (A := A) (had := had) (e := e) (fun w => by
    rcases hv2 with ⟨z, -⟩ | ⟨-, z, -⟩
    · omega
    · exact z) hA (by omega) (by omega) had 0 FU σ1 (by omega) (by omega) (by omega) (by omega)
  have n2 : ∀ j, gN σ2 j = gN σ1 j := fun j => congrFun c2.2.2.2.2 j
  obtain ⟨σ3, d1, d2, d3, d4⟩ := cl145 (v1 := nI g) (v7 := nI lf) (had := had) (tk := tk) (fr0 := t) (e := e) (by omega) (by omega) (by omega) (by omega) tk 0 FU σ2 (by omega) (by omega) (by rw [n2]; omega) (by rw [n2]; omega) (by rw [n2, k1]; omega) (by rw [n2, k1]; omega)
  have n3 : ∀ j, gN σ3 j = gN σ1 j := fun j => (congrFun d2.2.2.2.2 j).trans (n2 j)
  obtain ⟨σ4, g1, g2, g3, g4⟩ := cl184 (v1 := nI g) (tk := tk) (fr0 := t) (lf := lf) (by omega) (by omega) (by omega) (by omega) lf 0 FU σ3 (by omega) (by omega) (by rw [n3, k1]; omega) (by rw [n3, k1]; omega)
  have n4 : ∀ j, gN σ4 j = gN σ1 j := fun j => (congrFun g2.2.2.2.2 j).trans (n3 j)
  have I4 : ∀ j, gI σ4 j = gI σ j := fun j => by rw [g2.1, d2.1, c2.1, r2.1, fI]
  have J4 : ∀ j, gJ σ4 j = gJ σ j := fun j => by rw [g2.2.1, d2.2.1, c2.2.1, r2.2.1, fJ]
  have A4 : ∀ j, gA σ4 j = gA σ0 j := fun j => by rw [g2.2.2.1, d2.2.2.1, c2.2.2.1, r2.2.2.1]
  have B4 : ∀ j, ¬ j = 12 → ¬ j = 13 → gB σ4 j = gB σ j := fun j x y => by rw [g2.2.2.2.1 j x, d2.2.2.2.1 j y, c2.2.2.2.1 j y, r2.2.2.2.1 j y, fB]
  have B12 : ∀ j, gB σ3 12 j = gB σ 12 j := fun j => by rw [d2.2.2.2.1 12 (by decide), c2.2.2.2.1 12 (by decide), r2.2.2.2.1 12 (by decide), fB]
  have B13 : gB σ4 13 = gB σ3 13 := g2.2.2.2.1 13 (by decide)
  have V1 : ∀ j, j < e → gB σ4 13 j = gB σ 13 j := fun j hj => by
    rw [B13, d4 j (fun y _ _ => by omega), c4 j (fun y _ _ => by omega), r3 j (by rw [fN]; omega), fB]
  have V2 : ∀ y, y < had → gB σ4 13 (e + y) = gB σ 14 (A + 2 + y) := fun y hy => by
    rw [B13, d4 _ (fun z _ _ => by omega), c3 y (Nat.zero_le _) hy, r2.2.2.2.1 14 (by decide), fB]
  have V3 : ∀ y, y < tk → gB σ4 13 (e + had + y) = gB σ 12 (t + y) := fun y hy => by
    rw [B13, d3 y (Nat.zero_le _) hy, c2.2.2.2.1 12 (by decide), r2.2.2.2.1 12 (by decide), fB]
  have S1 : ∀ j, j < t → gB σ4 12 j = gB σ 12 j := fun j hj => by rw [g4 j (fun y _ _ => by omega), B12]
  have S2 : ∀ y, y < lf → gB σ4 12 (t + y) = gB σ 12 (t + tk + y) := fun y hy => by rw [g3 y (Nat.zero_le _) hy, B12]
  -- up to the frames
  have head : f_X3_enterCall (nI g) v2 (nI i) σ = clT (nI g) t lf σ4 := by
    have hroom : f_X3_enterCall_b61 (nI g) v2 (nI i) (nI had) σ0 = clT (nI g) t lf σ4 := by
      unfold f_X3_enterCall_b61 f_X3_enterCall_b102
      rw [gdn hg (by omega), r1, bd_of]
      unfold gle
      rw [if_pos (by rw [k1, fN]; exact Nat.le_refl _), if_pos r6, x3, nI_sub (by omega), ← htk, nI_sub (by omega), fI 40, m1, nI_sub (by omega), fI 42, m3, show t + i - i = t by omega, show i - tk = lf by omega]
      have c1' : f_X3_enterCall_L105 FU (nI g) v2 (nI had) (nI tk) (nI t) (nI lf) (nI e) 0 σ1 = f_X3_enterCall_L145 FU (nI g) (nI had) (nI tk) (nI t) (nI lf) (nI e) 0 σ2 := c1
      have d1' : f_X3_enterCall_L145 FU (nI g) (nI had) (nI tk) (nI t) (nI lf) (nI e) 0 σ2 = f_X3_enterCall_L184 FU (nI g) (nI tk) (nI t) (nI lf) 0 σ3 := d1
      rw [c1', d1']
      exact g1
    unfold f_X3_enterCall
    rw [if_pos hlt, gdn hg (by omega), gdn hg (by omega)]
    rcases hv2 with ⟨z1, z2⟩ | ⟨z1, z2, z3⟩
    · rw [z2, if_pos rfl, ← z2, ← e0]
      have : (nI had) = 0 := by rw [z1]; rfl
      rw [this] at hroom
      exact hroom
    · rw [z2, if_neg (nneg1 (i_le0 (nI_nneg (by omega)))), ← z2, show v2 + 1 = nI (A + 1) by rw [z2, nI_add1], gdn (by omega) (by omega), xB_at (by omega), z3, i2l2i, ← e0]
      exact hroom
  obtain ⟨σ5, e5⟩ : ∃ z, z = pI σ4 40 (nI (t + lf)) := ⟨_, rfl⟩
  have I5 : ∀ j, ¬ j = 40 → gI σ5 j = gI σ j := fun j w => by rw [e5, gI_pI, if_neg w, I4]
  have J5 : ∀ j, gJ σ5 j = gJ σ j := fun j => by rw [e5]; exact J4 j
  have A5 : ∀ j, gA σ5 j = gA σ0 j := fun j => by rw [e5]; exact A4 j
  have B5 : ∀ j, gB σ5 j = gB σ4 j := fun j => by rw [e5]; rfl
  have N5 : ∀ j, gN σ5 j = gN σ1 j := fun j => by rw [e5]; exact n4 j
  have M5 : MC σ5 (t + lf) b f e := ⟨⟨by rw [e5]; rfl, (I5 41 (by decide)).trans m2, (I5 42 (by decide)).trans m3, (I5 43 (by decide)).trans m4⟩, by rw [N5, k1]; exact m5, by rw [N5, k1]; omega, by rw [N5]; exact r4, by rw [N5]; omega⟩
  have mid : ∃ σ6, clT (nI g) t lf σ4 = f_X3_enterCall_b246 (nI g) σ6 ∧ MC σ6 (t + lf + (if lf = 0 then 0 else 1)) b f e ∧ FpC σ5 σ6 ∧ (¬ lf = 0 → gB σ6 12 (t + lf) = fr 6 lf 0) ∧ (∀ j, j < t + lf → gB σ6 12 j = gB σ4 12 j) ∧ gN σ1 1 ≤ gN σ6 1 ∧ gN σ6 3 = gN σ1 3 := by
    by_cases hl : lf = 0
    · refine ⟨σ5, ?_, ?_, ⟨fun _ _ => rfl, fun _ => rfl, fun _ => rfl, fun _ _ => rfl, fun _ _ => rfl⟩, fun w => absurd hl w, fun j _ => by rw [B5], by rw [N5]; exact Nat.le_refl _, N5 3⟩
      · unfold clT
        rw [if_pos hl, e5, hl, Nat.add_zero]
      · rw [if_pos hl]; exact M5
    · obtain ⟨σ6, w1, w2, w3, w4, w5, w6, w7⟩ := push_c M5 (by omega) (fr 6 lf 0)
      refine ⟨σ6, ?_, ?_, w3, fun _ => w4, fun j hj => by rw [w5 j hj, B5], by rw [← N5]; exact w6, by rw [w7, N5]⟩
      · unfold clT
        rw [if_neg hl, ← e5, w1, bd_of]
        unfold gle
        rw [if_pos (by rw [n4, ← N5]; exact w6), if_pos (by rw [n4, ← N5, w7]; exact Nat.le_refl _)]
      · rw [if_neg hl]; exact w2
  obtain ⟨σ6, t1, t2, t3, t4, t5, t6, t7⟩ := mid
  have x66 : xA σ6 6 (nI g) = nI nvg := by
    show gA σ6 6 _ = _
    rw [t3.2.2.1 6, A5 6]
    exact x6
  have hu : t + lf + (if lf = 0 then 0 else 1) < 1048576 := by
    by_cases hl : lf = 0
    · rw [if_pos hl]; omega
    · rw [if_neg hl]; omega
  obtain ⟨σ7, o1, o2, o3, o4, o5, o6, o7, o8⟩ := open_c t2 hg x66 hnv hu he
  have A7 : ∀ j, gA σ7 j = gA σ0 j := fun j => (o3.2.2.1 j).trans ((t3.2.2.1 j).trans (A5 j))
  have B7 : ∀ j, ¬ j = 12 → ¬ j = 13 → gB σ7 j = gB σ j := fun j x y => by rw [o3.2.2.2.1 j x y, t3.2.2.2.1 j x, B5, B4 j x y]
  have V7 : ∀ j, j < gN σ1 3 → gB σ7 13 j = gB σ4 13 j := fun j hj => by rw [o6 j (by rw [t7]; exact hj), t3.2.2.2.1 13 (by decide), B5]
  have S7 : ∀ j, j < t + lf → gB σ7 12 j = gB σ4 12 j := fun j hj => by rw [o5 j (Nat.lt_of_lt_of_le hj (Nat.le_add_right _ _)), t5 j hj]
  have x7 : xA σ7 7 (nI g) = xA σ 7 (nI g) := by
    show gA σ7 7 _ = gA σ 7 _
    rw [A7 7, aO 7 (by decide) (by decide)]
  have I7 : ∀ j, ¬ (40 ≤ j ∧ j ≤ 43) → gI σ7 j = gI σ j := fun j w => by rw [o3.1 j w, t3.1 j (by omega), I5 j (by omega)]
  refine ⟨σ7, ?_, o2, ⟨fun j w => I7 j (by omega), fun j _ => by rw [o3.2.1, t3.2.1, J5], fun j w => by rw [A7, aO j (by omega) (by omega)], fun j w => B7 j (by omega) (by omega), fun k x y => by rw [o3.2.2.2.2 k x y, t3.2.2.2.2 k x, N5, r2.2.2.2.2 k y, fN]⟩, ⟨by omega, by omega⟩, I7, (A7 40).trans a40, (A7 41).trans a41, fun j x y => (A7 j).trans (aO j x y), B7 14 (by decide) (by decide), ⟨o4, fun w => ?_, fun j hj => (S7 j (by omega)).trans (S1 j hj), fun y hy => (S7 _ (by omega)).trans (S2 y hy)⟩, fun j hj => (V7 j (by omega)).trans (V1 j hj), fun y hy => (V7 _ (by omega)).trans (V2 y hy), fun y hy => (V7 _ (by omega)).trans (V3 y hy)⟩
  · rw [head, t1]
    unfold f_X3_enterCall_b246 f_X3_enterCall_b251 f_X3_workOn
    rw [o1, bd_of]
    unfold gle
    rw [if_pos o7, if_pos o8, gdn hg (by omega), x7, bd_of]
    show gq (gN σ7 1) (gN σ7 1) (gq (gN σ7 3) (gN σ7 3) _) = _
    unfold gq
    rw [if_pos rfl, if_pos rfl]
  · rw [o5 (t + lf) (by rw [if_neg w]; omega)]
    exact t4 w
