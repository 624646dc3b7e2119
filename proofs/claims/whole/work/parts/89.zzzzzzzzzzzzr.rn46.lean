theorem ew_q (a b : Int32) (σ : S5) : bd (f_X3_endWith a b σ) (fun _ τ' => gq (gN τ' 1) (gN σ 1) <| gq (gN τ' 3) (gN σ 3) <| some ((), τ')) = f_X3_endWith a b σ := by
  unfold f_X3_endWith
  by_cases e : xA σ 40 0 = 0
  · rw [if_pos e, bd_of]
    show gq (gN σ 1) (gN σ 1) (gq (gN σ 3) (gN σ 3) _) = _
    unfold gq
    rw [if_pos rfl, if_pos rfl]
  · rw [if_neg e, bd_of]
    unfold gq
    rw [if_pos rfl, if_pos rfl]
/-- both call: the numbers -/
theorem nr_call {σ μ σ' ν : S5} {g : Nat} (h : NR σ μ) (h40 : gA σ' 40 = upd (gA σ 40) 2 (gA σ 40 2 + 1)) (h41 : gA σ' 41 = upd (gA σ 41) g (gA σ 41 g + 1)) (h42 : gA σ' 42 = gA σ 42) (hI : ∀ j, ¬ (40 ≤ j ∧ j ≤ 43) → gI σ' j = gI σ j) (m37 : gI ν 37 = gI μ 37 - 1) (m38 : gI ν 38 = gI μ 38 + 1) (m36 : gI ν 36 = gI μ 36 + 1) (mI : ∀ j, ¬ (36 ≤ j ∧ j ≤ 38) → ¬ (48 ≤ j ∧ j ≤ 51) → gI ν j = gI μ j) (m57 : gA ν 57 = upd (gA μ 57) g (gA μ 57 g + 1)) (m58 : gA ν 58 = gA μ 58) : NR σ' ν := by
  obtain ⟨⟨r0, r1, r2, r3, r4, r5, r6, r7, r8, r9, q1, q2, q3, q4⟩, a1, a2, a3, a4⟩ := h
  have gx : ∀ x, ¬ x = 2 → gA σ' 40 x = gA σ 40 x := fun x a => by rw [h40, up_n a]
  have g2 : gA σ' 40 2 = gA σ 40 2 + 1 := by rw [h40, up_s]
  refine ⟨⟨?_, ?_, ?_, ?_, ?_, ?_, ?_, ?_, ?_, ?_, ?_, ?_, ?_, ?_⟩, ?_, ?_, ?_, ?_⟩
  · rw [gx 0 (by omega), mI 44 (by omega) (by omega)]; exact r0
  · rw [gx 1 (by omega), mI 45 (by omega) (by omega)]; exact r1
  · rw [g2, m38, r2]
  · rw [gx 3 (by omega), mI 34 (by omega) (by omega)]; exact r3
  · rw [gx 4 (by omega), mI 39 (by omega) (by omega)]; exact r4
  · rw [gx 5 (by omega), mI 40 (by omega) (by omega)]; exact r5
  · rw [gx 6 (by omega), mI 41 (by omega) (by omega)]; exact r6
  · rw [gx 7 (by omega), mI 42 (by omega) (by omega)]; exact r7
  · rw [gx 8 (by omega), mI 43 (by omega) (by omega)]; exact r8
  · rw [gx 9 (by omega), mI 46 (by omega) (by omega)]; exact r9
  · rw [mI 46 (by omega) (by omega)]; exact q1
  · rw [mI 46 (by omega) (by omega)]; exact q2
  · rw [mI 46 (by omega) (by omega), h42, m58]; exact q3
  · intro f hf
    rw [h41, m57]
    by_cases e : f = g
    · subst e
      rw [up_s, up_s, q4 f hf]
    · rw [up_n e, up_n e]
      exact q4 f hf
  · rw [mI 35 (by omega) (by omega), hI 65 (by omega), gx 3 (by omega)]; exact a1
  · rw [m36, hI 64 (by omega), g2, a2, Int32.add_assoc]
  · rw [m37, g2, hI 47 (by omega), ← a3]
    clear r0 r1 r2 r3 r4 r5 r6 r7 r8 r9 q1 q2 q3 q4 a1 a2 a3 a4
    grind
  · rw [hI 46 (by omega), mI 47 (by omega) (by omega)]; exact a4
/-- the other calls a function -/
theorem call_m {μ : S5} {W V b e g i had c p0 nvg pag : Nat} {v2 : Int32} (hM : MM μ W (V + i) b e) (hW : W + 2 < 202000) (hV : V + i ≤ 580000) (he : e + 40 ≤ 193000) (hg : g < 630) (h46 : xA μ 46 (nI g) = nI nvg) (hnv : nvg ≤ 40) (h47 : xA μ 47 (nI g) = nI pag) (hpn : pag ≤ nvg) (hp8 : pag ≤ 8) (hhad : had < pag) (hi8 : i ≤ 8) (hcall : pag ≤ had + i) (h37 : ¬ gI μ 37 = 0) (hv2 : (had = 0 ∧ v2 = -1) ∨ (1 ≤ had ∧ v2 = nI c ∧ gA μ 56 c = nI had)) (h55 : 0 < had → gA μ 55 c = nI p0) (hc : c < 4100) (hp0 : p0 + had ≤ 4100) : ∃ ν, f_X12_call (nI g) v2 (nI i) μ = some ((), pI (pI ν 52 (xA μ 45 (nI g))) 53 0) ∧ MM ν (W + (if had + i - pag = 0 then 0 else 1) + 1) (V + (had + i - pag)) e (e + nvg) ∧ FmM μ ν ∧ (gI ν 37 = gI μ 37 - 1 ∧ gI ν 38 = gI μ 38 + 1 ∧ gI ν 36 = gI μ 36 + 1) ∧ (∀ j, ¬ (36 ≤ j ∧ j ≤ 38) → ¬ (48 ≤ j ∧ j ≤ 51) → gI ν j = gI μ j) ∧ gA ν 57 = upd (gA μ 57) g (gA μ 57 g + 1) ∧ (∀ j, ¬ j = 57 → ¬ (59 ≤ j ∧ j ≤ 61) → gA ν j = gA μ j) ∧ (∀ j, ¬ j = 8 → ¬ j = 9 → gB ν j = gB μ j) ∧ (¬ had + i - pag = 0 → gA ν 59 W = ((7 : Int32) <<< ((16 : Int32) &&& 31)) ||| 0 ∧ gA ν 61 W = nI (had + i - pag)) ∧ (gA ν 59 (W + (if had + i - pag = 0 then 0 else 1)) = ((1 : Int32) <<< ((16 : Int32) &&& 31)) ||| 0 ∧ gA ν 60 (W + (if had + i - pag = 0 then 0 else 1)) = nI b ∧ gA ν 61 (W + (if had + i - pag = 0 then 0 else 1)) = nI e) ∧ (∀ j, j < W → gA ν 59 j = gA μ 59 j ∧ gA ν 60 j = gA μ 60 j ∧ gA ν 61 j = gA μ 61 j) ∧ ((∀ j, j < V → gB ν 8 j = gB μ 8 j) ∧ ∀ y, y < had + i - pag → gB ν 8 (V + y) = gB μ 8 (V + (pag - had) + y)) ∧ (∀ j, j < e → gB ν 9 j = gB μ 9 j) ∧ (∀ y, y < had → gB ν 9 (e + y) = gB μ 7 (p0 + y)) ∧ ∀ y, y < pag - had → gB ν 9 (e + had + y) = gB μ 8 (V + y) := by
  have hbig := FU_big (n := 5000) (by decide)
  obtain ⟨tk, htk⟩ : ∃ z, z = pag - had := ⟨_, rfl⟩
  obtain ⟨lf, hlf⟩ : ∃ z, z = had + i - pag := ⟨_, rfl⟩
  rw [← htk, ← hlf]
  obtain ⟨m1, m2, m3, m4⟩ := id hM
  obtain ⟨μ1, e1⟩ : ∃ z, z = pA (pI (pI (pI μ 37 ((gI μ 37) - 1)) 38 ((gI μ 38) + 1)) 36 ((gI μ 36) + 1)) 57 (nI g) ((xA μ 57 (nI g)) + 1) := ⟨_, rfl⟩
  have hgc : (nI g).toNatClampNeg = g := nI_clamp (by omega)
  have a57 : gA μ1 57 = upd (gA μ 57) g (gA μ 57 g + 1) := by
    rw [e1]
    show upd (gA μ 57) (nI g).toNatClampNeg (gA μ 57 (nI g).toNatClampNeg + 1) = _
    rw [hgc]
  have aO : ∀ j, ¬ j = 57 → gA μ1 j = gA μ j := fun j x => by rw [e1, gA_pA_ne x]; rfl
  have fI : ∀ j, ¬ (36 ≤ j ∧ j ≤ 38) → gI μ1 j = gI μ j := fun j w => by
    rw [e1]
    show gI (pI (pI (pI μ 37 _) 38 _) 36 _) j = _
    rw [gI_pI, if_neg (by omega), gI_pI, if_neg (by omega), gI_pI, if_neg (by omega)]
  have f3 : gI μ1 37 = gI μ 37 - 1 ∧ gI μ1 38 = gI μ 38 + 1 ∧ gI μ1 36 = gI μ 36 + 1 := by
    rw [e1]
    exact ⟨rfl, rfl, rfl⟩
  have fJ : ∀ j, gJ μ1 j = gJ μ j := fun j => by rw [e1]; rfl
  have fB : ∀ j, gB μ1 j = gB μ j := fun j => by rw [e1]; rfl
  have fN : μ1.2.2.2.2 = μ.2.2.2.2 := by rw [e1]; rfl
  have hM1 : MM μ1 W (V + i) b e := ⟨(fI 48 (by omega)).trans m1, (fI 49 (by omega)).trans m2, (fI 50 (by omega)).trans m3, (fI 51 (by omega)).trans m4⟩
  -- the frame for what is left
  have mid : ∃ μ2, f_X12_call_b68 (nI g) v2 (nI i) (nI had) μ1 = f_X12_call_b109 (nI g) v2 (nI had) (nI tk) (nI lf) (nI V) μ2 ∧ MM μ2 (W + (if lf = 0 then 0 else 1)) (V + i) b e ∧ FwM μ1 μ2 ∧ gB μ2 8 = gB μ1 8 ∧ (¬ lf = 0 → gA μ2 59 W = ((7 : Int32) <<< ((16 : Int32) &&& 31)) ||| 0 ∧ gA μ2 61 W = nI lf) ∧ ∀ j, j < W → gA μ2 59 j = gA μ1 59 j ∧ gA μ2 60 j = gA μ1 60 j ∧ gA μ2 61 j = gA μ1 61 j := by
    have x47 : xA μ1 47 (nI g) = nI pag := by
      show gA μ1 47 _ = _
      rw [aO 47 (by decide)]
      exact h47
    have c1 : nI i - (xA μ1 47 (nI g) - nI had) = nI lf := by
      rw [x47, nI_sub (by omega), nI_sub (by omega), show i - (pag - had) = lf by omega]
    have c2 : xA μ1 47 (nI g) - nI had = nI tk := by rw [x47, nI_sub (by omega), htk]
    have c3 : gI μ1 49 - nI i = nI V := by rw [hM1.2.1, nI_sub (by omega), show V + i - i = V by omega]
    by_cases hl : lf = 0
    · refine ⟨μ1, ?_, ?_, ⟨fun _ _ => rfl, fun _ => rfl, fun _ _ => rfl, fun _ _ => rfl, rfl⟩, rfl, fun w => absurd hl w, fun j _ => ⟨rfl, rfl, rfl⟩⟩
      · unfold f_X12_call_b68
        rw [gdn (by omega) (by omega), c1, if_pos (by rw [hl]; decide), c2, c3]
      · rw [if_pos hl]; exact hM1
    · obtain ⟨μ2, w1, w2, w3, w4, ⟨w5, w6, w7⟩, w8⟩ := wait_m hM1 (by omega) 7 0 (nI lf)
      refine ⟨μ2, ?_, ?_, w3, w4, fun _ => ⟨w5, w7⟩, w8⟩
      · unfold f_X12_call_b68
        rw [gdn (by omega) (by omega), c1, if_neg (nle0 (by omega) (by omega)), c2, c3, w1, bd_of]
      · rw [if_neg hl]; exact w2
  obtain ⟨μ2, t1, t2, t3, t4, t5, t6⟩ := mid
  have hu : W + (if lf = 0 then 0 else 1) < 202000 := by
    by_cases hl : lf = 0
    · rw [if_pos hl]; omega
    · rw [if_neg hl]; omega
  obtain ⟨μ3, u1, u2, u3, u4, ⟨u5, u6, u7⟩, u8⟩ := frame_m (f := g) (nvf := nvg) t2 hu (by omega) (by
    show gA μ2 46 _ = _
    rw [t3.2.2.1 46 (by decide), aO 46 (by decide)]
    exact h46)
  have B3 : ∀ j, gB μ3 j = gB μ j := fun j => by
    by_cases h8 : j = 8
    · rw [h8, u4, t4, fB]
    · rw [u3.2.2.2.1 j h8, t3.2.2.2.1 j h8, fB]
  have A3 : ∀ j, ¬ (59 ≤ j ∧ j ≤ 61) → gA μ3 j = gA μ1 j := fun j w => by rw [u3.2.2.1 j w, t3.2.2.1 j w]
  have I3 : ∀ j, ¬ (48 ≤ j ∧ j ≤ 51) → gI μ3 j = gI μ1 j := fun j w => by rw [u3.1 j w, t3.1 j w]
  obtain ⟨μ4, c1, c2, c3, c4⟩ := ml117 (v1 := nI g) (v2 := v2) (v5 := nI tk) (v6 := nI lf) (v7 := nI V) (c := c) (had := had) (b := e) (p0 := p0) (fun w => by
    rcases hv2 with ⟨z, -⟩ | ⟨-, z, -⟩
    · omega
    · exact z) hc hp0 (by omega) (by omega) had 0 FU μ3 (by omega) (by omega) u2.2.2.1 (fun w => by
    rw [A3 55 (by decide), aO 55 (by decide)]
    exact h55 w)
  obtain ⟨μ5, d1, d2, d3, d4⟩ := ml159 (v1 := nI g) (v6 := nI lf) (had := had) (tk := tk) (fr0 := V) (b := e) (by omega) (by omega) (by omega) (by omega) tk 0 FU μ4 (by omega) (by omega) ((c2.1 50).trans u2.2.2.1)
  obtain ⟨μ6, g1, g2, g3, g4⟩ := ml200 (g := g) (tk := tk) (fr0 := V) (lf := lf) (by omega) (by omega) (by omega) (by omega) (by omega) lf 0 FU μ5 (by omega) (by omega)
  have I6 : ∀ j, gI μ6 j = gI μ3 j := fun j => by rw [g2.1, d2.1, c2.1]
  have A6 : ∀ j, gA μ6 j = gA μ3 j := fun j => by rw [g2.2.2.1, d2.2.2.1, c2.2.2.1]
  have B6 : ∀ j, ¬ j = 8 → ¬ j = 9 → gB μ6 j = gB μ j := fun j x y => by rw [g2.2.2.2.1 j x, d2.2.2.2.1 j y, c2.2.2.2.1 j y, B3]
  have B8 : gB μ5 8 = gB μ 8 := by rw [d2.2.2.2.1 8 (by decide), c2.2.2.2.1 8 (by decide), B3]
  have B9 : gB μ6 9 = gB μ5 9 := g2.2.2.2.1 9 (by decide)
  have x45 : xA μ5 45 (nI g) = xA μ 45 (nI g) := by
    show gA μ5 45 _ = gA μ 45 _
    rw [d2.2.2.1, c2.2.2.1, A3 45 (by decide), aO 45 (by decide)]
  have run : f_X12_call (nI g) v2 (nI i) μ = some ((), pI (pI (pI μ6 49 (nI (V + lf))) 52 (xA μ 45 (nI g))) 53 0) := by
    have c1' : f_X12_call_L117 FU (nI g) v2 (nI had) (nI tk) (nI lf) (nI V) 0 μ3 = f_X12_call_L159 FU (nI g) (nI had) (nI tk) (nI lf) (nI V) 0 μ4 := c1
    have d1' : f_X12_call_L159 FU (nI g) (nI had) (nI tk) (nI lf) (nI V) 0 μ4 = f_X12_call_L200 FU (nI g) (nI tk) (nI lf) (nI V) 0 μ5 := d1
    have g1' : f_X12_call_L200 FU (nI g) (nI tk) (nI lf) (nI V) 0 μ5 = some ((), pI (pI (pI μ6 49 (nI (V + lf))) 52 (xA μ5 45 (nI g))) 53 0) := g1
    have tail : f_X12_call_b68 (nI g) v2 (nI i) (nI had) μ1 = some ((), pI (pI (pI μ6 49 (nI (V + lf))) 52 (xA μ 45 (nI g))) 53 0) := by
      rw [t1]
      unfold f_X12_call_b109
      rw [u1, bd_of, c1', d1', g1', x45]
    unfold f_X12_call
    rw [if_neg h37, gdn (by omega) (by omega), gdn (by omega) (by omega)]
    rcases hv2 with ⟨z1, z2⟩ | ⟨z1, z2, z3⟩
    · rw [z2, if_neg (by decide), ← e1, ← z2]
      rw [z1] at tail
      exact tail
    · rw [z2, if_pos (i_le0 (nI_nneg (by omega))), gdn hc (by omega), xA_n (by omega), z3, ← e1, ← z2]
      exact tail
  refine ⟨pI μ6 49 (nI (V + lf)), run, ⟨?_, rfl, ?_, ?_⟩, ⟨fun j w w' => ?_, fun j _ => ?_, fun j w => ?_, fun j w => B6 j (by omega) (by omega), ?_⟩, ⟨?_, ?_, ?_⟩, fun j w w' => ?_, ?_, fun j w w' => ?_, fun j x y => B6 j x y, fun w => ⟨?_, ?_⟩, ⟨?_, ?_, ?_⟩, fun j hj => ?_, ⟨fun j hj => ?_, fun y hy => ?_⟩, fun j hj => ?_, fun y hy => ?_, fun y hy => ?_⟩
  · exact (I6 48).trans u2.1
  · exact (I6 50).trans u2.2.2.1
  · exact (I6 51).trans u2.2.2.2
  · rw [gI_pI, if_neg (by omega), I6, I3 j (by omega), fI j (by omega)]
  · show gJ μ6 j = _
    rw [g2.2.1, d2.2.1, c2.2.1, u3.2.1, t3.2.1, fJ]
  · show gA μ6 j = _
    rw [A6, A3 j (by omega), aO j (by omega)]
  · show μ6.2.2.2.2 = _
    rw [g2.2.2.2.2, d2.2.2.2.2, c2.2.2.2.2, u3.2.2.2.2, t3.2.2.2.2, fN]
  · exact (I6 37).trans ((I3 37 (by decide)).trans f3.1)
  · exact (I6 38).trans ((I3 38 (by decide)).trans f3.2.1)
  · exact (I6 36).trans ((I3 36 (by decide)).trans f3.2.2)
  · rw [gI_pI, if_neg (by omega), I6, I3 j w', fI j w]
  · show gA μ6 57 = _
    rw [A6, A3 57 (by decide)]
    exact a57
  · show gA μ6 j = _
    rw [A6, A3 j w', aO j w]
  · show gA μ6 59 W = _
    rw [A6, (u8 W (by rw [if_neg w]; omega)).1]
    exact (t5 w).1
  · show gA μ6 61 W = _
    rw [A6, (u8 W (by rw [if_neg w]; omega)).2.2]
    exact (t5 w).2
  · show gA μ6 59 _ = _
    rw [A6]; exact u5
  · show gA μ6 60 _ = _
    rw [A6]; exact u6
  · show gA μ6 61 _ = _
    rw [A6]; exact u7
  · show gA μ6 59 j = _ ∧ gA μ6 60 j = _ ∧ gA μ6 61 j = _
    have w8 := u8 j (Nat.lt_of_lt_of_le hj (Nat.le_add_right _ _))
    have w9 := t6 j hj
    rw [A6, A6, A6, w8.1, w8.2.1, w8.2.2, w9.1, w9.2.1, w9.2.2, aO 59 (by decide), aO 60 (by decide), aO 61 (by decide)]
    exact ⟨rfl, rfl, rfl⟩
  · show gB μ6 8 j = _
    rw [g4 j (fun y _ _ => by omega), B8]
  · show gB μ6 8 (V + y) = _
    rw [g3 y (Nat.zero_le _) hy, B8]
  · show gB μ6 9 j = _
    rw [B9, d4 j (fun y _ _ => by omega), c4 j (fun y _ _ => by omega), B3]
  · show gB μ6 9 _ = _
    rw [B9, d4 _ (fun z _ _ => by omega), c3 y (Nat.zero_le _) hy, B3]
  · show gB μ6 9 _ = _
    rw [B9, d3 y (Nat.zero_le _) hy, c2.2.2.2.1 8 (by decide), B3]
