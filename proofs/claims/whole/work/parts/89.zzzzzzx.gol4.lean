theorem parts_c {τp : S5} {c : Int32} {l : Nat} {cc : Nat → Int32} (h1 : ∀ i, i < l → 1 ≤ (xA τp 19 (cc i)).toNatClampNeg) (hb : ∀ i, i < l → (xA τp 19 (cc i)).toNatClampNeg ≤ 7000) (hl : l ≤ 9) (hM : MEQ τp c 0 l cc) (hu : u1F (xA τp 13 c) = 1) : (xA τp 19 c).toNatClampNeg = sP τp cc l + 1 := by
  have : ∀ i, i ≤ l → sP τp cc i ≤ 7000 * i := by
    intro i
    induction i with
    | zero => intro _; exact Nat.le_refl _
    | succ i ih =>
      intro hi
      have a := ih (by omega)
      have b := hb i (by omega)
      rw [sP_s]
      omega
  have := this l (Nat.le_refl _)
  rw [hM.2.1, hu, mQ_sP l h1, nI_add1, nI_clamp (by omega)]
/-- an application is lifted -/
theorem gc_app {τp μm : S5} {F V f : Nat} {n c : Int32} {l S0 : Nat} {g cc : Nat → Int32} {sz : Nat → Nat} (hn0 : 0 ≤ n) (hn1 : n < 3200) (h2 : xA μm 2 n = 6) (h19 : xA μm 19 n = -1) (hl2 : 2 ≤ l) (hl : l ≤ 9) (h3 : xA μm 3 n = g 0) (hg : ∀ i, i < l → (0 ≤ g i ∧ g i < 3200) ∧ xA μm 5 (g i) = if i + 1 < l then g (i + 1) else -1) (hit : ∀ i, i < l → GoC τp μm F V f (g i) (cc i) (sz i)) (hsz : pre sz l + 1 ≤ S0) (hb7 : ∀ i, i < l → (xA τp 19 (cc i)).toNatClampNeg ≤ 7000) (hM : MEQ τp c 0 l cc) (h13 : xA τp 13 c = 8) (h15 : xA τp 15 c = nI (l - 1)) (hch : Chn τp c l cc) (h10 : ∀ i, i < l → ¬ xA τp 13 (cc i) = 10) (c0 : 0 ≤ c) (c6 : c < 6200) : GoC τp μm F V f n c S0 := by
  have h1 : ∀ i, i < l → 1 ≤ (xA τp 19 (cc i)).toNatClampNeg := fun i hi => (hit i hi).1
  have hu : u1F (xA τp 13 c) = 1 := by rw [h13]; rfl
  refine gc_row (kind := 6) (value := 0) (g := g) (cc := cc) (sz := sz) (r0 := g 0) (st := fun i => nI i) (rr := fun i => if i < l then g i else -1) hn0 hn1 h19 hl hit hsz (fun μ v hv hf => by rw [ba_row hv hn0 hn1 (by rw [hf.x 2 _ (by omega), h2]; decide), hf.x 3 _ (by omega), h3]) rfl (if_pos (by omega)) (fun v μ i hv hi hf ha => ?_) (fun v μ hv hf ha => ?_) (fun m ct hd μ hw hm hct hhd hh hpp => ?_) hM hu (by rw [h13]; decide) h10 (by decide) (fun μ T q p e1 e2 hk => Or.inr (Or.inl ⟨h13, e1, l, cc, hl2, hl, h15, hch, hk⟩)) (fun h => by have := parts_c h1 hb7 hl hM hu; omega) c0 c6 (parts_c h1 hb7 hl hM hu)
  · obtain ⟨⟨g0, g1⟩, g2⟩ := hg i hi
    have ha' : At μ v n (nI i) (g i) := by
      have : (if i < l then g i else -1) = g i := if_pos hi
      rw [← this]; exact ha
    refine ⟨_, nx_row hv hn0 hn1 ha' (Or.inl (by rw [hf.x 2 _ (by omega)]; exact h2)) g1, ?_, ?_⟩
    · rw [if_neg (fun w => by grind)]
      refine ⟨?_, ?_, ?_⟩
      · rw [xA_pA, if_neg (fun w => absurd w.1 (by decide)), xA_pA, if_neg (fun w => absurd w.1 (by decide))]; exact ha'.1
      · rw [xA_pA, if_neg (fun w => absurd w.1 (by decide)), xA_self, nI_add1]
      · rw [xA_self, hf.x 5 _ (by omega), g2]
    · rw [if_neg (fun w => by grind)]
      exact Or.inr ⟨_, _, rfl⟩
  · have ha' : At μ v n (nI l) (-1) := by
      have : (if l < l then g l else -1) = -1 := if_neg (by omega)
      rw [← this]; exact ha
    refine ⟨-1, _, by decide, nx_row hv hn0 hn1 ha' (Or.inl (by rw [hf.x 2 _ (by omega)]; exact h2)) (by decide), ?_⟩
    rw [if_pos (by decide)]
    exact Or.inl ⟨_, rfl⟩
  · have hrc : f_X12_rowCount n μ = some (nI l, μ) := rc_go (g := g) hn0 hn1 hl (by rw [if_pos (by omega), hw.1.x 3 _ (by omega)]; exact h3) (fun i hi => ⟨(hg i hi).1, by rw [hw.1.x 5 _ (by omega)]; exact (hg i hi).2⟩)
    obtain ⟨μ5, a1, a2⟩ := li_go 6 0 hw.2.1 hw.2.2.1 hw.2.2.2 hm hct hhd hh hpp
    refine ⟨μ5, ?_, a2⟩
    unfold f_X12_closePart
    rw [gd3200 hn0 hn1, hw.1.x 2 _ (by omega), h2, if_neg (by decide), if_neg (by decide), if_neg (by decide), if_neg (by decide), if_neg (by decide), if_neg (by decide), if_pos rfl, hrc, bd_of, a1, bd_of]
/-- a constructor with fields is lifted -/
theorem gc_cons {τp μm : S5} {F V f : Nat} {n c : Int32} {l S0 : Nat} {g cc : Nat → Int32} {sz : Nat → Nat} (hn0 : 0 ≤ n) (hn1 : n < 3200) (h2 : xA μm 2 n = 7) (h19 : xA μm 19 n = -1) (hl2 : 1 ≤ l) (hl : l ≤ 4) (h3 : xA μm 3 n = g 0) (hg : ∀ i, i < l → (0 ≤ g i ∧ g i < 3200) ∧ xA μm 5 (g i) = if i + 1 < l then g (i + 1) else -1) (hit : ∀ i, i < l → GoC τp μm F V f (g i) (cc i) (sz i)) (hsz : pre sz l + 1 ≤ S0) (hb7 : ∀ i, i < l → (xA τp 19 (cc i)).toNatClampNeg ≤ 7000) (hM : MEQ τp c 0 l cc) (h13 : xA τp 13 c = 9) (h14 : xA τp 14 c = xA μm 7 n) (hv0 : 0 ≤ xA τp 14 c) (hv1 : xA τp 14 c < gI τp 4) (hvl : xA τp 2 (xA τp 14 c) = nI l) (hch : Chn τp c l cc) (h10 : ∀ i, i < l → ¬ xA τp 13 (cc i) = 10) (c0 : 0 ≤ c) (c6 : c < 6200) : GoC τp μm F V f n c S0 := by
  have h1 : ∀ i, i < l → 1 ≤ (xA τp 19 (cc i)).toNatClampNeg := fun i hi => (hit i hi).1
  have hu : u1F (xA τp 13 c) = 1 := by rw [h13]; rfl
  refine gc_row (kind := 7) (value := xA μm 7 n) (g := g) (cc := cc) (sz := sz) (r0 := g 0) (st := fun i => nI i) (rr := fun i => if i < l then g i else -1) hn0 hn1 h19 (by omega) hit hsz (fun μ v hv hf => by rw [ba_row hv hn0 hn1 (by rw [hf.x 2 _ (by omega), h2]; decide), hf.x 3 _ (by omega), h3]) rfl (if_pos (by omega)) (fun v μ i hv hi hf ha => ?_) (fun v μ hv hf ha => ?_) (fun m ct hd μ hw hm hct hhd hh hpp => ?_) hM hu (by rw [h13]; decide) h10 (by decide) (fun μ T q p e1 e2 hk => Or.inr (Or.inr ⟨h13, e1, by rw [e2, h14], hv0, hv1, l, cc, hl2, hl, hvl, hch, hk⟩)) (fun h => by have := parts_c h1 hb7 (by omega) hM hu; omega) c0 c6 (parts_c h1 hb7 (by omega) hM hu)
  · obtain ⟨⟨g0, g1⟩, g2⟩ := hg i hi
    have ha' : At μ v n (nI i) (g i) := by
      have : (if i < l then g i else -1) = g i := if_pos hi
      rw [← this]; exact ha
    refine ⟨_, nx_row hv hn0 hn1 ha' (Or.inr (by rw [hf.x 2 _ (by omega)]; exact h2)) g1, ?_, ?_⟩
    · rw [if_neg (fun w => by grind)]
      refine ⟨?_, ?_, ?_⟩
      · rw [xA_pA, if_neg (fun w => absurd w.1 (by decide)), xA_pA, if_neg (fun w => absurd w.1 (by decide))]; exact ha'.1
      · rw [xA_pA, if_neg (fun w => absurd w.1 (by decide)), xA_self, nI_add1]
      · rw [xA_self, hf.x 5 _ (by omega), g2]
    · rw [if_neg (fun w => by grind)]
      exact Or.inr ⟨_, _, rfl⟩
  · have ha' : At μ v n (nI l) (-1) := by
      have : (if l < l then g l else -1) = -1 := if_neg (by omega)
      rw [← this]; exact ha
    refine ⟨-1, _, by decide, nx_row hv hn0 hn1 ha' (Or.inr (by rw [hf.x 2 _ (by omega)]; exact h2)) (by decide), ?_⟩
    rw [if_pos (by decide)]
    exact Or.inl ⟨_, rfl⟩
  · have hrc : f_X12_rowCount n μ = some (nI l, μ) := rc_go (g := g) hn0 hn1 (by omega) (by rw [if_pos (by omega), hw.1.x 3 _ (by omega)]; exact h3) (fun i hi => ⟨(hg i hi).1, by rw [hw.1.x 5 _ (by omega)]; exact (hg i hi).2⟩)
    obtain ⟨μ5, a1, a2⟩ := li_go 7 (xA μm 7 n) hw.2.1 hw.2.2.1 hw.2.2.2 hm hct hhd hh hpp
    refine ⟨μ5, ?_, a2⟩
    unfold f_X12_closePart
    rw [gd3200 hn0 hn1, hw.1.x 2 _ (by omega), h2, if_neg (by decide), if_neg (by decide), if_neg (by decide), if_neg (by decide), if_neg (by decide), if_neg (by decide), if_neg (by decide), if_pos rfl, gd3200 hn0 hn1, hrc, bd_of, hw.1.x 7 _ (by omega), a1, bd_of]
/-- a sign is lifted -/
theorem gc_sign {τp μm : S5} {F V f : Nat} {n c : Int32} {S0 : Nat} {cc : Nat → Int32} {sz : Nat → Nat} (hn0 : 0 ≤ n) (hn1 : n < 3200) (h2 : xA μm 2 n = 5) (h19 : xA μm 19 n = -1) (ha0 : GoC τp μm F V f (xA μm 3 n) (cc 0) (sz 0)) (ha1 : GoC τp μm F V f (xA μm 4 n) (cc 1) (sz 1)) (hsz : pre sz 2 + 1 ≤ S0) (hb7 : ∀ i, i < 2 → (xA τp 19 (cc i)).toNatClampNeg ≤ 7000) (hM : MEQ τp c 0 2 cc) (h13 : xA τp 13 c = 5) (h14 : xA μm 7 n = kMd (xA τp 14 c)) (hrk : 0 < rkK (xA τp 14 c)) (hch : Chn τp c 2 cc) (h10 : ∀ i, i < 2 → ¬ xA τp 13 (cc i) = 10) (c0 : 0 ≤ c) (c6 : c < 6200) : GoC τp μm F V f n c S0 := by
  have hit : ∀ i, i < 2 → GoC τp μm F V f (if i = 0 then xA μm 3 n else xA μm 4 n) (cc i) (sz i) := fun i hi => by
    match i, hi with
    | 0, _ => exact ha0
    | 1, _ => exact ha1
  have h1 : ∀ i, i < 2 → 1 ≤ (xA τp 19 (cc i)).toNatClampNeg := fun i hi => (hit i hi).1
  have hu : u1F (xA τp 13 c) = 1 := by rw [h13]; rfl
  have hkb : ¬ xA μm 2 n = 0 ∧ ¬ xA μm 2 n = 3 ∧ ¬ xA μm 2 n = 6 ∧ ¬ xA μm 2 n = 7 := by rw [h2]; decide
  refine gc_row (kind := 5) (value := xA μm 7 n) (g := fun i => if i = 0 then xA μm 3 n else xA μm 4 n) (cc := cc) (sz := sz) (r0 := -1) (st := fun i => nI i) (rr := fun _ => -1) hn0 hn1 h19 (by omega) hit hsz (fun μ v hv hf => ba_no hv hn0 hn1 (by rw [hf.x 2 _ (by omega)]; exact hkb)) rfl rfl (fun v μ i hv hi hf ha => ?_) (fun v μ hv hf ha => ?_) (fun m ct hd μ hw hm hct hhd hh hpp => ?_) hM hu (by rw [h13]; decide) h10 (by decide) (fun μ T q p e1 e2 hk => Or.inl ⟨h13, e1, by rw [e2, h14], hrk, cc, hch, hk⟩) (fun h => by have := parts_c h1 hb7 (by omega) hM hu; omega) c0 c6 (parts_c h1 hb7 (by omega) hM hu)
  · refine ⟨_, nx_no (x := if i = 0 then xA μm 3 n else xA μm 4 n) hv hn0 hn1 ha (by rw [hf.x 2 _ (by omega)]; exact hkb) ?_, ?_, Or.inl ⟨_, rfl⟩⟩
    · rw [chA_sign hn0 hn1 (by rw [hf.x 2 _ (by omega)]; exact h2), hf.x 3 _ (by omega), hf.x 4 _ (by omega)]
      match i, hi with
      | 0, _ => rw [if_pos (show nI 0 = 0 from rfl), if_pos rfl]
      | 1, _ => rw [if_neg (show ¬ nI 1 = 0 from by decide), if_pos (show nI 1 = 1 from rfl), if_neg (by omega)]
    · refine ⟨?_, ?_, ?_⟩
      · rw [xA_pA, if_neg (fun w => absurd w.1 (by decide))]; exact ha.1
      · rw [xA_self, nI_add1]
      · rw [xA_pA, if_neg (fun w => absurd w.1 (by decide))]; exact ha.2.2
  · refine ⟨-1, _, by decide, nx_no (x := -1) hv hn0 hn1 ha (by rw [hf.x 2 _ (by omega)]; exact hkb) ?_, Or.inl ⟨_, rfl⟩⟩
    rw [chA_sign hn0 hn1 (by rw [hf.x 2 _ (by omega)]; exact h2), if_neg (show ¬ nI 2 = 0 from by decide), if_neg (show ¬ nI 2 = 1 from by decide)]
  · obtain ⟨μ5, a1, a2⟩ := li_go 5 (xA μm 7 n) hw.2.1 hw.2.2.1 hw.2.2.2 hm hct hhd hh hpp
    refine ⟨μ5, ?_, a2⟩
    unfold f_X12_closePart
    rw [gd3200 hn0 hn1, hw.1.x 2 _ (by omega), h2, if_neg (by decide), if_neg (by decide), if_neg (by decide), if_neg (by decide), if_neg (by decide), if_pos rfl, gd3200 hn0 hn1, hw.1.x 7 _ (by omega), show (2 : Int32) = nI 2 from rfl, a1, bd_of]
/-- a binding, or an alternative, around its part -/
theorem gc_one {τp μm : S5} {F V f : Nat} {n c : Int32} {sz : Nat} (hn0 : 0 ≤ n) (hn1 : n < 3200) (h2 : xA μm 2 n = 1 ∨ xA μm 2 n = 4) (h19 : xA μm 19 n = -1) (h : GoC τp μm F V f (xA μm 3 n) c sz) : GoC τp μm F V f n c (sz + 1) := by
  obtain ⟨h1, hgo⟩ := h
  refine ⟨h1, ?_⟩
  intro v m ct hd μ μ1 q hnx hq hv hm hct hhd
  obtain ⟨q1, q2⟩ := hq
  have hkb : ¬ xA μm 2 n = 0 ∧ ¬ xA μm 2 n = 3 ∧ ¬ xA μm 2 n = 6 ∧ ¬ xA μm 2 n = 7 := by rcases h2 with w | w <;> rw [w] <;> decide
  have hk3 : xA μm 2 n = 1 ∨ xA μm 2 n = 2 ∨ xA μm 2 n = 4 ∨ xA μm 2 n = 12 := by rcases h2 with w | w <;> rw [w] <;> decide
  have w2 := mBa_wl (v := v + 1) (n := n) (r := -1) q1
  have hat := mBa_at μ1 (v + 1) n (-1)
  have hb := ba_no (μ := μ1) (v := v + 1) (by omega) hn0 hn1 (by rw [q1.1.x 2 _ (by omega)]; exact hkb)
  have c1 := nx_no (v := v + 1) (x := xA μm 3 n) (by omega) hn0 hn1 hat (by rw [w2.1.x 2 _ (by omega)]; exact hkb) (by rw [chA_one hn0 hn1 (by rw [w2.1.x 2 _ (by omega)]; exact hk3), if_pos rfl, w2.1.x 3 _ (by omega)])
  have wx : W29 (v + 1) (mBa μ1 (v + 1) n (-1)) (pA (mBa μ1 (v + 1) n (-1)) 29 (nI (v + 1)) (0 + 1)) := Or.inl ⟨_, rfl⟩
  obtain ⟨j1, μ3, a1, a2, a3, a4, a5, a6, a7⟩ := hgo (v + 1) m ct hd _ _ w2 c1 ⟨wx.wl w2, wx.lb⟩ (by omega) hm hct hhd
  have t1 : At μ3 (v + 1) n (0 + 1) (-1) := by
    refine At.st ?_ a7 (by omega)
    refine ⟨?_, ?_, ?_⟩
    · rw [xA_pA, if_neg (fun w => absurd w.1 (by decide))]; exact hat.1
    · rw [xA_self]
    · rw [xA_pA, if_neg (fun w => absurd w.1 (by decide))]; exact hat.2.2
  have c3 := nx_no (v := v + 1) (x := -1) (by omega) hn0 hn1 t1 (by rw [a3.1.x 2 _ (by omega)]; exact hkb) (by rw [chA_one hn0 hn1 (by rw [a3.1.x 2 _ (by omega)]; exact hk3), if_neg (by decide)])
  have wy : W29 (v + 1) μ3 (pA μ3 29 (nI (v + 1)) (0 + 1 + 1)) := Or.inl ⟨_, rfl⟩
  have w4 := wy.wl a3
  have lb4 : LBf μ3 (pA μ3 29 (nI (v + 1)) (0 + 1 + 1)) (m + (xA τp 19 c).toNatClampNeg) (ct + (xA τp 19 c).toNatClampNeg - 1) (hd + 1) := wy.lb
  have hcl : f_X12_closePart (nI f) n (pA μ3 29 (nI (v + 1)) (0 + 1 + 1)) = some ((), pA μ3 29 (nI (v + 1)) (0 + 1 + 1)) := by
    unfold f_X12_closePart
    rw [gd3200 hn0 hn1, w4.1.x 2 _ (by omega)]
    rcases h2 with w | w
    · rw [w, if_neg (by decide), if_pos rfl]
    · rw [w, if_neg (by decide), if_neg (by decide), if_neg (by decide), if_neg (by decide), if_pos rfl]
  have hg := gl_node (f := f) (ji := j1) (by omega) hn0 hn1 hnx (by rw [q1.1.x 19 _ (by omega)]; exact h19) hb a2 c3 (by decide) (by rw [xA_pA, if_neg (fun w => absurd w.1 (by decide))]; exact t1.1) hcl
  refine ⟨j1 + 2, _, by omega, hg, w4, ?_, (lb4.2.2 hd (by omega)).trans a5, a6.st (Nat.le_refl _) (by omega) lb4.2.1 (fun x x1 x2 => lb4.1 x (by omega)), ?_⟩
  · exact ((q2.tr mBa_lb (Nat.le_refl _) (Nat.le_refl _) (Nat.le_refl _)).tr a4 (Nat.le_refl _) (Nat.le_refl _) (Nat.le_refl _)).tr lb4 (by omega) (by omega) (by omega)
  · have k1 : KW (v + 1) μ1 (pA (mBa μ1 (v + 1) n (-1)) 29 (nI (v + 1)) (0 + 1)) := (mBa_kw μ1 (v + 1) n (-1) (by omega)).A (by omega)
    exact (k1.tr (a7.le (by omega))).A (by omega)
