theorem pre_f0 (z0 : Nat) (z : Nat → Nat) : ∀ l, pre (fun p => if p = 0 then z0 else z (p - 1)) (l + 1) = z0 + pre z l
  | 0 => Nat.zero_add _
  | l + 1 => by
    show pre (fun p => if p = 0 then z0 else z (p - 1)) (l + 1) + z l = z0 + (pre z l + z l)
    rw [pre_f0 z0 z l]
    omega
/-- what an alternative of the reference says of one of the class -/
def AlH (τp μm : S5) (V : Nat) (g a : Int32) (j x : Nat) : Prop := (xA τp 13 a = 11 ∧ xA μm 8 g = 0 ∧ xA μm 7 g = xA τp 14 a ∧ 0 ≤ xA τp 14 a ∧ xA τp 14 a < gI τp 4 ∧ xA τp 2 (xA τp 14 a) = nI j ∧ (0 < j → xA τp 15 a = nI x ∧ x + j ≤ V)) ∨ (xA τp 13 a = 12 ∧ xA μm 8 g = 1 ∧ xA μm 7 g = xA τp 14 a ∧ 0 ≤ xA τp 14 a ∧ j = 0) ∨ (xA τp 13 a = 13 ∧ xA μm 8 g = 2 ∧ j = 0)
/-- a case is lifted -/
theorem gc_case {τp μm : S5} {F V f : Nat} {n c c0 : Int32} {l S0 sz0 : Nat} {g cc aa : Nat → Int32} {sz jj xx : Nat → Nat} (hn0 : 0 ≤ n) (hn1 : n < 3200) (h2 : xA μm 2 n = 3) (h19 : xA μm 19 n = -1) (hl1 : 1 ≤ l) (hl : l ≤ 8) (h3 : xA μm 3 n = g 0) (hg : ∀ i, i < l → (0 ≤ g i ∧ g i < 3200) ∧ xA μm 5 (g i) = if i + 1 < l then g (i + 1) else -1) (hit : ∀ i, i < l → GoC τp μm F V f (g i) (cc i) (sz i)) (hask : GoC τp μm F V f (xA μm 7 n) c0 sz0) (hsz : sz0 + pre sz l + 1 ≤ S0) (hb7 : (∀ i, i < l → (xA τp 19 (cc i)).toNatClampNeg ≤ 7000) ∧ (xA τp 19 c0).toNatClampNeg ≤ 7000) (hj : ∀ i, i < l → xA μm 10 (g i) = nI (jj i) ∧ jj i ≤ 5 ∧ (0 < jj i → ∀ μ, FrWL μm μ → f_X12_local (nI f) (xA μm 25 (g i)) μ = some (nI (xx i), μ))) (h13 : xA τp 13 c = 6) (h16 : xA τp 16 c = c0) (hc00 : 0 ≤ c0) (h17 : xA τp 17 c0 = aa 0) (hc10 : ¬ xA τp 13 c0 = 10) (haa : ∀ i, i < l → (0 ≤ aa i ∧ AlH τp μm V (g i) (aa i) (jj i) (xx i) ∧ xA τp 16 (aa i) = cc i ∧ 0 ≤ cc i ∧ xA τp 17 (cc i) = -1 ∧ xA τp 17 (aa i) = if i + 1 < l then aa (i + 1) else -1) ∧ xA τp 18 (aa i) = xA τp 18 (cc i) ∧ xA τp 19 (aa i) = xA τp 19 (cc i) ∧ (V ≤ 40 → xB τp 2 (aa i) = xB τp 2 (cc i) &&& (bt (jj i) (xx i) ^^^ (-1)))) (hM : MEQ τp c 0 (l + 1) (fun p => if p = 0 then c0 else aa (p - 1))) (hc0 : 0 ≤ c) (hc6 : c < 6200) : GoC τp μm F V f n c S0 := by
  have hu : u1F (xA τp 13 c) = 1 := by rw [h13]; rfl
  obtain ⟨C, hC⟩ : ∃ C : Nat → Int32, C = (fun p => if p = 0 then c0 else cc (p - 1)) := ⟨_, rfl⟩
  have hC0 : C 0 = c0 := by rw [hC]; rfl
  have hCs : ∀ i, C (i + 1) = cc i := fun i => by rw [hC]; rfl
  obtain ⟨Z, hZ⟩ : ∃ Z : Nat → Nat, Z = (fun p => if p = 0 then sz0 else sz (p - 1)) := ⟨_, rfl⟩
  have hit' : ∀ i, i < l + 1 → GoC τp μm F V f (if i = 0 then xA μm 7 n else g (i - 1)) (C i) (Z i) := by
    intro i hi
    rw [hC, hZ]
    by_cases hi0 : i = 0
    · subst hi0; exact hask
    · have e := hit (i - 1) (by omega)
      show GoC τp μm F V f (if i = 0 then xA μm 7 n else g (i - 1)) (if i = 0 then c0 else cc (i - 1)) (if i = 0 then sz0 else sz (i - 1))
      rw [if_neg hi0, if_neg hi0, if_neg hi0]; exact e
  have h1 : ∀ i, i < l + 1 → 1 ≤ (xA τp 19 (C i)).toNatClampNeg := fun i hi => (hit' i hi).1
  have hcgA : ∀ i, i < l + 1 → xA τp 18 ((fun p => if p = 0 then c0 else aa (p - 1)) i) = xA τp 18 (C i) ∧ xA τp 19 ((fun p => if p = 0 then c0 else aa (p - 1)) i) = xA τp 19 (C i) := by
    intro i hi
    rw [hC]
    show xA τp 18 (if i = 0 then c0 else aa (i - 1)) = xA τp 18 (if i = 0 then c0 else cc (i - 1)) ∧ xA τp 19 (if i = 0 then c0 else aa (i - 1)) = xA τp 19 (if i = 0 then c0 else cc (i - 1))
    by_cases hi0 : i = 0
    · rw [if_pos hi0, if_pos hi0]; exact ⟨rfl, rfl⟩
    · rw [if_neg hi0, if_neg hi0]; exact ⟨(haa (i - 1) (by omega)).2.1, (haa (i - 1) (by omega)).2.2.1⟩
  have hsPb : ∀ i, i ≤ l + 1 → sP τp C i ≤ 7000 * i := by
    intro i
    induction i with
    | zero => intro _; exact Nat.le_refl _
    | succ i ih =>
      intro hi
      have a := ih (by omega)
      have b : (xA τp 19 (C i)).toNatClampNeg ≤ 7000 := by
        by_cases hi0 : i = 0
        · rw [hi0, hC0]; exact hb7.2
        · rw [show i = i - 1 + 1 by omega, hCs]; exact hb7.1 (i - 1) (by omega)
      rw [sP_s]
      omega
  have hsPl := hsPb (l + 1) (Nat.le_refl _)
  have hPc : (xA τp 19 c).toNatClampNeg = sP τp C (l + 1) + 1 := by
    rw [hM.2.1, hu, mQ_cg (dd := C) (l + 1) (fun i hi => (hcgA i hi).2), mQ_sP (l + 1) h1, nI_add1, nI_clamp (by omega)]
  have epre : pre Z (l + 1) = sz0 + pre sz l := by
    rw [hZ]
    exact pre_f0 sz0 sz l
  refine gc_gen (kind := 3) (value := nI l) (l := l + 1) (g := fun i => if i = 0 then xA μm 7 n else g (i - 1)) (cc := C) (sz := Z) (r0 := g 0) (st := nI) (rr := fun i => if i = 0 then g 0 else if i - 1 < l then g (i - 1) else -1) hn0 hn1 h19 (by omega) hit' (by rw [epre]; exact hsz) (fun μ v hv hf => by rw [ba_row hv hn0 hn1 (by rw [hf.x 2 _ (by omega), h2]; decide), hf.x 3 _ (by omega), h3]) rfl rfl (fun v μ i hv hi hf ha => ?_) (fun v μ hv hf ha => ?_) (fun m ct hd μ hw hm hct hhd hh hk => ?_) hPc
  · by_cases hi0 : i = 0
    · subst hi0
      have ha' : At μ v n 0 (g 0) := ha
      have hnx := nx_case0 hv hn0 hn1 ha' (by rw [hf.x 2 _ (by omega)]; exact h2)
      rw [hf.x 7 _ (by omega)] at hnx
      refine ⟨_, hnx, ?_, Or.inl ⟨_, rfl⟩⟩
      show At _ v n (nI 1) (if 0 < l then g 0 else -1)
      rw [if_pos (by omega)]
      refine ⟨?_, ?_, ?_⟩
      · rw [xA_pA, if_neg (fun w => absurd w.1 (by decide))]; exact ha'.1
      · rw [xA_self]; rfl
      · rw [xA_pA, if_neg (fun w => absurd w.1 (by decide))]; exact ha'.2.2
    · obtain ⟨e, rfl⟩ : ∃ e, i = e + 1 := ⟨i - 1, by omega⟩
      obtain ⟨⟨g0, g1⟩, g2⟩ := hg e (by omega)
      have ha' : At μ v n (nI (e + 1)) (g e) := by
        have ha2 : At μ v n (nI (e + 1)) (if e < l then g e else -1) := ha
        rw [if_pos (by omega)] at ha2
        exact ha2
      have hnx := nx_case hv hn0 hn1 ha' (by rw [hf.x 2 _ (by omega)]; exact h2) (fun w => by have := nI_inj (a := e + 1) (b := 0) (by omega) (by omega) w; omega) g1
      rw [if_neg (by grind), hf.x 5 _ (by omega), g2] at hnx
      refine ⟨_, hnx, ?_, Or.inr ⟨_, _, rfl⟩⟩
      show At _ v n (nI (e + 1 + 1)) (if e + 1 < l then g (e + 1) else -1)
      refine ⟨?_, ?_, ?_⟩
      · rw [xA_pA, if_neg (fun w => absurd w.1 (by decide)), xA_pA, if_neg (fun w => absurd w.1 (by decide))]; exact ha'.1
      · rw [xA_pA, if_neg (fun w => absurd w.1 (by decide)), xA_self, nI_add1]
      · rw [xA_self]
  · have ha' : At μ v n (nI (l + 1)) (-1) := by
      have ha2 : At μ v n (nI (l + 1)) (if l < l then g l else -1) := ha
      rw [if_neg (by omega)] at ha2
      exact ha2
    have hnx := nx_case hv hn0 hn1 ha' (by rw [hf.x 2 _ (by omega)]; exact h2) (fun w => by have := nI_inj (a := l + 1) (b := 0) (by omega) (by omega) w; omega) (by decide)
    rw [if_pos (by decide)] at hnx
    exact ⟨-1, _, by decide, hnx, Or.inl ⟨_, rfl⟩⟩
  · have hrc : f_X12_rowCount n μ = some (nI l, μ) := rc_go (g := g) hn0 hn1 (by omega) (by rw [if_pos (by omega), hw.1.x 3 _ (by omega)]; exact h3) (fun i hi => ⟨(hg i hi).1, by rw [hw.1.x 5 _ (by omega)]; exact (hg i hi).2⟩)
    have hge := sP_ge (τp := τp) (cc := C) (l := l + 1) h1 (l + 1) (Nat.le_refl _)
    have hppM : ∀ k, k < l + 1 → m + sP τp C (k + 1) - 1 < m + sP τp C (l + 1) := by
      intro k hk'
      have y1 := sP_mono (τp := τp) (cc := C) (i := k + 1) (l := l + 1) (by omega)
      have y2 := h1 k hk'
      have y3 := sP_s τp C k
      omega
    generalize hM' : m + sP τp C (l + 1) = M at hw hm hppM
    generalize hct' : ct + sP τp C (l + 1) - (l + 1) = ct0 at hw
    have hct0 : ct + sP τp C (l + 1) = ct0 + (l + 1) := by omega
    obtain ⟨μa, a1, a2⟩ := li_go (n := l + 1) (hd := hd) 3 (nI l) hw.2.1 hw.2.2.1 hw.2.2.2 hm (by omega) hhd hh (fun k hk' => ⟨_, hppM k hk', (hk k hk').1⟩)
    have fa : FrWL μm μa := hw.1.tr a2.1.wl
    have hch : ∀ k, k < l + 1 → xA μ 37 (xA μ 48 (nI (hd + k))) = xA τp 18 (C k) ∧ (V ≤ 40 → xB μa 5 (nI (m + sP τp C (k + 1) - 1)) = xB τp 2 (C k)) := by
      intro k hkl
      obtain ⟨z1, z2⟩ := hk k hkl
      rw [z1]
      exact ⟨z2.un.2.1, fun hV => (a2.2.2.1 _ (hppM k hkl)).2.2.2.2.2.2.trans (z2.un.2.2.2.1 hV)⟩
    have e39 : ∀ k, k < l + 1 → xA μa 39 (nI (ct0 + k)) = nI (m + sP τp C (k + 1) - 1) := fun k hk' => (a2.2.2.2.2.2.2.2.1 k hk').trans (hk k hk').1
    have e33 : xA μa 33 (nI M) = nI ct0 := a2.2.2.2.2.2.2.1.2.2.1
    have hx := a2.2.2.2.2.2.2.1
    obtain ⟨μ5, d1, d2⟩ := cs_L178 (f := f) (xx := xx) (pp := fun k => m + sP τp C (k + 1) - 1) hm (by omega) hl fa e33 (fun k hk' => ⟨hppM k hk', e39 k hk'⟩) hg hj l 0 FU (pB μa 5 (nI M) (xB μa 5 (nI (m + sP τp C (0 + 1) - 1)))) (by omega) (by show l < 1099511627776; omega) ⟨⟨(FrWL.rf μa).B, rfl, rfl, rfl⟩, fun _ _ _ => rfl, fun _ _ => ⟨rfl, rfl, rfl, rfl, rfl⟩, fun i hi => absurd hi (by omega), fun x hx => by rw [xB_pB, if_neg (fun w => tn_neL (by omega) (by omega) (by omega) w.2)], by rw [xB_pB, if_pos ⟨rfl, rfl⟩]; rfl⟩
    obtain ⟨⟨i1, i1a, i1b, i1c⟩, i2, i3, i4, i5, i6⟩ := d2
    refine ⟨μa, μ5, ?_, a2, ?_, fun hkids => ?_⟩
    · unfold f_X12_closePart f_X12_child
      have hp0 := hppM 0 (by omega)
      rw [gd3200 hn0 hn1, hw.1.x 2 _ (by omega), h2, if_neg (by decide), if_neg (by decide), if_neg (by decide), if_pos rfl, hrc, bd_of, nI_add1, a1, bd_of, gdn hm (by omega), e33, Int32.add_zero, gdn (by omega) (by omega), show nI ct0 = nI (ct0 + 0) from rfl, e39 0 (by omega), bd_of, gdn (by omega) (by omega), gdn hm (by omega), gd3200 hn0 hn1, fa.x 3 _ (by omega), h3]
      have d1' : f_X12_closePart_L178 FU (nI f) (nI M) (nI 0) (if 0 < l then g 0 else -1) (pB μa 5 (nI M) (xB μa 5 (nI (m + sP τp C (0 + 1) - 1)))) = some ((), μ5) := d1
      rw [if_pos (by omega)] at d1'
      exact d1'
    · exact ⟨⟨i1, i1a, i1b, i1c⟩, fun x hx => ⟨i2 31 _ (by omega), i2 32 _ (by omega), i2 33 _ (by omega), i2 34 _ (by omega), i2 35 _ (by omega), i2 37 _ (by omega), i5 x hx⟩, fun y hy => i3 y (by omega), fun gg y hgg => i2 gg y (by omega), ⟨i2 31 _ (by omega), i2 32 _ (by omega), i2 33 _ (by omega), i2 34 _ (by omega), i2 37 _ (by omega)⟩⟩
    · have hC' : (fun i => if i = 0 then c0 else cc (i - 1)) = C := hC.symm
      refine LT.fold ⟨⟨by omega, by omega, by omega, hc0, hc6⟩, ?_, by rw [hPc]; omega, fun hV40 => ?_, Or.inr (Or.inr (Or.inr (Or.inr (Or.inr ⟨h13, (i2 31 _ (by omega)).trans hx.1, l, ct0, aa, cc, c0, hl1, hl, (i2 32 _ (by omega)).trans hx.2.1, (i2 33 _ (by omega)).trans e33, by omega, h16, hc00, h17, fun i hi => ?_, by rw [hC']; exact hkids⟩))))⟩
      · rw [i2 37 _ (by omega), a2.2.2.2.2.2.2.2.2.1, hL_mH (cc := C) (l + 1) (fun i hi => (hch i hi).1), hM.1, hu, mH_cg (dd := C) (l + 1) (fun i hi => (hcgA i hi).1)]
      · rw [i6, uC_mU (τp := τp) (c0 := c0) (aa := aa) (cc := cc) (by rw [← hC0]; exact (hch 0 (by omega)).2 hV40) (fun i hi => ⟨by rw [← hCs i]; exact (hch (i + 1) (by omega)).2 hV40, (haa i hi).2.2.2 hV40⟩) l (Nat.le_refl _), hM.2.2]
        unfold mB
        rw [if_neg (by rw [h13]; decide), mS_0 (l + 1) (fun i hi => ?_)]
        · exact (and_all _).symm
        · show ¬ xA τp 13 (if i = 0 then c0 else aa (i - 1)) = 10
          by_cases hi0 : i = 0
          · rw [if_pos hi0]; exact hc10
          · rw [if_neg hi0]
            rcases (haa (i - 1) (by omega)).1.2.1 with a | a | a
            · rw [a.1]; decide
            · rw [a.1]; decide
            · rw [a.1]; decide
      · obtain ⟨b1, b2, b3, b4, b5, b6⟩ := (haa i hi).1
        obtain ⟨k1, k2, k3, k4⟩ := i4 i hi
        refine ⟨b1, ?_, b3, b4, b5, b6⟩
        rcases b2 with ⟨p1, p2, p3, p4, p5, p6, p7⟩ | ⟨p1, p2, p3, p4, p5⟩ | ⟨p1, p2, p3⟩
        · refine Or.inl ⟨p1, k1.trans p2, k2.trans p3, p4, p5, jj i, xx i, (hj i hi).2.1, p6, k3, fun hp => ⟨(p7 hp).1, ?_, (p7 hp).2⟩, fun hz => ?_⟩
          · rw [k4, if_neg (by omega)]
          · rw [k4, if_pos hz]
        · exact Or.inr (Or.inl ⟨p1, k1.trans p2, k2.trans p3, p4, by rw [k3, p5]; rfl, by rw [k4, if_pos p5]⟩)
        · exact Or.inr (Or.inr ⟨p1, k1.trans p2, by rw [k3, p3]; rfl, by rw [k4, if_pos p3]⟩)
