/-- a function has been read by both -/
theorem fn_fin {μ0 σ μ σ1 σ2 μ2 σ6 N σ7 μ9 S M : S5} {k j : Nat} {c n9 : Int32} {cc fs fu fn ft : Nat → Int32} (h : TP μ0 σ μ k cc fs fu fn ft) (hk : k ≤ 29) (hz : gJ σ 0 = gJ μ 0) (hnew : ∀ i, i < k → ¬ xB σ 1 (nI i) = gJ σ 0) (h1 : FN1 σ μ σ2 μ2 k) (e9 : gI σ1 9 = gI σ 9) (eI : ∀ j, ¬ j = 9 → gI σ1 j = gI σ2 j) (eF : FrC σ σ1) (eE : EqE σ2 σ1) (hH : BH2 (-1) 12 0 σ1 μ2 σ6 N (gI μ 9) (gI σ 18) (gI μ 5) (-1) (gI σ 9) j) (hC : Cor (pI σ6 15 (gI σ1 9)) N c σ7 μ9 n9) (SI : ∀ j, j < 16 → ¬ j = 15 → gI S j = gI σ7 j) (S15 : gI S 15 = -1) (S18 : gI σ7 18 < gI S 18) (SA : ∀ j x, ¬ j = 23 → xA S j x = xA σ7 j x) (S23 : ∀ x : Int32, xA S 23 x = if x.toNatClampNeg = (gI σ 9).toNatClampNeg then c else xA σ7 23 x) (SB : ∀ j x, xB S j x = xB σ7 j x) (SE : EqE σ7 S) (MI : ∀ j, 6 < j → ¬ j = 16 → ¬ j = 17 → gI M j = gI μ9 j) (M16 : gI M 16 = 0) (M17 : gI M 17 = 0) (MA : ∀ j x, ¬ j = 3 → xA M j x = xA μ9 j x) (M3 : ∀ x : Int32, xA M 3 x = if x.toNatClampNeg = (gI μ 9).toNatClampNeg then n9 else xA μ9 3 x) (MB : ∀ j x, xB M j x = xB μ9 j x) (ME : EqR μ9 M) (hW : Wd S M) (hp : gI S 18 ≤ 3000) : TP μ0 S M (k + 1) (upN cc k c) (upN fs (k + 1) (gI S 9)) (upN fu (k + 1) (gI S 10)) (upN fn (k + 1) (gI M 9)) (upN ft (k + 1) (gI S 8)) := by
  obtain ⟨hs, hbm, ⟨h15, h14, h16, h17, hs7⟩, ⟨hk30, h5, h6, h13⟩, h12, hT, ⟨⟨p1, p2, p3, p4, p5, p6, p7, p8⟩, hPG, hdist⟩⟩ := h
  obtain ⟨n1, n18, nI', ⟨n5, n6, n9'⟩, n2, nF, ni, nk, ns, ⟨mI, m9, m13, mF⟩, mi, mk, mr, mT⟩ := h1
  obtain ⟨NS, SE6, NE, SC, NM', NP, N12, ⟨g8, g9, g10, g14, g15⟩, ⟨N9, N10, N16, N17, N18, N19⟩, ⟨y1, y2, y3⟩, ⟨nm, ng⟩, ⟨N2, N5, N6, N0, -, -⟩, -, S18', -⟩ := hH
  obtain ⟨s1, s2, ⟨u1, u2, u3, u4, u5⟩, s4, s5, s6, s7, s8, s9, s10, s11, s12, s13, s14, s15⟩ := hC
  have s7' : gI σ7 14 = gI σ6 14 := s7
  have s9' : FrC σ6 σ7 := s9
  have s4' : EqE σ6 σ7 := ((EqE.rf σ6).I (by decide)).tr s4
  have s12' : TR σ7 μ9 (gI σ1 9) (gI σ6 9) (gI σ7 9) (gI σ6 10) (gI σ7 10) (gI N 9) (gI μ9 9) (gI σ6 8) n9 c := s12
  have s11' : Gr σ6 σ7 N μ9 := s11
  obtain ⟨gs1, gs2, gs3, gs4, gs5, gs6, gs7⟩ := s11'
  rw [e9] at g9 y1 y2 y3 nm s12'
  have x8 : gI σ6 8 = gI σ 8 := g8.trans ((eI 8 (by decide)).trans (nI' 8 (by decide) (by decide) (by decide) (by decide)))
  have x10 : gI σ6 10 = gI σ 10 := g10.trans ((eI 10 (by decide)).trans (nI' 10 (by decide) (by decide) (by decide) (by decide)))
  rw [g9, x10, N9, x8] at s12'
  rw [x8] at gs1
  rw [g9] at gs2
  rw [x10] at gs3
  rw [N9] at gs4
  have hbs := hs.2.2
  have hb7 := s1.2.2
  have hp7 := s1.p3
  have hm7 := s1.bm
  unfold Bv at hbs
  unfold Bg at hb7
  obtain ⟨b1, b2, b3, b4, b5, b6, b7, b8, b9, b10, b11, b12, b13, b14, b15, b16, b17, b18, b19, b20, b21, b22, b23⟩ := hb7
  have hcc := s12'.c
  have hbd := s12'.un.1
  unfold Bd at hbd
  have hs00 : 0 ≤ gI σ 9 ∧ gI σ 9 < 690 := ⟨hbs.2.2.2.2.2.2.2.2.2.2.1, by have := hbs.2.2.2.2.2.2.2.2.2.2.2.1; grind⟩
  have hn00 : 0 ≤ gI μ 9 ∧ gI μ 9 < 3200 := ⟨hbs.2.2.2.2.2.2.2.2.2.2.2.2.2.2.2.2.1, by have := hbs.2.2.2.2.2.2.2.2.2.2.2.2.2.2.2.2.2.1; grind⟩
  have h80 : 0 ≤ gI σ 8 := hbs.2.2.2.2.2.2.2.2.1
  have h100 : 0 ≤ gI σ 10 := hbs.2.2.2.2.2.2.2.2.2.2.2.2.2.2.1
  have hki : 0 ≤ nI k ∧ nI k < 30 := nI_n30 (by omega)
  have hES : EqE σ2 S := ((eE.tr SE6).tr s4').tr SE
  have hRM : EqR μ2 M := (NE.tr s5).tr ME
  have hsne : ∀ i, 0 ≤ i → ¬ i = gI σ 9 → ¬ i.toNatClampNeg = (gI σ 9).toNatClampNeg := fun i p w q => w ((i_inj p hs00.1).mp q)
  have hnne : ∀ i, 0 ≤ i → ¬ i = gI μ 9 → ¬ i.toNatClampNeg = (gI μ 9).toNatClampNeg := fun i p w q => w ((i_inj p hn00.1).mp q)
  have hF6 : FrC σ σ6 := eF.tr SC (by rw [eI 8 (by decide), nI' 8 (by decide) (by decide) (by decide) (by decide)]; exact Int32.le_refl _) (by rw [e9]; exact Int32.le_refl _) (by rw [eI 10 (by decide), nI' 10 (by decide) (by decide) (by decide) (by decide)]; exact Int32.le_refl _) hs00.1 (by rw [e9]; grind)
  have hF7 : FrC σ σ7 := hF6.tr s9' (by rw [x8]; exact Int32.le_refl _) (by rw [g9]; grind) (by rw [x10]; exact Int32.le_refl _) hs00.1 (by rw [g9]; grind)
  have hFS : FrC σ S := by
    obtain ⟨f1, f2, f3, f4⟩ := hF7
    refine ⟨fun i p q => ?_, fun i p q => ?_, fun i p q => (SB _ _).trans (f3 i p q), fun i p q => ?_⟩
    · rw [SA 13 _ (by decide), SA 14 _ (by decide), SA 15 _ (by decide), SA 16 _ (by decide), SA 17 _ (by decide)]; exact f1 i p q
    · rw [SA 20 _ (by decide), SA 21 _ (by decide), SA 22 _ (by decide), SA 24 _ (by decide), S23, if_neg (i_ne p q)]; exact f2 i p q
    · rw [SA 27 _ (by decide), SA 28 _ (by decide), SA 29 _ (by decide), SB]; exact f4 i p q
  have q10 : gI μ2 10 = gI μ 10 := mI 10 (by decide) (by decide) (by decide)
  have hMN : FrM μ N := by
    obtain ⟨f1, f2⟩ := mF
    obtain ⟨w1, w2⟩ := NM'.of9
    refine ⟨fun i p q => ?_, fun i p q => (w2 i p (by rw [q10]; exact q)).trans (f2 i p q)⟩
    have x := w1 i p q
    have y := f1 i p q
    exact ⟨x.1.trans y.1, x.2.1.trans y.2.1, x.2.2.1.trans y.2.2.1, x.2.2.2.1.trans y.2.2.2.1, x.2.2.2.2.1.trans y.2.2.2.2.1, x.2.2.2.2.2.1.trans y.2.2.2.2.2.1, x.2.2.2.2.2.2.1.trans y.2.2.2.2.2.2.1, x.2.2.2.2.2.2.2.1.trans y.2.2.2.2.2.2.2.1, x.2.2.2.2.2.2.2.2.1.trans y.2.2.2.2.2.2.2.2.1, x.2.2.2.2.2.2.2.2.2.trans y.2.2.2.2.2.2.2.2.2⟩
  have hg10 : gI μ 10 ≤ gI N 10 := by rw [← q10]; exact N10
  have hM9 : FrM μ μ9 := hMN.tr s10 (by rw [N9]; grind) hg10
  have hMM : FrM μ M := by
    obtain ⟨f1, f2⟩ := hM9
    refine ⟨fun i p q => ?_, fun i p q => (MB _ _).trans (f2 i p q)⟩
    rw [MA 2 _ (by decide), M3, if_neg (i_ne p q), MA 4 _ (by decide), MA 5 _ (by decide), MA 6 _ (by decide), MA 7 _ (by decide), MA 8 _ (by decide), MA 9 _ (by decide), MA 10 _ (by decide), MB]
    exact f1 i p q
  have hgM : gI μ 10 ≤ gI M 10 := by rw [MI 10 (by decide) (by decide) (by decide)]; exact i_trans hg10 gs5
  have kn := s10.1 (gI μ 9) hn00.1 (by rw [N9]; grind)
  have ks := s9'.2.1 (gI σ 9) hs00.1 (by rw [g9]; grind)
  have S4 : gI S 4 = gI σ 4 := (hES.1 4 (by decide)).trans (nI' 4 (by decide) (by decide) (by decide) (by decide))
  have S2 : ∀ i, xA S 2 i = xA σ 2 i := fun i => (congrFun (hES.2.2.1 2 (by decide)) _).trans (n2 i)
  have SI8 := SI 8 (by decide) (by decide)
  have SI9 := SI 9 (by decide) (by decide)
  have SI10 := SI 10 (by decide) (by decide)
  have MI9 := MI 9 (by decide) (by decide) (by decide)
  have hc8 := c_of1 hcc.1 s13 b9
  have i8 := iv_eq SI8
  have i9 := iv_eq SI9
  have i10 := iv_eq SI10
  have i13 := iv_eq (SI 13 (by decide) (by decide))
  have i5 := iv_eq (SI 5 (by decide) (by decide))
  have i18 := iv_lt S18
  have m9' := iv_eq MI9
  have m10 := iv_eq (MI 10 (by decide) (by decide) (by decide))
  have hBm : Bm S M := by
    unfold Bm at *
    omega
  have hSv : Sv S M := by
    refine ⟨hW, Ct_eq s1.2.1 SE ME, Bv_mk (by rw [SI 11 (by decide) (by decide)]; exact b1) (by rw [MI 7 (by decide) (by decide) (by decide)]; exact b2) (by rw [SI 13 (by decide) (by decide), MI 11 (by decide) (by decide) (by decide)]; exact b3) (by rw [SI 13 (by decide) (by decide)]; exact b4) (by rw [SI 13 (by decide) (by decide)]; exact b5) (by rw [SI 14 (by decide) (by decide), MI 15 (by decide) (by decide) (by decide)]; exact b6) (by rw [SI 14 (by decide) (by decide)]; exact b7) (by rw [SI 14 (by decide) (by decide)]; exact b8) (by rw [SI8]; exact b9) (by rw [SI9]; exact b11) (by rw [SI 5 (by decide) (by decide)]; exact b13) (by rw [SI 5 (by decide) (by decide)]; exact b14) (by rw [SI10]; exact b15) (by rw [MI9]; exact b17) (by rw [MI 10 (by decide) (by decide) (by decide)]; exact b19) (by rw [S15]; decide) (by rw [S15]; decide) hp (by unfold Bm at hBm; unfold Bw; omega)⟩
  have hRt : TR S M (gI σ 9) (gI σ 9 + 1) (gI σ7 9) (gI σ 10) (gI σ7 10) (gI μ 9 + 1) (gI μ9 9) (gI σ 8) n9 c := by
    refine s12'.st ⟨fun i _ _ => ⟨SA _ _ (by decide), SA _ _ (by decide), SA _ _ (by decide), SA _ _ (by decide)⟩, fun i _ _ => SA _ _ (by decide), fun i p q => ⟨SA _ _ (by decide), SA _ _ (by decide), ?_, SA _ _ (by decide)⟩, fun i _ _ => SA _ _ (by decide), fun i _ _ => SB _ _, fun i _ _ => ⟨SA _ _ (by decide), SA _ _ (by decide), SA _ _ (by decide), SB _ _⟩, fun i p q => ⟨MA _ _ (by decide), ?_, MA _ _ (by decide), MA _ _ (by decide), MA _ _ (by decide), MA _ _ (by decide), MA _ _ (by decide), MA _ _ (by decide), MB _ _⟩, fun i _ _ _ => MA _ _ (by decide), fun i _ _ => MB _ _, by rw [MI 10 (by decide) (by decide) (by decide)]; exact Int32.le_refl _, SE.1 4 (by decide), fun i _ _ => SA _ _ (by decide)⟩
    · rw [S23, if_neg (hsne i (by grind) (by grind))]
    · rw [M3, if_neg (hnne i (by grind) (by grind))]
  have hNs : TNames S M (gI σ 9) (gI μ 9) := by
    refine tn_of nm ng hs00.1 hs00.2 ?_ ?_ ?_ (fun i p q => ?_) (fun i p q => (MB _ _).trans (s10.2 i p q)) (by rw [MI 10 (by decide) (by decide) (by decide)]; exact gs5)
    · rw [MA 10 _ (by decide)]; exact kn.2.2.2.2.2.2.2.2.1
    · rw [MA 9 _ (by decide)]; exact kn.2.2.2.2.2.2.2.1
    · rw [SA 20 _ (by decide)]; exact ks.1
    · rw [SB]; exact s9'.2.2.1 i p (by rw [g9]; exact q)
  have hM6 : xA M 6 (gI μ 9) = gI μ 5 := by rw [MA 6 _ (by decide), kn.2.2.2.2.1]; exact N6
  have hw5 : gI σ 18 = gI μ 5 := hs.1.2.2.2.2.1
  have r1 : ∀ j x, j ≤ 12 → xA S j x = xA σ2 j x := fun j x w => congrFun (hES.2.2.1 j (by omega)) _
  have r2 : ∀ x, xB S 1 x = xB σ2 1 x := fun x => congrFun (hES.2.2.2.1 1 (by decide)) _
  have r3 : ∀ x, xB M 2 x = xB μ2 2 x := fun x => congrFun (hRM.2.2.2.1 2 (by decide)) _
  have r4 : ∀ x, xA M 11 x = xA μ2 11 x ∧ xA M 12 x = xA μ2 12 x := fun x => ⟨congrFun (hRM.2.2.1 11 (by decide)) _, congrFun (hRM.2.2.1 12 (by decide)) _⟩
  refine ⟨hSv, hBm, ⟨S15, ?_, M16, M17, ?_⟩, ⟨by omega, ?_, ?_, ?_⟩, ?_, ?_, ⟨⟨?_, upN_at _ _ _, ?_, upN_at _ _ _, ?_, upN_at _ _ _, ?_, upN_at _ _ _⟩, fun i hi => ?_, fun i i' hi hi' => ?_⟩⟩
  · rw [SI 14 (by decide) (by decide), s7', g14, eI 14 (by decide), nI' 14 (by decide) (by decide) (by decide) (by decide)]; exact h14
  · rw [hES.1 7 (by decide), nI' 7 (by decide) (by decide) (by decide) (by decide)]; exact hs7
  · rw [hES.1 5 (by decide)]; exact n5
  · rw [hES.1 6 (by decide)]; exact n6
  · rw [hRM.1 13 (by decide)]; exact m13
  · rw [MI 12 (by decide) (by decide) (by decide), MI 11 (by decide) (by decide) (by decide), s6, N12, mI 12 (by decide) (by decide) (by decide), mI 11 (by decide) (by decide) (by decide)]; exact h12
  · exact (hT.tr mT).tr hRM.t
  · rw [upN_ne _ _ (by omega)]; exact p1
  · rw [upN_ne _ _ (by omega)]; exact p3
  · rw [upN_ne _ _ (by omega)]; exact p5
  · rw [upN_ne _ _ (by omega)]; exact p7
  · by_cases ci : i = k
    · subst ci
      rw [upN_at cc, upN_at fs, upN_at fu, upN_at fn, upN_at ft, upN_ne fs _ (by omega), upN_ne fu _ (by omega), upN_ne fn _ (by omega), upN_ne ft _ (by omega), p2, p4, p6, p8, SI8, SI9, SI10, MI9]
      refine ⟨⟨?_, ⟨?_, ?_, ?_⟩, ⟨?_, ?_, ?_⟩, ⟨?_, ?_, ?_⟩, hNs, ?_, ?_, ?_⟩, ⟨hs00.1, by grind, Int32.le_refl _⟩, ⟨h100, gs3, Int32.le_refl _⟩, ⟨hn00.1, by grind, Int32.le_refl _⟩, ⟨h80, by grind, hc8⟩, s13.symm⟩
      · rw [r2, r3, nk.1, mk.1]; exact hz
      · rw [r1 8 _ (by decide)]; exact nk.2.1
      · rw [r1 4 _ (by decide)]; exact nk.2.2.1
      · rw [r1 11 _ (by decide)]; exact nk.2.2.2
      · rw [(r4 _).2]; exact mk.2.2
      · rw [(r4 _).1, hM6]; exact mk.2.1
      · rw [MA 2 _ (by decide), kn.1]; exact N2
      · rw [SA 21 _ (by decide), ks.2.1]; exact y1
      · rw [SA 22 _ (by decide), ks.2.2.1]; exact y2
      · rw [SA 24 _ (by decide), ks.2.2.2.2, y3, hM6]; exact hw5
      · rw [S23, if_pos rfl]
      · rw [SA 17 _ (by decide)]; exact s14
      · rw [M3, if_pos rfl]; exact hRt
    · obtain ⟨⟨d1, ⟨d2, d3, d4⟩, ⟨d5, d6, d7⟩, ⟨d8, d9, d10⟩, d11, d12, d13, d14⟩, ⟨f1, f2, f3⟩, ⟨f4, f5, f6⟩, ⟨f7, f8, f9⟩, ⟨f10, f11, f12⟩, f13⟩ := hPG i (by omega)
      have hik : i < k := by omega
      have ksi := hFS.2.1 (fs i) f1 (by grind)
      have kni := hMM.1 (fn i) f7 (by grind)
      have hbi := d14.un.1
      unfold Bd at hbi
      rw [upN_ne cc _ ci, upN_ne fs _ (by omega), upN_ne fs _ (by omega), upN_ne fu _ (by omega), upN_ne fu _ (by omega), upN_ne fn _ (by omega), upN_ne fn _ (by omega), upN_ne ft _ (by omega), upN_ne ft _ (by omega)]
      have hA : Agr σ S μ M (fs i) (fs (i + 1)) (fu i) (fu (i + 1)) (fn i) (fn (i + 1)) (ft i) (fn i) (cc i) := Agr.fr2 S4 S2 hFS hMM hgM ⟨f1, by grind, f3, by grind⟩ ⟨f4, f6⟩ ⟨f7, f9⟩ ⟨f10, f12⟩
      refine ⟨⟨?_, ⟨?_, ?_, ?_⟩, ⟨?_, ?_, ?_⟩, ⟨?_, ?_, ?_⟩, ?_, ?_, ?_, ?_⟩, ⟨f1, f2, by grind⟩, ⟨f4, f5, by grind⟩, ⟨f7, f8, by grind⟩, ⟨f10, f11, by grind⟩, f13⟩
      · rw [r2, r3, (ni i hik).1, (mi i hik).1]; exact d1
      · rw [r1 8 _ (by decide), (ni i hik).2.1]; exact d2
      · rw [r1 4 _ (by decide), (ni i hik).2.2.1]; exact d3
      · rw [r1 11 _ (by decide), (ni i hik).2.2.2]; exact d4
      · rw [(r4 _).2, (mi i hik).2.2]; exact d5
      · rw [(r4 _).1, (mi i hik).2.1, kni.2.2.2.2.1]; exact d6
      · rw [kni.1]; exact d7
      · rw [ksi.2.1]; exact d8
      · rw [ksi.2.2.1]; exact d9
      · rw [ksi.2.2.2.2, kni.2.2.2.2.1]; exact d10
      · exact TNames_st hA f1 (Int32.le_refl _) f2 (by grind) (Int32.le_refl _) f8 d11
      · rw [ksi.2.2.2.1]; exact d12
      · rw [(hFS.1 (cc i) (by grind) f12).2.2.2.2]; exact d13
      · rw [kni.2.1]
        exact d14.st (Agr.fr2 S4 S2 hFS hMM hgM ⟨by grind, by grind, f3, by grind⟩ ⟨f4, f6⟩ ⟨by grind, f9⟩ ⟨f10, f12⟩)
  · by_cases ci : i' = k
    · subst ci
      rw [r2, r2, (ni i hi).1, nk.1]
      exact hnew i hi
    · rw [r2, r2, (ni i (by omega)).1, (ni i' (by omega)).1]
      exact hdist i i' hi (by omega)
