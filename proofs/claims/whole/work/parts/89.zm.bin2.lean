theorem Wd.Rd {σ μ : S5} (h : Wd σ μ) : Wd σ (mRd μ) := h
theorem Wd.J {σ μ : S5} {a b c d e f : Int32} (h : Wd σ μ) : Wd (cN (pA σ 17 a b) c d e f) μ := h
theorem mRd_gI (μ : S5) {j : Nat} (h : ¬ j = 16) (h2 : ¬ j = 17) : gI (mRd μ) j = gI μ j := by
  unfold mRd
  rw [gI_pI, if_neg h2, gI_pA, gI_pA, gI_pI, if_neg h2, gI_pA, gI_pI, if_neg h2, gI_pI, if_neg h]
theorem mRd_eq (μ : S5) : EqR μ (mRd μ) := (((((((EqR.rf μ).I (by decide)).I (by decide)).A (by decide)).I (by decide)).A (by decide)).A (by decide)).I (by decide)
theorem mRd_row (μ : S5) (k : Nat) (x : Int32) (h3 : ¬ k = 3) (h4 : ¬ k = 4) (h18 : ¬ k = 18) : xA (mRd μ) k x = xA μ k x := by
  unfold mRd
  rw [xA_pI, xA_pA, if_neg (fun q => h18 q.1), xA_pA, if_neg (fun q => h3 q.1), xA_pI, xA_pA, if_neg (fun q => h4 q.1), xA_pI, xA_pI]
theorem mRd_3 (μ : S5) (x : Int32) : xA (mRd μ) 3 x = if x.toNatClampNeg = (xA μ 15 (gI μ 16 - 1)).toNatClampNeg then xA μ 18 (gI μ 17 - 1 - 1) else xA μ 3 x := by
  unfold mRd
  simp [xA_pI, xA_pA]
theorem mRd_4 (μ : S5) (x : Int32) : xA (mRd μ) 4 x = if x.toNatClampNeg = (xA μ 15 (gI μ 16 - 1)).toNatClampNeg then xA μ 18 (gI μ 17 - 1) else xA μ 4 x := by
  unfold mRd
  simp [xA_pI, xA_pA]
theorem mRd_18 (μ : S5) (x : Int32) : xA (mRd μ) 18 x = if x.toNatClampNeg = (gI μ 17 - 1 - 1).toNatClampNeg then xA μ 15 (gI μ 16 - 1) else xA μ 18 x := by
  unfold mRd
  simp [xA_pI, xA_pA]
theorem mRd_B (μ : S5) (k : Nat) (x : Int32) : xB (mRd μ) k x = xB μ k x := rfl
/-- the class's state behind a join -/
def JS (σ2 S : S5) (c c2 s : Int32) : Prop := gI S 8 = gI σ2 8 + 1 ∧ (∀ j, ¬ j = 8 → gI S j = gI σ2 j) ∧ (xA S 13 (gI σ2 8) = 5 ∧ xA S 14 (gI σ2 8) = s ∧ xA S 15 (gI σ2 8) = 0 ∧ xA S 16 (gI σ2 8) = c ∧ xA S 17 (gI σ2 8) = -1) ∧ (∀ i, 0 ≤ i → i < gI σ2 8 → xA S 13 i = xA σ2 13 i ∧ xA S 14 i = xA σ2 14 i ∧ xA S 15 i = xA σ2 15 i ∧ xA S 16 i = xA σ2 16 i ∧ xA S 17 i = (if i = c then c2 else xA σ2 17 i)) ∧ EqE σ2 S ∧ (∀ k i, 20 ≤ k → xA S k i = xA σ2 k i) ∧ (∀ k i, xB S k i = xB σ2 k i)
theorem js_of {σ2 : S5} {c : Int32} (c2 s : Int32) (hc : 0 ≤ c) : JS σ2 (cN (pA σ2 17 c c2) 5 s 0 c) c c2 s := by
  have Srow := cN_row (pA σ2 17 c c2) 5 s 0 c
  rw [show gI (pA σ2 17 c c2) 8 = gI σ2 8 from rfl] at Srow
  refine ⟨rfl, fun j h => by unfold cN; rw [gI_pI, if_neg h]; rfl, Srow, ?_, ((EqE.rf σ2).A (by decide)).N, fun k i h => ?_, fun k i => rfl⟩
  · intro i i0 i1
    have x := (FrC.N (pA σ2 17 c c2) 5 s 0 c).1 i i0 i1
    refine ⟨x.1, x.2.1, x.2.2.1, x.2.2.2.1, ?_⟩
    rw [x.2.2.2.2, xA_pA]
    by_cases w : i = c
    · rw [if_pos ⟨rfl, by rw [w]⟩, if_pos w]
    · rw [if_neg (fun v => w ((i_inj i0 hc).mp v.2)), if_neg w]
  · unfold cN
    simp only [xA_pI, xA_pA]
    rw [if_neg (by omega), if_neg (by omega), if_neg (by omega), if_neg (by omega), if_neg (by omega), if_neg (by omega)]
/-- the reference's -/
def JM (μ2 M : S5) (P O ns n n2 : Int32) : Prop := gI M 16 = P ∧ gI M 17 = O + 1 ∧ (∀ j, ¬ j = 16 → ¬ j = 17 → gI M j = gI μ2 j) ∧ (∀ x : Int32, xA M 3 x = if x.toNatClampNeg = ns.toNatClampNeg then n else xA μ2 3 x) ∧ (∀ x : Int32, xA M 4 x = if x.toNatClampNeg = ns.toNatClampNeg then n2 else xA μ2 4 x) ∧ (∀ x : Int32, xA M 18 x = if x.toNatClampNeg = O.toNatClampNeg then ns else xA μ2 18 x) ∧ (∀ (k : Nat) (x : Int32), ¬ k = 3 → ¬ k = 4 → ¬ k = 18 → xA M k x = xA μ2 k x) ∧ (∀ (k : Nat) (x : Int32), xB M k x = xB μ2 k x) ∧ EqR μ2 M
theorem jm_of {μ2 : S5} {P O ns n n2 : Int32} (e16 : gI μ2 16 - 1 = P) (e17 : gI μ2 17 - 1 = O + 1) (e17' : gI μ2 17 - 1 - 1 = O) (k15 : xA μ2 15 P = ns) (k18 : xA μ2 18 (O + 1) = n2) (k18' : xA μ2 18 O = n) : JM μ2 (mRd μ2) P O ns n n2 := by
  refine ⟨e16, ?_, fun j h h2 => mRd_gI μ2 h h2, fun x => ?_, fun x => ?_, fun x => ?_, mRd_row μ2, mRd_B μ2, mRd_eq μ2⟩
  · show gI μ2 17 - 1 - 1 + 1 = _
    rw [e17']
  · rw [mRd_3, e16, e17', k15, k18']
  · rw [mRd_4, e16, e17, k15, k18]
  · rw [mRd_18, e16, e17', k15]
theorem bin_gen {σ0 μ0 σ μ σ1 μ1 σ2 μ2 S M : S5} {c n c2 n2 s r : Int32} (hs0 : Sim σ0 μ0) (hC : Cor σ0 μ0 c σ μ n) (hG : SG σ μ σ1 μ1 s r) (hC2 : Cor σ1 μ1 c2 σ2 μ2 n2) (hs : 0 < rkK s) (h160 : 0 < gI μ0 16) (h161 : gI μ0 16 < 3000) (h170 : 0 ≤ gI μ0 17) (h171 : gI μ0 17 < 3000) (hJS : JS σ2 S c c2 s) (hJM : JM μ2 M (gI μ0 16) (gI μ0 17) (gI μ 9) n n2) (SW : Wd S M) : Cor σ0 μ0 (gI σ2 8) S M (gI μ 9) := by
  have hp0 := hs0.p3
  have hbm0 := hs0.bm
  have hb0 := hs0.2.2
  unfold Bg at hb0
  obtain ⟨r1, r2, ⟨t1, t2, t3, t4, t5⟩, r4, r5, r6, r7, r8, r9, r10, r11, r12, r13, r14, r15⟩ := hC
  obtain ⟨g1, gE, gR, gFC, gFM, gPF, ⟨x8, x9, x10, x13, x14, x15, x18⟩, ⟨q9, q10, q11, q12, q16, q17, q18, q19⟩, ⟨n2', n10', n5', n7'⟩, ⟨p14, p15, p16⟩, gG⟩ := hG
  obtain ⟨s1, s2, ⟨u1, u2, u3, u4, u5⟩, s4, s5, s6, s7, s8, s9, s10, s11, s12, s13, s14, s15⟩ := hC2
  have hp3 := s1.p3
  have hbL := r1.2.2
  have hb1 := g1.2.2
  have hb2 := s1.2.2
  unfold Bg at hbL hb1 hb2
  have hcc := r12.c
  have hc2 := s12.c
  obtain ⟨gr1, gr2, gr3, gr4, gr5, gr6, gr7⟩ := id r11
  obtain ⟨gs1, gs2, gs3, gs4, gs5, gs6, gs7⟩ := id s11
  rw [x8] at gs1
  rw [x9] at gs2
  rw [x10] at gs3
  rw [q9] at gs4
  rw [q10] at gs5
  have hbd1 := r12.un.1
  unfold Bd at hbd1
  have hns : 0 ≤ gI μ 9 ∧ gI μ 9 ≤ 2100 := by grind
  have hc8 : gI σ0 8 ≤ c ∧ c < gI σ 8 := by grind
  have h8 : gI σ2 8 < 6200 := by grind
  have h80 : 0 ≤ gI σ2 8 := by grind
  obtain ⟨S8, SI, Srow, Slt, SE, Ssc, SB⟩ := hJS
  obtain ⟨M16, M17, MI, M3, M4, M18, Mrow, MB, ME⟩ := hJM
  have hne : ∀ i, 0 ≤ i → ¬ i = gI μ 9 → ¬ i.toNatClampNeg = (gI μ 9).toNatClampNeg := fun i i0 h w => h ((i_inj i0 hns.1).mp w)
  have hGm2 : Gm 2 2 σ0 σ2 μ0 μ2 := ((gr7.tr gG).tr gs7).wk (by decide) (by decide)
  have hGm : Gm 1 1 σ0 S μ0 M := by
    have i8 := iv_a1 S8 h80 (by grind)
    have i9 := iv_eq (SI 9 (by decide))
    have i10 := iv_eq (SI 10 (by decide))
    have i13 := iv_eq (SI 13 (by decide))
    have i18 := iv_eq (SI 18 (by decide))
    have m9 := iv_eq (MI 9 (by decide) (by decide))
    have m10 := iv_eq (MI 10 (by decide) (by decide))
    unfold Gm at *
    omega
  have key : ∀ (h s s' u u' a b t n3 c3 : Int32), TR σ2 μ2 h s s' u u' a b t n3 c3 → c3 < gI σ2 8 → (c3 ≤ c ∨ c < t) → (b ≤ gI μ 9 ∨ gI μ 9 < a) → TR S M h s s' u u' a b t n3 c3 := by
    intro h s s' u u' a b t n3 c3 w hc3 hct hab
    have hb := w.un.1
    unfold Bd at hb
    refine w.st ⟨fun i p q => ?_, fun i p q => ?_, fun i _ _ => ⟨Ssc _ _ (by decide), Ssc _ _ (by decide), Ssc _ _ (by decide), Ssc _ _ (by decide)⟩, fun i _ _ => Ssc _ _ (by decide), fun i _ _ => SB _ _, fun i _ _ => ⟨Ssc _ _ (by decide), Ssc _ _ (by decide), Ssc _ _ (by decide), SB _ _⟩, fun i p q => ?_, fun i _ _ _ => Mrow _ _ (by decide) (by decide) (by decide), fun i _ _ => MB _ _, by rw [MI 10 (by decide) (by decide)]; grind, SE.1 4 (by decide), fun i _ _ => congrFun (SE.2.2.1 2 (by decide)) _⟩
    · have x := Slt i (by grind) (by grind)
      exact ⟨x.1, x.2.1, x.2.2.1, x.2.2.2.1⟩
    · rw [(Slt i (by grind) (by grind)).2.2.2.2, if_neg (by grind)]
    · have hi := hne i (by grind) (by grind)
      refine ⟨Mrow _ _ (by decide) (by decide) (by decide), ?_, ?_, Mrow _ _ (by decide) (by decide) (by decide), Mrow _ _ (by decide) (by decide) (by decide), Mrow _ _ (by decide) (by decide) (by decide), Mrow _ _ (by decide) (by decide) (by decide), Mrow _ _ (by decide) (by decide) (by decide), MB _ _⟩
      · rw [M3, if_neg hi]
      · rw [M4, if_neg hi]
  have hFC2 : FrC σ σ2 := gFC.tr s9 (by rw [x8]; grind) (by rw [x9]; grind) (by rw [x10]; grind) (by grind) (by grind)
  have hFM2 : FrM μ μ2 := gFM.tr s10 (by rw [q9]; grind) (by rw [q10]; grind)
  have hFC02 : FrC σ0 σ2 := r9.tr hFC2 gr1 gr2 gr3 (by grind) (by grind)
  have hFM02 : FrM μ0 μ2 := r10.tr hFM2 gr4 gr5
  have hL2 : TR σ2 μ2 (gI σ0 15) (gI σ0 9) (gI σ 9) (gI σ0 10) (gI σ 10) (gI μ0 9) (gI μ 9) (gI σ0 8) n c := r12.st (Agr.fr (gE.tr s4) hFC2 hFM2 (by grind) (by grind) (by grind) (by grind) (by grind))
  have hL3 := key _ _ _ _ _ _ _ _ _ _ hL2 (by grind) (Or.inl (by grind)) (Or.inl (by grind))
  rw [x15, r8, x9, x10, q9, x8] at s12
  have hR3 := key _ _ _ _ _ _ _ _ _ _ s12 (by grind) (Or.inr (by grind)) (Or.inr (by grind))
  have hc12 : ¬ c2 = c := by
    have hbd2 := s12.un.1
    unfold Bd at hbd2
    have w1 := hbd2.2.2.2.2.2.2.2.2.2.2.2.2.1
    have w2 := hc8.2
    clear Mrow Ssc M18 M3 M4 hne t5 u5 t4 u4 key MI SI MB SB Slt
    intro w
    rw [w] at w1
    exact absurd w2 (by grind)
  have hMns := s10.1 (gI μ 9) hns.1 (by rw [q9]; grind)
  refine ⟨⟨SW, Ct_eq s1.2.1 SE ME, ?_⟩, (MI 19 (by decide) (by decide)).trans s2, ⟨M16, M17, ?_, fun i p q => ?_, fun i p q => ?_⟩, ((r4.tr gE).tr s4).tr SE, ((r5.tr gR).tr s5).tr ME, ?_, ?_, ?_, ?_, ?_, ?_, ?_, S8.symm, Srow.2.2.2.2, ?_⟩
  · obtain ⟨b1, b2, b3, b4, b5, b6, b7, b8, b9, b10, b11, b12, b13, b14, b15, b16, b17, b18, b19, b20, b21, b22, b23⟩ := hb2
    exact Bg_mk (by rw [SI 11 (by decide)]; exact b1) (by rw [MI 7 (by decide) (by decide)]; exact b2) (by rw [SI 13 (by decide), MI 11 (by decide) (by decide)]; exact b3) (by rw [SI 13 (by decide)]; exact b4) (by rw [SI 13 (by decide)]; exact b5) (by rw [SI 14 (by decide), MI 15 (by decide) (by decide)]; exact b6) (by rw [SI 14 (by decide)]; exact b7) (by rw [SI 14 (by decide)]; exact b8) (by rw [S8]; grind) (by rw [SI 9 (by decide)]; exact b11) (by rw [SI 5 (by decide)]; exact b13) (by rw [SI 5 (by decide)]; exact b14) (by rw [SI 10 (by decide)]; exact b15) (by rw [MI 9 (by decide) (by decide)]; exact b17) (by rw [MI 10 (by decide) (by decide)]; exact b19) (by rw [SI 15 (by decide)]; exact b21) (by rw [SI 15 (by decide), SI 9 (by decide)]; exact b22) (by rw [SI 18 (by decide)]; exact hp3.2) (hbm0.gr hGm (by decide) (by decide) ((((r4.tr gE).tr s4).tr SE).1 5 (by decide)))
  · rw [M18, if_pos rfl]
  · have y1 := u4 i p (by grind)
    have y2 := gPF.1 i p (by rw [t1]; exact q)
    have y3 := t4 i p q
    rw [Mrow 14 _ (by decide) (by decide) (by decide), Mrow 15 _ (by decide) (by decide) (by decide), Mrow 16 _ (by decide) (by decide) (by decide), Mrow 17 _ (by decide) (by decide) (by decide)]
    exact ⟨(y1.1.trans y2.1).trans y3.1, (y1.2.1.trans y2.2.1).trans y3.2.1, (y1.2.2.1.trans y2.2.2.1).trans y3.2.2.1, (y1.2.2.2.trans y2.2.2.2).trans y3.2.2.2⟩
  · rw [M18, if_neg (i_ne p q), u5 i p (by rw [q17, t2]; grind), gPF.2 i p (by rw [t2]; grind)]
    exact t5 i p q
  · rw [MI 12 (by decide) (by decide), MI 11 (by decide) (by decide), s6, q12, q11, ← r6]; grind
  · rw [SI 14 (by decide), s7, x14, r7]
  · rw [SI 15 (by decide), s8, x15, r8]
  · obtain ⟨z1, z2, z3, z4⟩ := hFC02
    refine ⟨fun i p q => ?_, fun i p q => ?_, fun i p q => (SB _ _).trans (z3 i p q), fun i p q => ?_⟩
    · have x := Slt i p (by grind)
      have y := z1 i p q
      refine ⟨x.1.trans y.1, x.2.1.trans y.2.1, x.2.2.1.trans y.2.2.1, x.2.2.2.1.trans y.2.2.2.1, ?_⟩
      rw [x.2.2.2.2, if_neg (by grind)]
      exact y.2.2.2.2
    · rw [Ssc _ _ (by decide), Ssc _ _ (by decide), Ssc _ _ (by decide), Ssc _ _ (by decide), Ssc _ _ (by decide)]
      exact z2 i p q
    · rw [Ssc _ _ (by decide), Ssc _ _ (by decide), Ssc _ _ (by decide), SB]
      exact z4 i p q
  · obtain ⟨z1, z2⟩ := hFM02
    refine ⟨fun i p q => ?_, fun i p q => (MB _ _).trans (z2 i p q)⟩
    have hi := hne i p (by grind)
    rw [Mrow 2 _ (by decide) (by decide) (by decide), M3, if_neg hi, M4, if_neg hi, Mrow 5 _ (by decide) (by decide) (by decide), Mrow 6 _ (by decide) (by decide) (by decide), Mrow 7 _ (by decide) (by decide) (by decide), Mrow 8 _ (by decide) (by decide) (by decide), Mrow 9 _ (by decide) (by decide) (by decide), Mrow 10 _ (by decide) (by decide) (by decide), MB]
    exact z1 i p q
  · exact ⟨by rw [S8]; grind, by rw [SI 9 (by decide)]; grind, by rw [SI 10 (by decide)]; grind, by rw [MI 9 (by decide) (by decide)]; grind, by rw [MI 10 (by decide) (by decide)]; grind, by rw [SI 18 (by decide)]; grind, hGm⟩
  · rw [SI 9 (by decide), SI 10 (by decide), MI 9 (by decide) (by decide)]
    refine TR.fold ⟨?_, Or.inr (Or.inl ⟨?_, ?_, Srow.1, ?_, ?_, c, c2, gI σ 9, gI σ 10, ?_, ?_, ?_, ?_, s13.symm, Srow.2.2.2.1, ?_, ?_⟩)⟩
    · unfold Bd
      grind
    · rw [Mrow 2 _ (by decide) (by decide) (by decide)]; exact hMns.1.trans n2'
    · rw [Mrow 10 _ (by decide) (by decide) (by decide)]; exact hMns.2.2.2.2.2.2.2.2.1.trans n10'
    · rw [Mrow 7 _ (by decide) (by decide) (by decide), Srow.2.1]; exact hMns.2.2.2.2.2.1.trans n7'
    · rw [Srow.2.1]; exact hs
    · rw [M3, if_pos rfl]; exact hL3
    · unfold Wi
      grind
    · rw [M4, if_pos rfl, r13]; exact hR3
    · have hbd2 := s12.un.1
      clear Mrow Ssc M18 M3 M4 hne t5 u5 t4 u4 key MI SI MB SB Slt hFC02 hFM02 hFC2 hFM2 hL2 hL3 hR3 r9 r10 s9 s10 gFC gFM gPF
      unfold Wi
      unfold Bd at hbd2
      grind
    · rw [(Slt c hcc.1 (by grind)).2.2.2.2, if_pos rfl]
    · rw [(Slt c2 hc2.1 (by grind)).2.2.2.2, if_neg hc12]; exact s14
  · rw [Mrow 5 _ (by decide) (by decide) (by decide)]; exact hMns.2.2.2.1.trans n5'
theorem bin_cor {σ0 μ0 σ μ σ1 μ1 σ2 μ2 : S5} {c n c2 n2 s r : Int32} (hs0 : Sim σ0 μ0) (hC : Cor σ0 μ0 c σ μ n) (hG : SG σ μ σ1 μ1 s r) (hC2 : Cor σ1 μ1 c2 σ2 μ2 n2) (hs : 0 < rkK s) (h160 : 0 < gI μ0 16) (h161 : gI μ0 16 < 3000) (h170 : 0 ≤ gI μ0 17) (h171 : gI μ0 17 < 3000) : f_X5_join s c c2 σ2 = some (gI σ2 8, cN (pA σ2 17 c c2) 5 s 0 c) ∧ Cor σ0 μ0 (gI σ2 8) (cN (pA σ2 17 c c2) 5 s 0 c) (mRd μ2) (gI μ 9) := by
  have hcc := hC.2.2.2.2.2.2.2.2.2.2.2.1.c
  have hb2 := hC2.1.2.2
  unfold Bg at hb2
  obtain ⟨t1, t2, t3, t4, t5⟩ := hC.2.2.1
  obtain ⟨u1, u2, u3, u4, u5⟩ := hC2.2.2.1
  obtain ⟨g1, gE, gR, gFC, gFM, gPF, gx, ⟨q9, q10, q11, q12, q16, q17, q18, q19⟩, gn, ⟨p14, p15, p16⟩, gG⟩ := id hG
  have hjoin : f_X5_join s c c2 σ2 = some (gI σ2 8, cN (pA σ2 17 c c2) 5 s 0 c) := by
    unfold f_X5_join
    rw [gd6200 hcc.1 hcc.2, bd_eta']
    exact c_addN (σ := pA σ2 17 c c2) 5 s 0 c hb2.2.2.2.2.2.2.2.2.1 (by show gI σ2 8 < 6200; have := hb2.2.2.2.2.2.2.2.2.2.1; grind)
  have e16 : gI μ2 16 - 1 = gI μ0 16 := by rw [u1, q16, t1]; grind
  have e17 : gI μ2 17 - 1 = gI μ0 17 + 1 := by rw [u2, q17, t2]; grind
  have e17' : gI μ2 17 - 1 - 1 = gI μ0 17 := by rw [e17]; grind
  have hP : gI μ0 16 < gI μ1 16 := by rw [q16, t1]; grind
  have hPt := u4 (gI μ0 16) (by grind) hP
  rw [t1] at p14 p15 p16
  have k15 : xA μ2 15 (gI μ0 16) = gI μ 9 := hPt.2.1.trans p15
  have k18 : xA μ2 18 (gI μ0 17 + 1) = n2 := by rw [q17, t2] at u3; exact u3
  have k18' : xA μ2 18 (gI μ0 17) = n := by
    rw [u5 (gI μ0 17) h170 (by rw [q17, t2]; grind), gPF.2 (gI μ0 17) h170 (by rw [t2]; grind)]; exact t3
  exact ⟨hjoin, bin_gen hs0 hC hG hC2 hs h160 h161 h170 h171 (js_of c2 s hcc.1) (jm_of e16 e17 e17' k15 k18 k18') ((hC2.1.1.J).Rd)⟩
