/-- the class's state behind a let -/
def FS3 (σ7 S : S5) (s c0 c1 h : Int32) : Prop := gI S 8 = gI σ7 8 + 1 ∧ gI S 14 = gI σ7 14 - 1 ∧ gI S 15 = h ∧ (∀ k, ¬ k = 8 → ¬ k = 14 → ¬ k = 15 → gI S k = gI σ7 k) ∧ (xA S 13 (gI σ7 8) = 7 ∧ xA S 15 (gI σ7 8) = s ∧ xA S 16 (gI σ7 8) = c0 ∧ xA S 17 (gI σ7 8) = -1) ∧ (∀ i, 0 ≤ i → i < gI σ7 8 → xA S 13 i = xA σ7 13 i ∧ xA S 14 i = xA σ7 14 i ∧ xA S 15 i = xA σ7 15 i ∧ xA S 16 i = xA σ7 16 i ∧ (¬ i.toNatClampNeg = c0.toNatClampNeg → xA S 17 i = xA σ7 17 i)) ∧ (c0 < gI σ7 8 → xA S 17 c0 = c1) ∧ (∀ k i, 20 ≤ k → xA S k i = xA σ7 k i) ∧ (∀ k i, xB S k i = xB σ7 k i) ∧ EqE σ7 S
theorem fs3_of (σ7 : S5) (s c0 c1 h : Int32) (h0 : 0 ≤ c0) : FS3 σ7 (cN (pI (pI (pA σ7 17 c0 c1) 15 h) 14 (gI σ7 14 - 1)) 7 0 s c0) s c0 c1 h := by
  have hr := cN_row (pI (pI (pA σ7 17 c0 c1) 15 h) 14 (gI σ7 14 - 1)) 7 0 s c0
  have hf := FrC.N (pI (pI (pA σ7 17 c0 c1) 15 h) 14 (gI σ7 14 - 1)) 7 0 s c0
  rw [show gI (pI (pI (pA σ7 17 c0 c1) 15 h) 14 (gI σ7 14 - 1)) 8 = gI σ7 8 from rfl] at hr
  refine ⟨rfl, rfl, rfl, fun k h1 h2 h3 => ?_, ⟨hr.1, hr.2.2.1, hr.2.2.2.1, hr.2.2.2.2⟩, fun i p q => ?_, fun q => ?_, fun k i h1 => ?_, fun k i => rfl, ((((EqE.rf σ7).A (by decide)).I (by decide)).I (by decide)).N⟩
  · rw [cN_gI _ _ _ _ _ h1, gI_pI, if_neg h2, gI_pI, if_neg h3]
    rfl
  · have x := hf.1 i p q
    refine ⟨x.1.trans rfl, x.2.1.trans rfl, x.2.2.1.trans rfl, x.2.2.2.1.trans rfl, fun w => ?_⟩
    rw [x.2.2.2.2, xA_pI, xA_pI, xA_pA, if_neg (fun v => w v.2)]
  · rw [(hf.1 c0 h0 q).2.2.2.2, xA_pI, xA_pI, xA_pA, if_pos ⟨rfl, rfl⟩]
  · unfold cN
    simp only [xA_pI, xA_pA]
    rw [if_neg (by omega), if_neg (by omega), if_neg (by omega), if_neg (by omega), if_neg (by omega), if_neg (by omega)]
theorem wd_FS3 {σ μ : S5} {s c0 c1 h v : Int32} (w : Wd σ μ) : Wd (cN (pI (pI (pA σ 17 c0 c1) 15 h) 14 v) 7 0 s c0) μ := w
/-- the reference's -/
def FM7 (μ9 M : S5) (n n9 O : Int32) : Prop := gI M 16 = gI μ9 16 - 1 ∧ gI M 15 = gI μ9 15 - 1 ∧ gI M 17 = O + 1 ∧ (∀ k, ¬ k = 15 → ¬ k = 16 → ¬ k = 17 → ¬ k = 21 → gI M k = gI μ9 k) ∧ (∀ k i, ¬ k = 7 → ¬ k = 18 → xA M k i = xA μ9 k i) ∧ (∀ i : Int32, xA M 7 i = if i.toNatClampNeg = n.toNatClampNeg then n9 else xA μ9 7 i) ∧ (∀ i : Int32, xA M 18 i = if i.toNatClampNeg = O.toNatClampNeg then n else xA μ9 18 i) ∧ (∀ k i, xB M k i = xB μ9 k i) ∧ EqR μ9 M
theorem fm7_cl {μ9 : S5} (n n9 : Int32) {O : Int32} (hO : gI μ9 17 - 1 = O) : FM7 μ9 (mCl (pA (pI μ9 17 (gI μ9 17 - 1)) 7 n n9) n) n n9 O := by
  have e17 : gI (pI (pI (pA (pI μ9 17 (gI μ9 17 - 1)) 7 n n9) 16 (gI (pA (pI μ9 17 (gI μ9 17 - 1)) 7 n n9) 16 - 1)) 15 (gI (pA (pI μ9 17 (gI μ9 17 - 1)) 7 n n9) 15 - 1)) 17 = O := hO
  refine ⟨rfl, rfl, ?_, fun k h1 h2 h3 h4 => ?_, fun k i h1 h2 => ?_, fun i => ?_, fun i => ?_, fun k i => rfl, ?_⟩
  · show gI μ9 17 - 1 + 1 = O + 1
    rw [hO]
  · unfold mCl
    rw [gI_pI, if_neg h4, gI_mO h3, gI_pI, if_neg h1, gI_pI, if_neg h2, gI_pA, gI_pI, if_neg h3]
  · unfold mCl
    rw [xA_pI, xA_mO h2, xA_pI, xA_pI, xA_pA, if_neg (fun w => h1 w.1), xA_pI]
  · unfold mCl
    rw [xA_pI, xA_mO (by decide), xA_pI, xA_pI, xA_pA, xA_pI]
    simp
  · unfold mCl mO
    rw [xA_pI, xA_pI, e17]
    simp [xA_pI, xA_pA]
  · exact (((((((EqR.rf μ9).I (by decide)).A (by decide)).I (by decide)).I (by decide)).O).I (by decide))
theorem Wd.Cl7 {σ μ : S5} {n n9 v : Int32} (h : Wd σ μ) : Wd σ (mCl (pA (pI μ 17 v) 7 n n9) n) := h
/-- a let has been read by both -/
theorem le_fin {σ0 μ0 σ N σ7 μ9 S M : S5} {k : Nat} {c0 n9 : Int32} {g cc fs fu fn ft : Nat → Int32} (hs0 : Sim σ0 μ0) (hz : Pz 0 σ0 μ0) (h : LI σ0 μ0 σ N k g cc fs fu fn ft) (hk1 : 1 ≤ k) (hC : Cor σ N c0 σ7 μ9 n9) (hS : FS3 σ7 S (gI σ0 9) c0 (cc 0) (gI σ0 15)) (hM : FM7 μ9 M (gI μ0 9) n9 (gI μ0 17)) (hW : Wd S M) : Cor σ0 μ0 (gI σ7 8) S M (gI μ0 9) := by
  have hb0 := hs0.2.2
  unfold Bg at hb0
  obtain ⟨h160, h161, h170, h171⟩ := hz.rg hb0.2.2.2.2.2.2.2.1 (by decide)
  obtain ⟨l1, ⟨fE, fR, fC, fM, fP, f12, f8, f9, f10, fm9, fm10, f18⟩, ⟨x14, x15, x16, x17, x9, q9⟩, ⟨p14, p15⟩, ⟨y1, y2⟩, ⟨z2, z5, z10, z4⟩, ⟨n5, n20, n3, nrow⟩, hRG, hG, hG2⟩ := h
  obtain ⟨s1, s2, ⟨u1, u2, u3, u4, u5⟩, s4, s5, s6, s7, s8, s9, s10, s11, s12, s13, s14, s15⟩ := hC
  obtain ⟨gs1, gs2, gs3, gs4, gs5, gs6, gs7⟩ := s11
  obtain ⟨S8, S14, S15, SI, ⟨r13, r15, r16, r17⟩, SF, Sc0, Ssc, SB, SE⟩ := hS
  obtain ⟨M16, M15, M17, MI, MA, M7, M18, MB, ME⟩ := hM
  have hb1 := l1.2.2
  have hb7 := s1.2.2
  have hp7 := s1.p3
  unfold Bg at hb1 hb7
  rw [x15] at s12
  have hcc := s12.c
  have hbd := s12.un.1
  unfold Bd at hbd
  have hs00 : 0 ≤ gI σ0 9 ∧ gI σ0 9 < 690 := by grind
  have hn00 : 0 ≤ gI μ0 9 ∧ gI μ0 9 < 2100 := by grind
  have hc8 := c_of1 hcc.1 s13 hb7.2.2.2.2.2.2.2.2.1
  have hnne : ∀ i, 0 ≤ i → ¬ i = gI μ0 9 → ¬ i.toNatClampNeg = (gI μ0 9).toNatClampNeg := fun i p w q => w ((i_inj p hn00.1).mp q)
  have hcne : ∀ i, 0 ≤ i → ¬ i = c0 → ¬ i.toNatClampNeg = c0.toNatClampNeg := fun i p w q => w ((i_inj p hcc.1).mp q)
  have hGm : Gm 1 1 σ0 S μ0 M := by
    have g2 := hG.tr gs7
    have i8 := iv_a1 S8 (by grind) (by grind)
    have i9 := iv_eq (SI 9 (by decide) (by decide) (by decide))
    have i10 := iv_eq (SI 10 (by decide) (by decide) (by decide))
    have i13 := iv_eq (SI 13 (by decide) (by decide) (by decide))
    have i18 := iv_eq (SI 18 (by decide) (by decide) (by decide))
    have m9 := iv_eq (MI 9 (by decide) (by decide) (by decide) (by decide))
    have m10 := iv_eq (MI 10 (by decide) (by decide) (by decide) (by decide))
    unfold Gm at *
    omega
  have hFC := fC.tr s9 f8 f9 f10 (by grind) (by grind)
  have hFM := fM.tr s10 fm9 fm10
  have hPF := fP.tr ⟨u4, u5⟩ (by rw [x16]; grind) (by rw [x17]; exact Int32.le_refl _)
  have hEE := (fE.tr s4).tr SE
  have hRR := (fR.tr s5).tr ME
  have hSim : Sim S M := by
    obtain ⟨b1, b2, b3, b4, b5, b6, b7, b8, b9, b10, b11, b12, b13, b14, b15, b16, b17, b18, b19, b20, b21, b22, b23⟩ := hb7
    exact Sim.mk2 hs0 hW hEE hRR hGm (by decide) (by decide) (by rw [SI 11 (by decide) (by decide) (by decide)]; exact b1) (by rw [MI 7 (by decide) (by decide) (by decide) (by decide)]; exact b2) (by rw [SI 13 (by decide) (by decide) (by decide), MI 11 (by decide) (by decide) (by decide) (by decide)]; exact b3) (by rw [SI 13 (by decide) (by decide) (by decide)]; exact ⟨b4, b5⟩) (by rw [S14, M15, b6]) (by rw [S14, s7, x14]; grind) (by rw [S8]; grind) (by rw [SI 9 (by decide) (by decide) (by decide)]; exact b11) (by rw [SI 10 (by decide) (by decide) (by decide)]; exact b15) (by rw [MI 9 (by decide) (by decide) (by decide) (by decide)]; exact b17) (by rw [MI 10 (by decide) (by decide) (by decide) (by decide)]; exact b19) (by rw [S15, SI 9 (by decide) (by decide) (by decide)]; grind) (by rw [SI 18 (by decide) (by decide) (by decide)]; exact hp7.2)
  have ks := s9.2.1 (gI σ0 9) hs00.1 x9
  have kh := s9.2.1 (gI σ0 15) (by grind) (by grind)
  have kh0 := fC.2.1 (gI σ0 15) (by grind) (by grind)
  have kl := s10.1 (gI μ0 9) hn00.1 q9
  have hRt : TR S M (gI σ0 9) (gI σ 9) (gI σ7 9) (gI σ 10) (gI σ7 10) (gI N 9) (gI μ9 9) (gI σ 8) n9 c0 := by
    refine s12.st ⟨fun i p q => ?_, fun i p q => (SF i (by grind) (by grind)).2.2.2.2 (hcne i (by grind) (by grind)), fun i p q => ⟨Ssc _ _ (by decide), Ssc _ _ (by decide), Ssc _ _ (by decide), Ssc _ _ (by decide)⟩, fun i _ _ => Ssc _ _ (by decide), fun i _ _ => SB _ _, fun i _ _ => ⟨Ssc _ _ (by decide), Ssc _ _ (by decide), Ssc _ _ (by decide), SB _ _⟩, fun i p q => ?_, fun i _ _ _ => MA _ _ (by decide) (by decide), fun i _ _ => MB _ _, by rw [MI 10 (by decide) (by decide) (by decide) (by decide)]; exact Int32.le_refl _, SE.1 4 (by decide), fun i _ _ => congrFun (SE.2.2.1 2 (by decide)) _⟩
    · have x := SF i (by grind) (by grind)
      exact ⟨x.1, x.2.1, x.2.2.1, x.2.2.2.1⟩
    · refine ⟨MA _ _ (by decide) (by decide), MA _ _ (by decide) (by decide), MA _ _ (by decide) (by decide), MA _ _ (by decide) (by decide), ?_, MA _ _ (by decide) (by decide), MA _ _ (by decide) (by decide), MA _ _ (by decide) (by decide), MB _ _⟩
      rw [M7, if_neg (hnne i (by grind) (by grind))]
  have hR7 := hRG.fr (QBd_st (gI σ0 9)) s4 s9 s10 gs5 (Int32.le_refl _) (by grind) (Int32.le_refl _) (Int32.le_refl _) (Int32.le_refl _)
  have hi7 := hR7.2.2.2.2.2.2.2.2
  have hR8 : RG (QBd (gI σ0 9)) S M (gI σ0 9 + 1) (gI σ0 10) (gI μ0 9 + 1) (gI σ0 8) (gI μ0 9) (gI σ 9) (gI σ 10) (gI N 9) (gI σ 8) (-1) k g cc fs fu fn ft := by
    refine hR7.st (QBd_st (gI σ0 9)) (fun i hk => ?_) (fun i hk => ?_) (fun i hk => MA _ _ (by decide) (by decide)) (fun hk => ?_)
    · obtain ⟨d1, hbi, d2, d3, d4, d5, d6, d7, d8, d9, d10, d11, d12, d13⟩ := hi7 i hk
      unfold Bi at hbi
      refine ⟨fun x p q => ?_, fun x p q => (SF x (by grind) (by grind)).2.2.2.2 (hcne x (by grind) (by grind)), fun x p q => ⟨Ssc _ _ (by decide), Ssc _ _ (by decide), Ssc _ _ (by decide), Ssc _ _ (by decide)⟩, fun x _ _ => Ssc _ _ (by decide), fun x _ _ => SB _ _, fun x _ _ => ⟨Ssc _ _ (by decide), Ssc _ _ (by decide), Ssc _ _ (by decide), SB _ _⟩, fun x p q => ?_, fun x _ _ _ => MA _ _ (by decide) (by decide), fun x _ _ => MB _ _, by rw [MI 10 (by decide) (by decide) (by decide) (by decide)]; exact Int32.le_refl _, SE.1 4 (by decide), fun x _ _ => congrFun (SE.2.2.1 2 (by decide)) _⟩
      · have y := SF x (by grind) (by grind)
        exact ⟨y.1, y.2.1, y.2.2.1, y.2.2.2.1⟩
      · refine ⟨MA _ _ (by decide) (by decide), MA _ _ (by decide) (by decide), MA _ _ (by decide) (by decide), MA _ _ (by decide) (by decide), ?_, MA _ _ (by decide) (by decide), MA _ _ (by decide) (by decide), MA _ _ (by decide) (by decide), MB _ _⟩
        rw [M7, if_neg (hnne x (by grind) (by grind))]
    · obtain ⟨d1, hbi, d2, d3, d4, d5, d6, d7, d8, d9, d10, d11, d12, d13⟩ := hi7 i hk
      unfold Bi at hbi
      exact (SF (cc i) (by grind) (by grind)).2.2.2.2 (hcne _ (by grind) (by grind))
    · obtain ⟨d1, hbi, d2, d3, d4, d5, d6, d7, d8, d9, d10, d11, d12, d13⟩ := hi7 (k - 1) (by omega)
      rw [if_neg (by omega)] at d12
      rw [MA _ _ (by decide) (by decide)]; exact d12
  have hnm : ∀ i, i < k → xB S 3 (gI σ0 9 * 5 + nI i) = xB M 0 (g i) := by
    intro i hi
    obtain ⟨r1, r2, r3, r4⟩ := nrow i hi
    obtain ⟨d1, hbi, d2, d3, d4, d5, d6, d7, d8, d9, d10, d11, d12, d13⟩ := hi7 i hi
    unfold Bi at hbi
    have hk5 : 0 ≤ nI i ∧ nI i < 5 := ⟨i_le0 (nI_nneg (by omega)), (nI_lt31 (b := 5) (by omega) (by omega)).mpr (by omega)⟩
    have h50 := s5_rg (s := gI σ0 9) (i := i) hs00.1 (by grind) (by omega)
    have f1 := five_lt (s' := gI σ 9) hs00.1 x9 (by grind) hk5.1 hk5.2
    rw [SB, s9.2.2.1 _ h50.1 f1.2, MB, (s10.1 (g i) r1 (by grind)).2.2.2.2.2.2.2.2.2]
    exact r4
  have hrow := hR8.rowP (P := TBind S M (TR S M) (gI σ0 9)) (fun i hi q => q.name (hnm i hi))
  rw [if_pos (by omega)] at n3
  refine ⟨hSim, by rw [MI 19 (by decide) (by decide) (by decide) (by decide)]; exact s2, ⟨by rw [M16, u1, x16]; grind, M17, by rw [M18, if_pos rfl], fun i p q => ?_, fun i p q => ?_⟩, hEE, hRR, ?_, by rw [S14, s7, x14]; grind, S15, ?_, ?_, ?_, ?_, S8.symm, r17, ?_⟩
  · rw [MA 14 _ (by decide) (by decide), MA 15 _ (by decide) (by decide), MA 16 _ (by decide) (by decide), MA 17 _ (by decide) (by decide)]
    exact hPF.1 i p q
  · rw [M18, if_neg (i_ne p q)]
    exact hPF.2 i p q
  · rw [MI 12 (by decide) (by decide) (by decide) (by decide), MI 11 (by decide) (by decide) (by decide) (by decide), s6, f12]
  · obtain ⟨f1, f2, f3, f4⟩ := hFC
    refine ⟨fun i p q => ?_, fun i p q => ?_, fun i p q => (SB _ _).trans (f3 i p q), fun i p q => ?_⟩
    · have x := SF i p (by grind)
      have y := f1 i p q
      exact ⟨x.1.trans y.1, x.2.1.trans y.2.1, x.2.2.1.trans y.2.2.1, x.2.2.2.1.trans y.2.2.2.1, (x.2.2.2.2 (hcne i p (by grind))).trans y.2.2.2.2⟩
    · rw [Ssc 20 _ (by decide), Ssc 21 _ (by decide), Ssc 22 _ (by decide), Ssc 23 _ (by decide), Ssc 24 _ (by decide)]
      exact f2 i p q
    · rw [Ssc 27 _ (by decide), Ssc 28 _ (by decide), Ssc 29 _ (by decide), SB]
      exact f4 i p q
  · obtain ⟨f1, f2⟩ := hFM
    refine ⟨fun i p q => ?_, fun i p q => (MB _ _).trans (f2 i p q)⟩
    rw [MA 2 _ (by decide) (by decide), MA 3 _ (by decide) (by decide), MA 4 _ (by decide) (by decide), MA 5 _ (by decide) (by decide), MA 6 _ (by decide) (by decide), M7, if_neg (hnne i p (by grind)), MA 8 _ (by decide) (by decide), MA 9 _ (by decide) (by decide), MA 10 _ (by decide) (by decide), MB]
    exact f1 i p q
  · exact ⟨by rw [S8]; grind, by rw [SI 9 (by decide) (by decide) (by decide)]; grind, by rw [SI 10 (by decide) (by decide) (by decide)]; grind, by rw [MI 9 (by decide) (by decide) (by decide) (by decide)]; grind, by rw [MI 10 (by decide) (by decide) (by decide) (by decide)]; grind, by rw [SI 18 (by decide) (by decide) (by decide)]; grind, hGm⟩
  · rw [SI 9 (by decide) (by decide) (by decide), SI 10 (by decide) (by decide) (by decide), MI 9 (by decide) (by decide) (by decide) (by decide)]
    refine TR.fold ⟨?_, Or.inr (Or.inr (Or.inr (Or.inr (Or.inr (Or.inl ⟨?_, ?_, rfl, r13, r15, ?_, ?_, by grind, k, gI σ 9, gI σ 10, gI N 9, gI σ 8, c0, hk1, n5, ?_, r16, s13.symm, ?_, by grind, f10, by grind, f8, ?_, ?_⟩)))))⟩
    · unfold Bd
      grind
    · rw [MA 2 _ (by decide) (by decide), kl.1]; exact z2
    · rw [MA 10 _ (by decide) (by decide), kl.2.2.2.2.2.2.2.2.1]; exact z10
    · rw [Ssc 21 _ (by decide), ks.2.1]; exact y1
    · rw [Ssc 22 _ (by decide), Ssc 22 _ (by decide), ks.2.2.1, kh.2.2.1, kh0.2.2.1]; exact y2
    · rw [Ssc 20 _ (by decide), ks.1]; exact n20
    · rw [MA 3 _ (by decide) (by decide), kl.2.1, n3, Sc0 hc8]; exact hrow
    · rw [M7, if_pos rfl]; exact hRt
    · unfold Wi
      grind
  · rw [MA 5 _ (by decide) (by decide), kl.2.2.2.1]; exact z5
