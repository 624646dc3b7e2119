theorem gv_rg {a b i j : Int32} (h0 : 0 ≤ a) (h1 : a ≤ 3100) (hg : a + j = b) (i0 : 0 ≤ i) (i1 : i < j) (hj : j ≤ 5) : 0 ≤ a + i ∧ a + i < b := by
  subst hg
  grind
/-- the class's nodes stay -/
def FrC13 (σ S : S5) : Prop := ∀ i, 0 ≤ i → i < gI σ 8 → xA S 13 i = xA σ 13 i ∧ xA S 14 i = xA σ 14 i ∧ xA S 15 i = xA σ 15 i ∧ xA S 16 i = xA σ 16 i ∧ xA S 17 i = xA σ 17 i
/-- the class's state behind a lambda -/
def FS (σ7 S : S5) (s c h : Int32) : Prop := gI S 8 = gI σ7 8 + 1 ∧ gI S 14 = gI σ7 14 - 1 ∧ gI S 15 = h ∧ (∀ k, ¬ k = 8 → ¬ k = 14 → ¬ k = 15 → gI S k = gI σ7 k) ∧ (xA S 13 (gI σ7 8) = 14 ∧ xA S 14 (gI σ7 8) = s ∧ xA S 16 (gI σ7 8) = -1 ∧ xA S 17 (gI σ7 8) = -1) ∧ FrC13 σ7 S ∧ (∀ k i, 20 ≤ k → ¬ k = 23 → xA S k i = xA σ7 k i) ∧ (∀ i : Int32, xA S 23 i = if i.toNatClampNeg = s.toNatClampNeg then c else xA σ7 23 i) ∧ (∀ k i, xB S k i = xB σ7 k i) ∧ EqE σ7 S
theorem fs_of (σ7 : S5) (s c h : Int32) : FS σ7 (pI (cN (pA (pI σ7 15 h) 23 s c) 14 s 0 (-1)) 14 (gI σ7 14 - 1)) s c h := by
  have hr := cN_row (pA (pI σ7 15 h) 23 s c) 14 s 0 (-1)
  rw [show gI (pA (pI σ7 15 h) 23 s c) 8 = gI σ7 8 from rfl] at hr
  refine ⟨rfl, rfl, rfl, fun k h1 h2 h3 => ?_, ⟨hr.1, hr.2.1, hr.2.2.2.1, hr.2.2.2.2⟩, fun i p q => (FrC.N (pA (pI σ7 15 h) 23 s c) 14 s 0 (-1)).1 i p q, fun k i h1 h2 => ?_, fun i => ?_, fun k i => rfl, (((((EqE.rf σ7).I (by decide)).A (by decide)).N).I (by decide))⟩
  · rw [gI_pI, if_neg h2]
    unfold cN
    rw [gI_pI, if_neg h1, gI_pA, gI_pA, gI_pA, gI_pA, gI_pA, gI_pA, gI_pI, if_neg h3]
  · rw [xA_pI]
    unfold cN
    simp only [xA_pI, xA_pA]
    rw [if_neg (by omega), if_neg (by omega), if_neg (by omega), if_neg (by omega), if_neg (by omega), if_neg (by omega)]
  · rw [xA_pI]
    unfold cN
    simp [xA_pI, xA_pA]
/-- the reference's -/
def FM (μ9 M : S5) (n n9 O : Int32) : Prop := gI M 16 = gI μ9 16 - 1 ∧ gI M 15 = gI μ9 15 - 1 ∧ gI M 17 = O + 1 ∧ (∀ k, ¬ k = 15 → ¬ k = 16 → ¬ k = 17 → ¬ k = 21 → gI M k = gI μ9 k) ∧ (∀ k i, ¬ k = 3 → ¬ k = 18 → xA M k i = xA μ9 k i) ∧ (∀ i : Int32, xA M 3 i = if i.toNatClampNeg = n.toNatClampNeg then n9 else xA μ9 3 i) ∧ (∀ i : Int32, xA M 18 i = if i.toNatClampNeg = O.toNatClampNeg then n else xA μ9 18 i) ∧ (∀ k i, xB M k i = xB μ9 k i) ∧ EqR μ9 M
/-- the reference closes an E -/
def mCl (μ : S5) (n : Int32) : S5 := pI (mO (pI (pI μ 16 (gI μ 16 - 1)) 15 (gI μ 15 - 1)) n) 21 1
theorem m_close {μ : S5} (n : Int32) (h0 : 0 ≤ gI μ 17) (h1 : gI μ 17 < 3200) : f_X12_close n μ = some ((), mCl μ n) := by
  unfold f_X12_close
  rw [mO_eq (μ := pI (pI μ 16 (gI μ 16 - 1)) 15 (gI μ 15 - 1)) n h0 h1, bd_of]
  rfl
theorem fm_cl {μ9 : S5} (n n9 : Int32) {O : Int32} (hO : gI μ9 17 - 1 = O) : FM μ9 (mCl (pA (pI μ9 17 (gI μ9 17 - 1)) 3 n n9) n) n n9 O := by
  have e17 : gI (pI (pI (pA (pI μ9 17 (gI μ9 17 - 1)) 3 n n9) 16 (gI (pA (pI μ9 17 (gI μ9 17 - 1)) 3 n n9) 16 - 1)) 15 (gI (pA (pI μ9 17 (gI μ9 17 - 1)) 3 n n9) 15 - 1)) 17 = O := hO
  refine ⟨rfl, rfl, ?_, fun k h1 h2 h3 h4 => ?_, fun k i h1 h2 => ?_, fun i => ?_, fun i => ?_, fun k i => rfl, ?_⟩
  · show gI μ9 17 - 1 + 1 = O + 1
    rw [hO]
  · unfold mCl
    rw [gI_pI, if_neg h4, gI_mO h3, gI_pI, if_neg h1, gI_pI, if_neg h2, gI_pA, gI_pI, if_neg h3]
  · unfold mCl
    rw [xA_pI, xA_mO h2, xA_pI, xA_pI, xA_pA, if_neg (fun w => h1 w.1), xA_pI]
  · unfold mCl
    rw [xA_pI, xA_mO (by decide), xA_pI, xA_pI, xA_pA, xA_pI]
    simp
  · unfold mCl mO
    rw [xA_pI, xA_pI, e17]
    simp [xA_pI, xA_pA]
  · exact (((((((EqR.rf μ9).I (by decide)).A (by decide)).I (by decide)).I (by decide)).O).I (by decide))
theorem Wd.Cl {σ μ : S5} {n n9 v : Int32} (h : Wd σ μ) : Wd σ (mCl (pA (pI μ 17 v) 3 n n9) n) := h
theorem Wd.FS {σ μ : S5} {s c h v : Int32} (w : Wd σ μ) : Wd (pI (cN (pA (pI σ 15 h) 23 s c) 14 s 0 (-1)) 14 v) μ := w
theorem la_gen {σ0 μ0 σ6 μ8 σ7 μ9 S M : S5} {c n9 : Int32} {j : Nat} (hs0 : Sim σ0 μ0) (hz : Pz 0 σ0 μ0) (hL : LH 2 4 σ0 μ0 σ6 μ8 j) (hC : Cor (pI σ6 15 (gI σ0 9)) μ8 c σ7 μ9 n9) (hS : FS σ7 S (gI σ0 9) c (gI σ0 15)) (hM : FM μ9 M (gI μ0 9) n9 (gI μ0 17)) (hW : Wd S M) : Cor σ0 μ0 (gI σ7 8) S M (gI μ0 9) := by
  have hb0 := hs0.2.2
  have hbm0 := hs0.bm
  unfold Bg at hb0
  obtain ⟨h160, h161, h170, h171⟩ := hz.rg hb0.2.2.2.2.2.2.2.1 (by decide)
  obtain ⟨l1, lE, lR, lFC, lFM, lPF, l12, ⟨x8, x9, x10, x14, x15, x18⟩, ⟨q9, q10, q16, q17, q18, q19⟩, ⟨y1, y2, y3⟩, ⟨nm, nj, ng⟩, ⟨z1, z2, z3⟩, ⟨p14, p15⟩, lG⟩ := hL
  obtain ⟨s1, s2, ⟨u1, u2, u3, u4, u5⟩, s4, s5, s6, s7, s8, s9, s10, s11, s12, s13, s14, s15⟩ := hC
  have s7' : gI σ7 14 = gI σ6 14 := s7
  have s9' : FrC σ6 σ7 := s9
  have s4' : EqE σ6 σ7 := ((EqE.rf σ6).I (by decide)).tr s4
  have s12' : TR σ7 μ9 (gI σ0 9) (gI σ6 9) (gI σ7 9) (gI σ6 10) (gI σ7 10) (gI μ8 9) (gI μ9 9) (gI σ6 8) n9 c := s12
  have s11' : Gr σ6 σ7 μ8 μ9 := s11
  rw [x9, x10, q9, x8] at s12'
  obtain ⟨gs1, gs2, gs3, gs4, gs5, gs6, gs7⟩ := s11'
  rw [x8] at gs1
  rw [x9] at gs2
  rw [x10] at gs3
  rw [q9] at gs4
  have hb7 := s1.2.2
  have hp7 := s1.p3
  unfold Bg at hb7
  obtain ⟨S8, S14, S15, SI, ⟨r13, r14, r16, r17⟩, SF, Ssc, S23, SB, SE⟩ := hS
  obtain ⟨M16, M15, M17, MI, MA, M3, M18, MB, ME⟩ := hM
  have hcc := s12'.c
  have hbd := s12'.un.1
  unfold Bd at hbd
  have hs00 : 0 ≤ gI σ0 9 ∧ gI σ0 9 ≤ 630 := by grind
  have hn00 : 0 ≤ gI μ0 9 ∧ gI μ0 9 ≤ 2100 := by grind
  have hsne : ∀ i, 0 ≤ i → ¬ i = gI σ0 9 → ¬ i.toNatClampNeg = (gI σ0 9).toNatClampNeg := fun i p w v => w ((i_inj p hs00.1).mp v)
  have hnne : ∀ i, 0 ≤ i → ¬ i = gI μ0 9 → ¬ i.toNatClampNeg = (gI μ0 9).toNatClampNeg := fun i p w v => w ((i_inj p hn00.1).mp v)
  have hGm : Gm 1 1 σ0 S μ0 M := by
    have g2 := lG.tr gs7
    have i8 := iv_a1 S8 (by grind) (by grind)
    have i9 := iv_eq (SI 9 (by decide) (by decide) (by decide))
    have i10 := iv_eq (SI 10 (by decide) (by decide) (by decide))
    have i13 := iv_eq (SI 13 (by decide) (by decide) (by decide))
    have i18 := iv_eq (SI 18 (by decide) (by decide) (by decide))
    have m9 := iv_eq (MI 9 (by decide) (by decide) (by decide) (by decide))
    have m10 := iv_eq (MI 10 (by decide) (by decide) (by decide) (by decide))
    unfold Gm at *
    omega
  have hFC := lFC.tr s9' (by grind) (by grind) (by grind) (by grind) (by grind)
  have hFM := lFM.tr s10 (by grind) (by grind)
  have hRt : TR S M (gI σ0 9) (gI σ0 9 + 1) (gI σ7 9) (gI σ0 10) (gI σ7 10) (gI μ0 9 + 1) (gI μ9 9) (gI σ0 8) n9 c := by
    refine s12'.st ⟨fun i p q => ?_, fun i p q => (SF i (by grind) (by grind)).2.2.2.2, fun i p q => ⟨Ssc _ _ (by decide) (by decide), Ssc _ _ (by decide) (by decide), ?_, Ssc _ _ (by decide) (by decide)⟩, fun i _ _ => Ssc _ _ (by decide) (by decide), fun i _ _ => SB _ _, fun i _ _ => ⟨Ssc _ _ (by decide) (by decide), Ssc _ _ (by decide) (by decide), Ssc _ _ (by decide) (by decide), SB _ _⟩, fun i p q => ?_, fun i _ _ _ => MA _ _ (by decide) (by decide), fun i _ _ => MB _ _, by rw [MI 10 (by decide) (by decide) (by decide) (by decide)]; grind, SE.1 4 (by decide), fun i _ _ => congrFun (SE.2.2.1 2 (by decide)) _⟩
    · have x := SF i (by grind) (by grind)
      exact ⟨x.1, x.2.1, x.2.2.1, x.2.2.2.1⟩
    · rw [S23, if_neg (hsne i (by grind) (by grind))]
    · refine ⟨MA _ _ (by decide) (by decide), ?_, MA _ _ (by decide) (by decide), MA _ _ (by decide) (by decide), MA _ _ (by decide) (by decide), MA _ _ (by decide) (by decide), MA _ _ (by decide) (by decide), MA _ _ (by decide) (by decide), MB _ _⟩
      rw [M3, if_neg (hnne i (by grind) (by grind))]
  have k2 := s9'.2.1 (gI σ0 9) hs00.1 (by rw [x9]; grind)
  have k3 := s10.1 (gI μ0 9) hn00.1 (by rw [q9]; grind)
  have hNs : TNames S M (gI σ0 9) (gI μ0 9) := by
    obtain ⟨n1, n2, n3, n4, n5, n6⟩ := nm
    have hj5 : 0 ≤ nI j ∧ nI j ≤ 5 := ⟨i_le0 (nI_nneg (by omega)), (nI_le31 (b := 5) (by omega) (by omega)).mpr n1⟩
    have e10 : xA M 10 (gI μ0 9) = nI j := by rw [MA 10 _ (by decide) (by decide), k3.2.2.2.2.2.2.2.2.1]; exact n3
    have e9 : xA M 9 (gI μ0 9) = xA μ8 9 (gI μ0 9) := by rw [MA 9 _ (by decide) (by decide)]; exact k3.2.2.2.2.2.2.2.1
    have e20 : xA S 20 (gI σ0 9) = nI j := by rw [Ssc 20 _ (by decide) (by decide), k2.1]; exact n2
    refine ⟨by rw [e20, e10], by rw [e10]; exact hj5.1, by rw [e10]; exact hj5.2, by rw [e9]; exact n4, ?_, by rw [e9]; grind, fun i i0 i1 => ?_⟩
    · rw [e9, e10, ng, MI 10 (by decide) (by decide) (by decide) (by decide)]; exact gs5
    · rw [e10] at i1
      have hi := nI_tn i0
      have i1' := i1
      have hlt : i.toNatClampNeg < j := by
        rw [hi] at i1
        exact (nI_lt31 (by have := i_lt (not_neg i0) (by grind : i < 10); rw [show (10 : Int32).toNatClampNeg = 10 from rfl] at this; omega) (by omega)).mp i1
      have h6 := n6 i.toNatClampNeg hlt
      rw [← hi] at h6
      have hg0 : 0 ≤ xA μ8 9 (gI μ0 9) + i ∧ xA μ8 9 (gI μ0 9) + i < gI μ8 10 := gv_rg n4 n5 ng i0 i1' hj5.2
      have f5 := five_lt (s := gI σ0 9) (s' := gI σ0 9 + 1) hs00.1 (by grind) (by grind) i0 (by grind)
      have f50 := (s5_rg (s := gI σ0 9) (i := 0) hs00.1 (by grind) (by omega)).1
      rw [show nI 0 = 0 from rfl, Int32.add_zero] at f50
      rw [SB, e9, MB, s9'.2.2.1 (gI σ0 9 * 5 + i) (i_trans f50 f5.1) (by rw [x9]; exact f5.2), s10.2 _ hg0.1 hg0.2]
      exact h6
  refine ⟨⟨hW, Ct_eq s1.2.1 SE ME, ?_⟩, by rw [MI 19 (by decide) (by decide) (by decide) (by decide)]; exact s2, ⟨by rw [M16, u1, q16]; grind, M17, by rw [M18, if_pos rfl], fun i p q => ?_, fun i p q => ?_⟩, (lE.tr s4').tr SE, (lR.tr s5).tr ME, ?_, by rw [S14, s7', x14]; grind, S15, ?_, ?_, ?_, ?_, S8.symm, r17, ?_⟩
  · obtain ⟨b1, b2, b3, b4, b5, b6, b7, b8, b9, b10, b11, b12, b13, b14, b15, b16, b17, b18, b19, b20, b21, b22, b23⟩ := hb7
    exact Bg_mk (by rw [SI 11 (by decide) (by decide) (by decide)]; exact b1) (by rw [MI 7 (by decide) (by decide) (by decide) (by decide)]; exact b2) (by rw [SI 13 (by decide) (by decide) (by decide), MI 11 (by decide) (by decide) (by decide) (by decide)]; exact b3) (by rw [SI 13 (by decide) (by decide) (by decide)]; exact b4) (by rw [SI 13 (by decide) (by decide) (by decide)]; exact b5) (by rw [S14, M15, b6]) (by rw [S14, s7', x14]; grind) (by rw [S14, s7', x14]; grind) (by rw [S8]; grind) (by rw [SI 9 (by decide) (by decide) (by decide)]; exact b11) (by rw [SI 5 (by decide) (by decide) (by decide)]; exact b13) (by rw [SI 5 (by decide) (by decide) (by decide)]; exact b14) (by rw [SI 10 (by decide) (by decide) (by decide)]; exact b15) (by rw [MI 9 (by decide) (by decide) (by decide) (by decide)]; exact b17) (by rw [MI 10 (by decide) (by decide) (by decide) (by decide)]; exact b19) (by rw [S15]; grind) (by rw [S15, SI 9 (by decide) (by decide) (by decide)]; grind) (by rw [SI 18 (by decide) (by decide) (by decide)]; exact hp7.2) (hbm0.gr hGm (by decide) (by decide) ((((lE.tr s4').tr SE)).1 5 (by decide)))
  · have w1 := u4 i p (by rw [q16]; grind)
    have w2 := lPF.1 i p q
    rw [MA 14 _ (by decide) (by decide), MA 15 _ (by decide) (by decide), MA 16 _ (by decide) (by decide), MA 17 _ (by decide) (by decide)]
    exact ⟨w1.1.trans w2.1, w1.2.1.trans w2.2.1, w1.2.2.1.trans w2.2.2.1, w1.2.2.2.trans w2.2.2.2⟩
  · rw [M18, if_neg (i_ne p q), u5 i p (by rw [q17]; exact q)]
    exact lPF.2 i p q
  · rw [MI 12 (by decide) (by decide) (by decide) (by decide), MI 11 (by decide) (by decide) (by decide) (by decide), s6, l12]
  · obtain ⟨f1, f2, f3, f4⟩ := hFC
    refine ⟨fun i p q => ?_, fun i p q => ?_, fun i p q => (SB _ _).trans (f3 i p q), fun i p q => ?_⟩
    · have x := SF i p (by grind)
      have y := f1 i p q
      exact ⟨x.1.trans y.1, x.2.1.trans y.2.1, x.2.2.1.trans y.2.2.1, x.2.2.2.1.trans y.2.2.2.1, x.2.2.2.2.trans y.2.2.2.2⟩
    · rw [Ssc 20 _ (by decide) (by decide), Ssc 21 _ (by decide) (by decide), Ssc 22 _ (by decide) (by decide), Ssc 24 _ (by decide) (by decide), S23, if_neg (hsne i p (by grind))]
      exact f2 i p q
    · rw [Ssc 27 _ (by decide) (by decide), Ssc 28 _ (by decide) (by decide), Ssc 29 _ (by decide) (by decide), SB]
      exact f4 i p q
  · obtain ⟨f1, f2⟩ := hFM
    refine ⟨fun i p q => ?_, fun i p q => (MB _ _).trans (f2 i p q)⟩
    rw [MA 2 _ (by decide) (by decide), M3, if_neg (hnne i p (by grind)), MA 4 _ (by decide) (by decide), MA 5 _ (by decide) (by decide), MA 6 _ (by decide) (by decide), MA 7 _ (by decide) (by decide), MA 8 _ (by decide) (by decide), MA 9 _ (by decide) (by decide), MA 10 _ (by decide) (by decide), MB]
    exact f1 i p q
  · exact ⟨by rw [S8]; grind, by rw [SI 9 (by decide) (by decide) (by decide)]; grind, by rw [SI 10 (by decide) (by decide) (by decide)]; grind, by rw [MI 9 (by decide) (by decide) (by decide) (by decide)]; grind, by rw [MI 10 (by decide) (by decide) (by decide) (by decide)]; grind, by rw [SI 18 (by decide) (by decide) (by decide)]; grind, hGm⟩
  · rw [SI 9 (by decide) (by decide) (by decide), SI 10 (by decide) (by decide) (by decide), MI 9 (by decide) (by decide) (by decide) (by decide)]
    have hj0 : 0 < nI j := (nI_lt31 (a := 0) (b := j) (by omega) (by have := nm.1; omega)).mpr (by omega)
    refine TR.fold ⟨?_, Or.inr (Or.inr (Or.inr (Or.inr (Or.inl ⟨?_, rfl, r13, r14, r16, ?_, ?_, ?_, hNs, ?_, by grind, c, ?_, ?_, ?_, ?_, s13.symm⟩))))⟩
    · unfold Bd
      grind
    · rw [MA 2 _ (by decide) (by decide)]; exact k3.1.trans z1
    · rw [Ssc 21 _ (by decide) (by decide), k2.2.1]; exact y1
    · rw [Ssc 22 _ (by decide) (by decide), k2.2.2.1]; exact y2
    · rw [Ssc 24 _ (by decide) (by decide), k2.2.2.2.2, y3, MA 6 _ (by decide) (by decide), k3.2.2.2.2.1]; exact z3.symm
    · rw [MA 10 _ (by decide) (by decide), k3.2.2.2.2.2.2.2.2.1, nm.2.2.1]; exact hj0
    · rw [S23, if_pos rfl]
    · rw [(SF c hcc.1 (by grind)).2.2.2.2]; exact s14
    · rw [M3, if_pos rfl]; exact hRt
    · unfold Wi
      grind
  · rw [MA 5 _ (by decide) (by decide), k3.2.2.2.1]; exact z2
