/-- the class's state behind a function that is lifted -/
def FS2 (σ7 S : S5) (s c h : Int32) : Prop := gI S 8 = gI σ7 8 + 1 ∧ gI S 15 = h ∧ (∀ k, ¬ k = 8 → ¬ k = 15 → gI S k = gI σ7 k) ∧ (xA S 13 (gI σ7 8) = 14 ∧ xA S 14 (gI σ7 8) = s ∧ xA S 16 (gI σ7 8) = -1 ∧ xA S 17 (gI σ7 8) = -1) ∧ FrC13 σ7 S ∧ (∀ k i, 20 ≤ k → ¬ k = 23 → xA S k i = xA σ7 k i) ∧ (∀ i : Int32, xA S 23 i = if i.toNatClampNeg = s.toNatClampNeg then c else xA σ7 23 i) ∧ (∀ k i, xB S k i = xB σ7 k i) ∧ EqE σ7 S
theorem fs2_of (σ7 : S5) (s c h : Int32) : FS2 σ7 (cN (pA (pI σ7 15 h) 23 s c) 14 s 0 (-1)) s c h := by
  have hr := cN_row (pA (pI σ7 15 h) 23 s c) 14 s 0 (-1)
  rw [show gI (pA (pI σ7 15 h) 23 s c) 8 = gI σ7 8 from rfl] at hr
  refine ⟨rfl, rfl, fun k h1 h3 => ?_, ⟨hr.1, hr.2.1, hr.2.2.2.1, hr.2.2.2.2⟩, fun i p q => (FrC.N (pA (pI σ7 15 h) 23 s c) 14 s 0 (-1)).1 i p q, fun k i h1 h2 => ?_, fun i => ?_, fun k i => rfl, (((EqE.rf σ7).I (by decide)).A (by decide)).N⟩
  · unfold cN
    rw [gI_pI, if_neg h1, gI_pA, gI_pA, gI_pA, gI_pA, gI_pA, gI_pA, gI_pI, if_neg h3]
  · unfold cN
    simp only [xA_pI, xA_pA]
    rw [if_neg (by omega), if_neg (by omega), if_neg (by omega), if_neg (by omega), if_neg (by omega), if_neg (by omega)]
  · unfold cN
    simp [xA_pI, xA_pA]
theorem wd_FS2 {σ μ : S5} {s c h : Int32} (w : Wd σ μ) : Wd (cN (pA (pI σ 15 h) 23 s c) 14 s 0 (-1)) μ := w
/-- the names of a scope, when its E has been read too -/
theorem tn_of {σ6 N S M : S5} {s v : Int32} {j : Nat} (nm : NM σ6 N s v j) (ng : xA N 9 v + nI j = gI N 10) (hs0 : 0 ≤ s) (hs1 : s < 690) (e10 : xA M 10 v = xA N 10 v) (e9 : xA M 9 v = xA N 9 v) (e20 : xA S 20 s = xA σ6 20 s) (hB : ∀ i, 0 ≤ i → i < (s + 1) * 5 → xB S 3 i = xB σ6 3 i) (hM : ∀ i, 0 ≤ i → i < gI N 10 → xB M 1 i = xB N 1 i) (hg : gI N 10 ≤ gI M 10) : TNames S M s v := by
  obtain ⟨n1, n2, n3, n4, n5, n6⟩ := nm
  have hj5 : 0 ≤ nI j ∧ nI j ≤ 5 := ⟨i_le0 (nI_nneg (by omega)), (nI_le31 (b := 5) (by omega) (by omega)).mpr n1⟩
  rw [n3] at e10
  rw [n2] at e20
  refine ⟨by rw [e20, e10], by rw [e10]; exact hj5.1, by rw [e10]; exact hj5.2, by rw [e9]; exact n4, by rw [e9, e10, ng]; exact hg, by rw [e9]; grind, fun i i0 i1 => ?_⟩
  rw [e10] at i1
  have hi := nI_tn i0
  have i1' := i1
  have hlt : i.toNatClampNeg < j := by
    rw [hi] at i1
    exact (nI_lt31 (by have := i_lt (not_neg i0) (by grind : i < 10); rw [show (10 : Int32).toNatClampNeg = 10 from rfl] at this; omega) (by omega)).mp i1
  have h6 := n6 i.toNatClampNeg hlt
  rw [← hi] at h6
  have hg0 : 0 ≤ xA N 9 v + i ∧ xA N 9 v + i < gI N 10 := gv_rg n4 n5 ng i0 i1' hj5.2
  have f5 := five_lt (s := s) (s' := s + 1) hs0 (by grind) (by grind) i0 (by grind)
  have f50 := (s5_rg (s := s) (i := 0) hs0 (by grind) (by omega)).1
  rw [show nI 0 = 0 from rfl, Int32.add_zero] at f50
  rw [e9, hB _ (i_trans f50 f5.1) f5.2, hM _ hg0.1 hg0.2]
  exact h6
theorem b2_mid {σ0 μ0 σ1 μ1 σ6 N σ7 μ9 S M : S5} {k j : Nat} {v pl c n9 : Int32} {g cc fs fu fn ft : Nat → Int32} (h : LB σ0 μ0 σ1 μ1 k v pl g cc fs fu fn ft) (hH : BH2 0 1 2 σ1 μ1 σ6 N v pl pl (gI σ1 15) (gI σ1 9) j) (hj : 1 ≤ j) (hC : Cor (pI σ6 15 (gI σ1 9)) N c σ7 μ9 n9) (hS : FS2 σ7 S (gI σ1 9) c (gI σ1 15)) (hM : FB μ9 M v n9) (hW : Wd S M) (hvv : 0 ≤ v) (h160 : 0 ≤ gI μ1 16) (h161 : gI μ1 16 < 3100) (h170 : 0 ≤ gI μ1 17) (h171 : gI μ1 17 < 3100) : LM σ0 σ1 μ1 S M v (gI σ7 8) := by
  obtain ⟨l1, lF, ⟨x14, x15, x16, x17, x9, q9, q9'⟩, lp, ly, lz, ln, ⟨w2, w5, w6, w10⟩, lRG, lG⟩ := h
  obtain ⟨NS, SE6, NE, SC, NM', NP, N12, ⟨g8, g9, g10, g14, g15⟩, ⟨N9, N10, N16, N17, N18, N19⟩, ⟨y1, y2, y3⟩, ⟨nm, ng⟩, ⟨N2, N5, N6, N0, _, _⟩, ⟨t14, t15⟩, S18, hG6⟩ := hH
  obtain ⟨s1, s2, ⟨u1, u2, u3, u4, u5⟩, s4, s5, s6, s7, s8, s9, s10, s11, s12, s13, s14, s15⟩ := hC
  obtain ⟨M16, M17, MI, MA, M3, MB, ME, MJ⟩ := hM
  obtain ⟨S8, S15, SI, ⟨r13, r14, r16, r17⟩, SF, Ssc, S23, SB, SE⟩ := hS
  have s7' : gI σ7 14 = gI σ6 14 := s7
  have s9' : FrC σ6 σ7 := s9
  have s4' : EqE σ6 σ7 := ((EqE.rf σ6).I (by decide)).tr s4
  have s12' : TR σ7 μ9 (gI σ1 9) (gI σ6 9) (gI σ7 9) (gI σ6 10) (gI σ7 10) (gI N 9) (gI μ9 9) (gI σ6 8) n9 c := s12
  have s11' : Gr σ6 σ7 N μ9 := s11
  obtain ⟨gs1, gs2, gs3, gs4, gs5, gs6, gs7⟩ := s11'
  have hb1 := l1.2.2
  have hb7 := s1.2.2
  have hp7 := s1.p3
  unfold Bg at hb1 hb7
  have hv0 : 0 ≤ v ∧ v < 2100 := ⟨hvv, by have := hb1.2.2.2.2.2.2.2.2.2.2.2.2.2.2.2.2.2.1; rw [q9'] at this; grind⟩
  have hs00 : 0 ≤ gI σ1 9 ∧ gI σ1 9 < 690 := by grind
  rw [g8] at gs1
  rw [g9] at gs2
  rw [g10] at gs3
  rw [N9] at gs4
  rw [g9, g10, N9, g8] at s12'
  have hcc := s12'.c
  have hbd := s12'.un.1
  unfold Bd at hbd
  have hsne : ∀ i, 0 ≤ i → ¬ i = gI σ1 9 → ¬ i.toNatClampNeg = (gI σ1 9).toNatClampNeg := fun i p w q => w ((i_inj p hs00.1).mp q)
  have hvne : ∀ i, 0 ≤ i → ¬ i = v → ¬ i.toNatClampNeg = v.toNatClampNeg := fun i p w q => w ((i_inj p hv0.1).mp q)
  have kv := s10.1 v hv0.1 (by rw [N9]; grind)
  have hFM9 := NM'.tr s10 (show v ≤ gI N 9 by rw [N9]; grind) N10
  obtain ⟨f1, f2⟩ := hFM9.of9
  have hPF : PF μ1 μ9 := NP.tr ⟨u4, u5⟩ (by rw [N16]; grind) (by rw [N17]; exact Int32.le_refl _)
  have hFC : FrC σ1 σ7 := SC.tr s9' (by rw [g8]; exact Int32.le_refl _) (by rw [g9]; grind) (by rw [g10]; exact Int32.le_refl _) (by grind) (by rw [g9]; grind)
  have hc8 := c_of1 hcc.1 s13 hb7.2.2.2.2.2.2.2.2.1
  have hGm : Gm 1 0 σ1 S μ1 M := by
    have g2 := hG6.tr gs7
    have i8 := iv_a1 S8 (by grind) (by grind)
    have i9 := iv_eq (SI 9 (by decide) (by decide))
    have i10 := iv_eq (SI 10 (by decide) (by decide))
    have i13 := iv_eq (SI 13 (by decide) (by decide))
    have i18 := iv_eq (SI 18 (by decide) (by decide))
    have m9 := iv_eq (MI 9 (by decide) (by decide))
    have m10 := iv_eq (MI 10 (by decide) (by decide))
    unfold Gm at *
    omega
  have hRt : TR S M (gI σ1 9) (gI σ1 9 + 1) (gI σ7 9) (gI σ1 10) (gI σ7 10) (v + 1) (gI μ9 9) (gI σ1 8) n9 c := by
    refine s12'.st ⟨fun i p q => ?_, fun i p q => (SF i (by grind) (by grind)).2.2.2.2, fun i p q => ⟨Ssc _ _ (by decide) (by decide), Ssc _ _ (by decide) (by decide), ?_, Ssc _ _ (by decide) (by decide)⟩, fun i _ _ => Ssc _ _ (by decide) (by decide), fun i _ _ => SB _ _, fun i _ _ => ⟨Ssc _ _ (by decide) (by decide), Ssc _ _ (by decide) (by decide), Ssc _ _ (by decide) (by decide), SB _ _⟩, fun i p q => ?_, fun i _ _ _ => MA _ _ (by decide), fun i _ _ => MB _ _, by rw [MI 10 (by decide) (by decide)]; exact Int32.le_refl _, SE.1 4 (by decide), fun i _ _ => congrFun (SE.2.2.1 2 (by decide)) _⟩
    · have x := SF i (by grind) (by grind)
      exact ⟨x.1, x.2.1, x.2.2.1, x.2.2.2.1⟩
    · rw [S23, if_neg (hsne i (by grind) (by grind))]
    · refine ⟨MA _ _ (by decide), ?_, MA _ _ (by decide), MA _ _ (by decide), MA _ _ (by decide), MA _ _ (by decide), MA _ _ (by decide), MA _ _ (by decide), MB _ _⟩
      rw [M3, if_neg (hvne i (by grind) (by grind))]
  have k2 := s9'.2.1 (gI σ1 9) hs00.1 (by rw [g9]; grind)
  have hNs : TNames S M (gI σ1 9) v := by
    refine tn_of nm ng hs00.1 hs00.2 ?_ ?_ ?_ (fun i p q => ?_) (fun i p q => (MB _ _).trans (s10.2 i p q)) (by rw [MI 10 (by decide) (by decide)]; exact gs5)
    · rw [MA 10 _ (by decide)]; exact kv.2.2.2.2.2.2.2.2.1
    · rw [MA 9 _ (by decide)]; exact kv.2.2.2.2.2.2.2.1
    · rw [Ssc 20 _ (by decide) (by decide)]; exact k2.1
    · rw [SB]; exact s9'.2.2.1 i p (by rw [g9]; exact q)
  have hj0 : 0 < nI j := (nI_lt31 (a := 0) (b := j) (by omega) (by have := nm.1; omega)).mpr (by omega)
  have hSim : Sim S M := by
    obtain ⟨b1, b2, b3, b4, b5, b6, b7, b8, b9, b10, b11, b12, b13, b14, b15, b16, b17, b18, b19, b20, b21, b22, b23⟩ := hb7
    exact Sim.mk2 l1 hW ((SE6.tr s4').tr SE) ((NE.tr s5).tr ME) hGm (by decide) (by decide) (by rw [SI 11 (by decide) (by decide)]; exact b1) (by rw [MI 7 (by decide) (by decide)]; exact b2) (by rw [SI 13 (by decide) (by decide), MI 11 (by decide) (by decide)]; exact b3) (by rw [SI 13 (by decide) (by decide)]; exact ⟨b4, b5⟩) (by rw [SI 14 (by decide) (by decide), MI 15 (by decide) (by decide)]; exact b6) (by rw [SI 14 (by decide) (by decide)]; exact ⟨b7, b8⟩) (by rw [S8]; grind) (by rw [SI 9 (by decide) (by decide)]; exact b11) (by rw [SI 10 (by decide) (by decide)]; exact b15) (by rw [MI 9 (by decide) (by decide)]; exact b17) (by rw [MI 10 (by decide) (by decide)]; exact b19) (by rw [S15, SI 9 (by decide) (by decide)]; grind) (by rw [SI 18 (by decide) (by decide)]; exact hp7.2)
  refine ⟨hSim, (SE6.tr s4').tr SE, (NE.tr s5).tr ME, ?_, FrM.pI9 (fun i p q => ?_) (fun i p q => (MB _ _).trans (f2 i p q)), ⟨fun i p q => ?_, fun i p q => (MA _ _ (by decide)).trans (hPF.2 i p q)⟩, ?_, ⟨gs1, ?_, ?_, ?_, ?_, ?_⟩, ⟨by rw [SI 14 (by decide) (by decide), s7', g14], S15, by rw [M16, u1, N16]; grind, by rw [M17, u2, N17]; grind⟩, ⟨S8.symm, r17⟩, ⟨?_, ?_, ?_⟩, Or.inr ⟨r13, r14, r16, ?_, ?_, ?_, hNs, ?_, ?_, c, ?_, ?_, ?_, ?_, s13.symm⟩, hGm, ?_⟩
  · obtain ⟨h1, h2, h3, h4⟩ := hFC
    refine ⟨fun i p q => ?_, fun i p q => ?_, fun i p q => (SB _ _).trans (h3 i p q), fun i p q => ?_⟩
    · have x := SF i p (by grind)
      have y := h1 i p q
      exact ⟨x.1.trans y.1, x.2.1.trans y.2.1, x.2.2.1.trans y.2.2.1, x.2.2.2.1.trans y.2.2.2.1, x.2.2.2.2.trans y.2.2.2.2⟩
    · rw [Ssc 20 _ (by decide) (by decide), Ssc 21 _ (by decide) (by decide), Ssc 22 _ (by decide) (by decide), Ssc 24 _ (by decide) (by decide), S23, if_neg (hsne i p (by grind))]
      exact h2 i p q
    · rw [Ssc 27 _ (by decide) (by decide), Ssc 28 _ (by decide) (by decide), Ssc 29 _ (by decide) (by decide), SB]
      exact h4 i p q
  · rw [MA 2 _ (by decide), M3, if_neg (hvne i p (by grind)), MA 4 _ (by decide), MA 5 _ (by decide), MA 6 _ (by decide), MA 7 _ (by decide), MA 8 _ (by decide), MA 9 _ (by decide), MA 10 _ (by decide), MB]
    exact f1 i p q
  · rw [MA 14 _ (by decide), MA 15 _ (by decide), MA 16 _ (by decide), MA 17 _ (by decide)]
    exact hPF.1 i p q
  · rw [MI 12 (by decide) (by decide), MI 11 (by decide) (by decide), s6, N12]
  · rw [SI 9 (by decide) (by decide)]; grind
  · rw [SI 10 (by decide) (by decide)]; exact gs3
  · rw [SI 18 (by decide) (by decide)]
    exact iv_tt (by have := iv_le gs6; omega)
  · rw [MI 9 (by decide) (by decide)]; grind
  · rw [MI 10 (by decide) (by decide)]; exact i_trans N10 gs5
  · rw [MA 2 _ (by decide), kv.1]; exact N2
  · rw [MA 5 _ (by decide), kv.2.2.2.1]; exact N5
  · rw [MB, kv.2.2.2.2.2.2.2.2.2]; exact N0
  · rw [Ssc 21 _ (by decide) (by decide), k2.2.1, y1]; exact x15
  · rw [Ssc 22 _ (by decide) (by decide), k2.2.2.1]; exact y2
  · rw [Ssc 24 _ (by decide) (by decide), k2.2.2.2.2, y3, MA 6 _ (by decide), kv.2.2.2.2.1]; exact N6.symm
  · rw [MA 10 _ (by decide), kv.2.2.2.2.2.2.2.2.1, nm.2.2.1]; exact hj0
  · rw [SI 9 (by decide) (by decide)]; exact gs2
  · rw [S23, if_pos rfl]
  · rw [(SF c hcc.1 hc8).2.2.2.2]; exact s14
  · rw [M3, if_pos rfl, SI 9 (by decide) (by decide), SI 10 (by decide) (by decide), MI 9 (by decide) (by decide)]; exact hRt
  · rw [SI 9 (by decide) (by decide), SI 10 (by decide) (by decide), MI 9 (by decide) (by decide)]
    unfold Wi
    grind
  · have i13 := iv_eq (SI 13 (by decide) (by decide))
    have i18 := iv_eq (SI 18 (by decide) (by decide))
    have m9 := iv_eq (MI 9 (by decide) (by decide))
    have j9 : iv N 9 = iv μ1 9 := iv_eq (N9.trans q9'.symm)
    have i9 := iv_a1 g9 hs00.1 (by grind)
    unfold Gm at *
    omega
