/-- an alternative's head has been read, E is next, within s' -/
def AH (σ1 μ1 σ6 N : S5) (v s' : Int32) : Prop := Sim (pI σ6 15 s') N ∧ EqE σ1 σ6 ∧ EqR μ1 N ∧ FrC σ1 σ6 ∧ FrM (pI μ1 9 v) N ∧ PF μ1 N ∧ gI N 12 - gI N 11 = gI μ1 12 - gI μ1 11 ∧ (gI σ6 8 = gI σ1 8 ∧ gI σ1 9 ≤ gI σ6 9 ∧ gI σ6 10 = gI σ1 10 ∧ gI σ6 14 = gI σ1 14 ∧ gI σ6 15 = gI σ1 15) ∧ (gI N 9 = v + 1 ∧ gI μ1 10 ≤ gI N 10 ∧ gI N 16 = gI μ1 16 + 1 ∧ gI N 17 = gI μ1 17 ∧ gI N 18 = 1 ∧ gI N 19 = 1) ∧ (xA N 2 v = 4 ∧ xA N 5 v = -1 ∧ xA N 7 v = xA μ1 7 v ∧ xA N 8 v = xA μ1 8 v) ∧ (xA N 14 (gI μ1 16) = 6 ∧ xA N 15 (gI μ1 16) = v) ∧ iv σ1 18 + 1 ≤ iv σ6 18 ∧ Gm 2 (-1) σ1 σ6 μ1 N
def AX (σ1 σ6 N : S5) (v s' ck con : Int32) : Prop := (ck = 4 ∧ gI σ6 9 = gI σ1 9 + 1 ∧ s' = gI σ1 9 ∧ xA σ6 21 s' = gI σ1 15 ∧ xA σ6 22 s' = xA σ1 22 (gI σ1 15) ∧ ∃ F : Nat, NM σ6 N s' v F ∧ xA N 9 v + nI F = gI N 10 ∧ xA σ1 2 con = nI F) ∨ (¬ ck = 4 ∧ gI σ6 9 = gI σ1 9 ∧ s' = gI σ1 15 ∧ xA N 10 v = 0 ∧ gI σ6 13 = gI σ1 13)
/-- an alternative's E has been read: all but its own node -/
def CM (σ1 μ1 σ8 M : S5) (v c1 ck con : Int32) : Prop :=
  Sim σ8 M ∧ EqE σ1 σ8 ∧ EqR μ1 M ∧ FrC σ1 σ8 ∧ FrM (pI μ1 9 v) M ∧ PF μ1 M ∧ gI M 12 - gI M 11 = gI μ1 12 - gI μ1 11 ∧ (gI σ1 8 ≤ c1 ∧ gI σ1 9 ≤ gI σ8 9 ∧ gI σ1 10 ≤ gI σ8 10 ∧ gI σ1 18 ≤ gI σ8 18 ∧ v < gI M 9 ∧ gI μ1 10 ≤ gI M 10) ∧ (gI σ8 14 = gI σ1 14 ∧ gI σ8 15 = gI σ1 15 ∧ gI M 16 = gI μ1 16 ∧ gI M 17 = gI μ1 17) ∧ (c1 + 1 = gI σ8 8 ∧ xA σ8 17 c1 = -1) ∧ (xA M 2 v = 4 ∧ xA M 5 v = -1 ∧ xA M 7 v = xA μ1 7 v ∧ xA M 8 v = xA μ1 8 v) ∧ ((ck = 4 ∧ xA σ8 21 (gI σ1 9) = gI σ1 15 ∧ xA σ8 22 (gI σ1 9) = xA σ1 22 (gI σ1 15) ∧ TNames σ8 M (gI σ1 9) v ∧ xA M 10 v = xA σ1 2 con ∧ gI σ1 9 + 1 ≤ gI σ8 9 ∧ TR σ8 M (gI σ1 9) (gI σ1 9 + 1) (gI σ8 9) (gI σ1 10) (gI σ8 10) (v + 1) (gI M 9) (gI σ1 8) (xA M 3 v) c1) ∨ (¬ ck = 4 ∧ xA M 10 v = 0 ∧ TR σ8 M (gI σ1 15) (gI σ1 9) (gI σ8 9) (gI σ1 10) (gI σ8 10) (v + 1) (gI M 9) (gI σ1 8) (xA M 3 v) c1)) ∧ Gm 1 0 σ1 σ8 μ1 M ∧ 2 * iv M 9 + 2 * iv σ1 13 + iv σ1 18 + 1 ≤ 2 * iv μ1 9 + 2 * iv σ8 13 + iv σ8 18
theorem i15_gI (σ : S5) (h : Int32) {j : Nat} (w : ¬ j = 15) : gI (pI σ 15 h) j = gI σ j := by rw [gI_pI, if_neg w]
theorem al_mid {σ1 μ1 σ6 N σ7 μ9 M : S5} {v s' c n9 ck con : Int32} (l1 : Sim σ1 μ1) (q9' : gI μ1 9 = v + 1) (hv0 : 0 ≤ v) (hH : AH σ1 μ1 σ6 N v s') (hX : AX σ1 σ6 N v s' ck con) (hC : Cor (pI σ6 15 s') N c σ7 μ9 n9) (hM : FB μ9 M v n9) (h160 : 0 ≤ gI μ1 16) (h161 : gI μ1 16 < 3100) (h170 : 0 ≤ gI μ1 17) (h171 : gI μ1 17 < 3100) : CM σ1 μ1 (pI σ7 15 (gI σ1 15)) M v c ck con := by
  obtain ⟨NS, SE6, NE, SC, NM', NP, N12, ⟨g8, g9, g10, g14, g15⟩, ⟨N9, N10, N16, N17, N18, N19⟩, ⟨N2, N5, N7, N8⟩, ⟨t14, t15⟩, S18, hG6⟩ := hH
  obtain ⟨s1, s2, ⟨u1, u2, u3, u4, u5⟩, s4, s5, s6, s7, s8, s9, s10, s11, s12, s13, s14, s15⟩ := hC
  obtain ⟨M16, M17, MI, MA, M3, MB, ME, MJ⟩ := hM
  have s7' : gI σ7 14 = gI σ6 14 := s7
  have s9' : FrC σ6 σ7 := s9
  have s4' : EqE σ6 σ7 := ((EqE.rf σ6).I (by decide)).tr s4
  have s12' : TR σ7 μ9 s' (gI σ6 9) (gI σ7 9) (gI σ6 10) (gI σ7 10) (gI N 9) (gI μ9 9) (gI σ6 8) n9 c := s12
  have s11' : Gr σ6 σ7 N μ9 := s11
  obtain ⟨gs1, gs2, gs3, gs4, gs5, gs6, gs7⟩ := s11'
  have hb1 := l1.2.2
  have hb7 := s1.2.2
  have hp7 := s1.p3
  unfold Bg at hb1 hb7
  have hv1 : v < 2100 := by grind
  rw [g8] at gs1
  rw [g10] at gs3
  rw [N9] at gs4
  rw [g10, N9, g8] at s12'
  have hcc := s12'.c
  have hbd := s12'.un.1
  unfold Bd at hbd
  have hvne : ∀ i, 0 ≤ i → ¬ i = v → ¬ i.toNatClampNeg = v.toNatClampNeg := fun i p w q => w ((i_inj p hv0).mp q)
  have kv := s10.1 v hv0 (by rw [N9]; grind)
  have hFM9 := NM'.tr s10 (show v ≤ gI N 9 by rw [N9]; grind) N10
  obtain ⟨f1, f2⟩ := hFM9.of9
  have hPF : PF μ1 μ9 := NP.tr ⟨u4, u5⟩ (by rw [N16]; grind) (by rw [N17]; exact Int32.le_refl _)
  have hFC : FrC σ1 σ7 := SC.tr s9' (by rw [g8]; exact Int32.le_refl _) g9 (by rw [g10]; exact Int32.le_refl _) (by grind) (by grind)
  have i8 : iv (pI σ7 15 (gI σ1 15)) 8 = iv σ7 8 := iv_eq rfl
  have i9 : iv (pI σ7 15 (gI σ1 15)) 9 = iv σ7 9 := iv_eq rfl
  have i10 : iv (pI σ7 15 (gI σ1 15)) 10 = iv σ7 10 := iv_eq rfl
  have i13 : iv (pI σ7 15 (gI σ1 15)) 13 = iv σ7 13 := iv_eq rfl
  have i18 : iv (pI σ7 15 (gI σ1 15)) 18 = iv σ7 18 := iv_eq rfl
  have m9 := iv_eq (MI 9 (by decide) (by decide))
  have m10 := iv_eq (MI 10 (by decide) (by decide))
  have hGm : Gm 1 0 σ1 (pI σ7 15 (gI σ1 15)) μ1 M := by
    have g2 := hG6.tr gs7
    unfold Gm at *
    omega
  have hW : Wd (pI σ7 15 (gI σ1 15)) M := Wd.I15 (Wd_of s1.1 rfl rfl rfl rfl rfl rfl rfl (MI 1 (by decide) (by decide)) (MI 3 (by decide) (by decide)) (MI 4 (by decide) (by decide)) (MI 5 (by decide) (by decide)) (MI 6 (by decide) (by decide)) MJ (ME.2.2.1 0 (by decide)))
  have hEE : EqE σ1 (pI σ7 15 (gI σ1 15)) := (SE6.tr s4').I (by decide)
  have hSim : Sim (pI σ7 15 (gI σ1 15)) M := by
    obtain ⟨b1, b2, b3, b4, b5, b6, b7, b8, b9, b10, b11, b12, b13, b14, b15, b16, b17, b18, b19, b20, b21, b22, b23⟩ := hb7
    exact Sim.mk2 l1 hW hEE ((NE.tr s5).tr ME) hGm (by decide) (by decide) b1 (by rw [MI 7 (by decide) (by decide)]; exact b2) (by rw [MI 11 (by decide) (by decide)]; exact b3) ⟨b4, b5⟩ (by rw [MI 15 (by decide) (by decide)]; exact b6) ⟨b7, b8⟩ b9 b11 b15 (by rw [MI 9 (by decide) (by decide)]; exact b17) (by rw [MI 10 (by decide) (by decide)]; exact b19) ⟨by show 0 ≤ gI σ1 15; grind, by show gI σ1 15 < gI σ7 9; grind⟩ hp7.2
  have h13 : iv σ1 13 ≤ iv σ6 13 := by
    rcases hX with q | q
    · have w := iv_a1 q.2.1 (by grind) (by grind)
      unfold Gm at hG6
      omega
    · have w := iv_eq q.2.2.2.2
      omega
  have hRt : TR (pI σ7 15 (gI σ1 15)) M s' (gI σ6 9) (gI σ7 9) (gI σ1 10) (gI σ7 10) (v + 1) (gI μ9 9) (gI σ1 8) n9 c := by
    refine s12'.st ⟨fun i _ _ => ⟨rfl, rfl, rfl, rfl⟩, fun i _ _ => rfl, fun i _ _ => ⟨rfl, rfl, rfl, rfl⟩, fun i _ _ => rfl, fun i _ _ => rfl, fun i _ _ => ⟨rfl, rfl, rfl, rfl⟩, fun i p q => ⟨MA _ _ (by decide), ?_, MA _ _ (by decide), MA _ _ (by decide), MA _ _ (by decide), MA _ _ (by decide), MA _ _ (by decide), MA _ _ (by decide), MB _ _⟩, fun i _ _ _ => MA _ _ (by decide), fun i _ _ => MB _ _, by rw [MI 10 (by decide) (by decide)]; exact Int32.le_refl _, rfl, fun i _ _ => rfl⟩
    rw [M3, if_neg (hvne i (by grind) (by grind))]
  refine ⟨hSim, hEE, (NE.tr s5).tr ME, hFC, FrM.pI9 (fun i p q => ?_) (fun i p q => (MB _ _).trans (f2 i p q)), ⟨fun i p q => ?_, fun i p q => (MA _ _ (by decide)).trans (hPF.2 i p q)⟩, ?_, ⟨by grind, i_trans g9 gs2, gs3, ?_, ?_, ?_⟩, ⟨by show gI σ7 14 = gI σ1 14; rw [s7', g14], rfl, by rw [M16, u1, N16]; grind, by rw [M17, u2, N17]; grind⟩, ⟨s13, s14⟩, ⟨?_, ?_, ?_, ?_⟩, ?_, hGm, ?_⟩
  · rw [MA 2 _ (by decide), M3, if_neg (hvne i p (by grind)), MA 4 _ (by decide), MA 5 _ (by decide), MA 6 _ (by decide), MA 7 _ (by decide), MA 8 _ (by decide), MA 9 _ (by decide), MA 10 _ (by decide), MB]
    exact f1 i p q
  · rw [MA 14 _ (by decide), MA 15 _ (by decide), MA 16 _ (by decide), MA 17 _ (by decide)]
    exact hPF.1 i p q
  · rw [MI 12 (by decide) (by decide), MI 11 (by decide) (by decide), s6, N12]
  · show gI σ1 18 ≤ gI σ7 18
    exact iv_tt (by have := iv_le gs6; omega)
  · rw [MI 9 (by decide) (by decide)]; grind
  · rw [MI 10 (by decide) (by decide)]; exact i_trans N10 gs5
  · rw [MA 2 _ (by decide), kv.1]; exact N2
  · rw [MA 5 _ (by decide), kv.2.2.2.1]; exact N5
  · rw [MA 7 _ (by decide), kv.2.2.2.2.2.1]; exact N7
  · rw [MA 8 _ (by decide), kv.2.2.2.2.2.2.1]; exact N8
  · rcases hX with ⟨q1, q2, q3, q4, q5, F, q6, q7, q8⟩ | ⟨q1, q2, q3, q4, _⟩
    · left
      subst q3
      have hs00 : 0 ≤ gI σ1 9 ∧ gI σ1 9 < 690 := by grind
      have k2 := s9'.2.1 (gI σ1 9) hs00.1 (by rw [q2]; grind)
      rw [q2] at hRt gs2
      refine ⟨q1, k2.2.1.trans q4, k2.2.2.1.trans q5, ?_, ?_, gs2, ?_⟩
      · refine tn_of q6 q7 hs00.1 hs00.2 ?_ ?_ k2.1 (fun i p q => ?_) (fun i p q => (MB _ _).trans (s10.2 i p q)) (by rw [MI 10 (by decide) (by decide)]; exact gs5)
        · rw [MA 10 _ (by decide)]; exact kv.2.2.2.2.2.2.2.2.1
        · rw [MA 9 _ (by decide)]; exact kv.2.2.2.2.2.2.2.1
        · exact s9'.2.2.1 i p (by rw [q2]; exact q)
      · rw [MA 10 _ (by decide), kv.2.2.2.2.2.2.2.2.1, q6.2.2.1, q8]
      · rw [M3, if_pos rfl, MI 9 (by decide) (by decide)]; exact hRt
    · right
      rw [q2, q3] at hRt
      refine ⟨q1, ?_, ?_⟩
      · rw [MA 10 _ (by decide), kv.2.2.2.2.2.2.2.2.1]; exact q4
      · rw [M3, if_pos rfl, MI 9 (by decide) (by decide)]; exact hRt
  · have j9 : iv N 9 = iv μ1 9 := iv_eq (N9.trans q9'.symm)
    unfold Gm at *
    omega
/-- which node the class makes of it -/
def aK (ck : Int32) : Int32 := if ck = 4 then 11 else if ck = 5 then 12 else 13
def aV (ck con num : Int32) : Int32 := if ck = 4 then con else num
def aS (ck s : Int32) : Int32 := if ck = 4 then s else 0
/-- its own node is made: one alternative more -/
theorem CM.ci {σ0 μ0 σ1 μ1 σ8 M : S5} {k : Nat} {c0 s1 u1 a1 v ck con num c1 : Int32} {g cc fs fu fn ft : Nat → Int32} (hs0 : Sim σ0 μ0) (h : CB σ0 μ0 σ1 μ1 c0 s1 u1 a1 k v ck con num g cc fs fu fn ft) (h160 : 0 ≤ gI μ0 16) (h161 : gI μ0 16 < 3100) (h170 : 0 ≤ gI μ0 17) (hm : CM σ1 μ1 σ8 M v c1 ck con) : CI σ0 μ0 (lkA (cN σ8 (aK ck) (aV ck con num) (aS ck (gI σ1 9)) c1) k cc c0 (gI σ8 8)) M c0 s1 u1 a1 (k + 1) (upN g k v) (upN cc k (gI σ8 8)) (upN fs (k + 1) (gI σ8 9)) (upN fu (k + 1) (gI σ8 10)) (upN fn (k + 1) (gI M 9)) (upN ft (k + 1) (gI σ8 8 + 1)) := by
  have hb0 := hs0.2.2
  unfold Bg at hb0
  have hl := h
  obtain ⟨l1, lF, ⟨x14, x15, x16, x17, x9⟩, ⟨r1, r2, r3, r4, r5, r6, r7, r8⟩, lp, lz, lT, hk7, lw, hPK, lRG, lG⟩ := hl
  obtain ⟨m1, mE, mR, mC, mM, mQ, m12, ⟨k8, k9, k10, k18, j9, j10⟩, ⟨e14, e15, e16, e17⟩, ⟨c8, c17⟩, ⟨t2, t5, t7, t8⟩, hT, hG, hG2⟩ := hm
  have hb1 := l1.2.2
  have hb8 := m1.2.2
  have hp8 := m1.p3
  unfold Bg at hb1 hb8
  obtain ⟨b1, b2, b3, b4, b5, b6, b7, b8, b9, b10, b11, b12, b13, b14, b15, b16, b17, b18, b19, b20, b21, b22, b23⟩ := hb8
  have hc10 : 0 ≤ c1 := i_trans hb1.2.2.2.2.2.2.2.2.1 k8
  have hcl := c_of1 hc10 c8 b9
  have hr := cN_row σ8 (aK ck) (aV ck con num) (aS ck (gI σ1 9)) c1
  have hf := FrC.N σ8 (aK ck) (aV ck con num) (aS ck (gI σ1 9)) c1
  have hE8 : EqE σ8 (cN σ8 (aK ck) (aV ck con num) (aS ck (gI σ1 9)) c1) := (EqE.rf σ8).N
  have SI : ∀ j, ¬ j = 8 → gI (cN σ8 (aK ck) (aV ck con num) (aS ck (gI σ1 9)) c1) j = gI σ8 j := fun j h => cN_gI _ _ _ _ _ h
  have S8 : gI (cN σ8 (aK ck) (aV ck con num) (aS ck (gI σ1 9)) c1) 8 = gI σ8 8 + 1 := rfl
  have hW : Wd (cN σ8 (aK ck) (aV ck con num) (aS ck (gI σ1 9)) c1) M := m1.1.cN
  generalize cN σ8 (aK ck) (aV ck con num) (aS ck (gI σ1 9)) c1 = S at *
  have hGm : Gm 0 0 σ1 S μ1 M := by
    have i8 := iv_a1 S8 b9 (by grind)
    have i9 := iv_eq (SI 9 (by decide))
    have i10 := iv_eq (SI 10 (by decide))
    have i13 := iv_eq (SI 13 (by decide))
    have i18 := iv_eq (SI 18 (by decide))
    unfold Gm at *
    omega
  have hSim : Sim S M := Sim.mk2 l1 hW (mE.tr hE8) mR hGm (by decide) (by decide) (by rw [SI 11 (by decide)]; exact b1) b2 (by rw [SI 13 (by decide)]; exact b3) (by rw [SI 13 (by decide)]; exact ⟨b4, b5⟩) (by rw [SI 14 (by decide)]; exact b6) (by rw [SI 14 (by decide)]; exact ⟨b7, b8⟩) (by rw [S8]; grind) (by rw [SI 9 (by decide)]; exact b11) (by rw [SI 10 (by decide)]; exact b15) b17 b19 (by rw [SI 15 (by decide), SI 9 (by decide)]; exact ⟨b21, b22⟩) (by rw [SI 18 (by decide)]; exact hp8.2)
  have hFC : FrC σ1 S := mC.tr hf (by grind) k9 k10 (by grind) (by grind)
  have hv0 : 0 ≤ v := by grind
  have hS4 : gI S 4 = gI σ1 4 := (mE.tr hE8).1 4 (by decide)
  have hS2 : ∀ i, xA S 2 i = xA σ1 2 i := fun i => congrFun ((mE.tr hE8).2.2.1 2 (by decide)) _
  have hh : 0 ≤ gI σ1 15 ∧ gI σ1 15 < gI σ1 9 := by grind
  have hQ : QA (gI σ0 15) S M k (gI σ1 9) (gI σ8 9) (gI σ1 10) (gI σ8 10) v (gI M 9) (gI σ1 8) v (gI σ8 8) := by
    rw [← x15]
    refine ⟨hh.1, hh.2, t2, rfl, c1, hr.2.2.2.1, ?_, c8.symm, ?_⟩
    · rw [(hf.1 c1 hc10 hcl).2.2.2.2]; exact c17
    · rcases hT with ⟨t1, y1, y2, y3, y4, y5, y6⟩ | ⟨t1, y1, y2⟩
      · have hbd := y6.un.1
        unfold Bd at hbd
        have hA : Agr σ8 S M M (gI σ1 9) (gI σ8 9) (gI σ1 10) (gI σ8 10) v (gI M 9) (gI σ1 8) v c1 := Agr.fr hE8 hf (FrM.rf M) (Int32.le_refl _) ⟨by grind, k9, Int32.le_refl _, by grind⟩ ⟨by grind, Int32.le_refl _⟩ ⟨by grind, Int32.le_refl _⟩ ⟨by grind, hcl⟩
        have ks := hf.2.1 (gI σ1 9) (by grind) (by grind)
        have kh := hf.2.1 (gI σ1 15) hh.1 (by grind)
        have kh1 := mC.2.1 (gI σ1 15) hh.1 hh.2
        rcases hPK with ⟨p1, p2, p3, p4, p5⟩ | ⟨p1, p2, p3⟩ | ⟨p1, p2, p3⟩
        · have a13 : xA S 13 (gI σ8 8) = 11 := by rw [hr.1]; unfold aK; rw [if_pos p1]
          have a14 : xA S 14 (gI σ8 8) = con := by rw [hr.2.1]; unfold aV; rw [if_pos p1]
          have a15 : xA S 15 (gI σ8 8) = gI σ1 9 := by rw [hr.2.2.1]; unfold aS; rw [if_pos p1]
          refine Or.inl ⟨by rw [t8]; exact p2, a13, by rw [a14, t7, p3], by rw [a14]; exact p4, by rw [a14, hS4]; exact p5, by rw [a14, hS2, y4], a15, by rw [ks.2.1]; exact y1, by rw [ks.2.2.1, kh.2.2.1, kh1.2.2.1]; exact y2, TNames_st hA (by grind) (Int32.le_refl _) (by grind) (by grind) (Int32.le_refl _) j9 y3, y5, y6.st (Agr.fr hE8 hf (FrM.rf M) (Int32.le_refl _) ⟨by grind, by grind, Int32.le_refl _, by grind⟩ ⟨by grind, Int32.le_refl _⟩ ⟨by grind, Int32.le_refl _⟩ ⟨by grind, hcl⟩), ?_⟩
          unfold Wi
          grind
        · rw [p2] at t1; exact absurd t1 (by decide)
        · rw [p2] at t1; exact absurd t1 (by decide)
      · have hbd := y2.un.1
        unfold Bd at hbd
        refine Or.inr ⟨y1, ?_, y2.st (Agr.fr hE8 hf (FrM.rf M) (Int32.le_refl _) ⟨by grind, by grind, Int32.le_refl _, by grind⟩ ⟨by grind, Int32.le_refl _⟩ ⟨by grind, Int32.le_refl _⟩ ⟨by grind, hcl⟩), ?_⟩
        · rcases hPK with ⟨p1, p2, p3, p4, p5⟩ | ⟨p1, p2, p3, p4, p5⟩ | ⟨p1, p2, p3⟩
          · exact absurd p1 t1
          · have a13 : xA S 13 (gI σ8 8) = 12 := by rw [hr.1]; unfold aK; rw [if_neg t1, if_pos p2]
            have a14 : xA S 14 (gI σ8 8) = num := by rw [hr.2.1]; unfold aV; rw [if_neg t1]
            exact Or.inl ⟨by rw [t8]; exact p3, a13, by rw [a14, t7, p4], by rw [a14]; exact p5⟩
          · have a13 : xA S 13 (gI σ8 8) = 13 := by rw [hr.1]; unfold aK; rw [if_neg t1, if_neg (by rw [p2]; decide)]
            exact Or.inr ⟨by rw [t8]; exact p3, a13⟩
        · unfold Wi
          grind
  have := CB.ci hs0 h h160 h161 h170 hSim (mE.tr hE8) mR hFC mM mQ m12 (by rw [S8]; grind) (by rw [SI 9 (by decide)]; exact k9) (by rw [SI 10 (by decide)]; exact k10) (by rw [SI 18 (by decide)]; exact k18) j9 j10 (by rw [SI 14 (by decide)]; exact e14) (by rw [SI 15 (by decide)]; exact e15) e16 e17 (by rw [SI 9 (by decide), SI 10 (by decide)]; exact hQ) S8.symm (by grind) hr.2.2.2.2 t5 hGm (by rw [iv_eq (SI 13 (by decide)), iv_eq (SI 18 (by decide))]; exact hG2)
  rw [SI 9 (by decide), SI 10 (by decide)] at this
  exact this
