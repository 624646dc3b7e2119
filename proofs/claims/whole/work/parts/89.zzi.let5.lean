/-- what may come of a binding: it is read, or both end at a fault -/
def BOut (σ0 μ0 σ : S5) (k : Nat) (v : Int32) (cc : Nat → Int32) (ν : S5) (c : Int32) (σ' : S5) : Prop :=
  (∃ (μ9 : S5) (n9 : Int32) (kk : Nat) (g' fs' fu' fn' ft' : Nat → Int32), kk + 4 * pn σ ≤ 4 * pn σ' ∧ Rch kk ν μ9 ∧ (gI μ9 7 = 0 ∧ gI μ9 19 = 0 ∧ gI μ9 20 = 1 ∧ rkM (gI μ9 4) ≤ 0 ∧ gI μ9 16 = gI μ0 16 + 1 + 1 ∧ gI μ9 17 = gI μ0 17 + 1 ∧ xA μ9 14 (gI μ0 16 + 1) = 2 ∧ xA μ9 15 (gI μ0 16 + 1) = v ∧ xA μ9 15 (gI μ0 16) = gI μ0 9 ∧ xA μ9 18 (gI μ0 17) = n9) ∧ (0 ≤ c ∧ c < 6200) ∧ LI σ0 μ0 (lnk σ' k cc c) (mEB μ9 v n9) (k + 1) g' (upN cc k c) fs' fu' fn' ft') ∨ (∃ (f p m : Int32) (kk : Nat), kk + 4 * pn σ ≤ 12010 ∧ Die kk ν μ0 f p m ∧ Dm abE f p m σ' ∧ 0 ≤ c ∧ c < 6200)
/-- a fault at once -/
def BF (μ0 ν : S5) (X : Option (Int32 × S5)) : Prop := ∃ f p m : Int32, ¬ f = 0 ∧ gI ν 7 = f ∧ gI ν 8 = p ∧ gI ν 11 = m ∧ gI ν 12 - gI ν 11 = gI μ0 12 - gI μ0 11 ∧ EqR μ0 ν ∧ Qt X (fun c σ' => Dm abE f p m σ' ∧ 0 ≤ c ∧ c < 6200)
/-- behind a binding's = -/
def BH1 (σ1 μ1 σ2 N : S5) (v : Int32) : Prop := Sim σ2 N ∧ EqE σ1 σ2 ∧ EqR μ1 N ∧ FrC σ1 σ2 ∧ FrM (pI μ1 9 v) N ∧ PF μ1 N ∧ (∀ j, j < 16 → gI σ2 j = gI σ1 j) ∧ gI σ1 18 < gI σ2 18 ∧ (∀ j, 6 < j → ¬ j = 16 → ¬ j = 18 → ¬ j = 19 → gI N j = gI μ1 j) ∧ gI N 16 = gI μ1 16 + 1 ∧ gI N 18 = 1 ∧ gI N 19 = 1 ∧ (xA N 2 v = xA μ1 2 v ∧ xA N 5 v = xA μ1 5 v ∧ xA N 10 v = xA μ1 10 v ∧ xB N 0 v = xB μ1 0 v) ∧ xA N 14 (gI μ1 16) = 2 ∧ xA N 15 (gI μ1 16) = v
theorem FrM.pI9 {μ M : S5} {v : Int32} (h1 : ∀ i, 0 ≤ i → i < v → xA M 2 i = xA μ 2 i ∧ xA M 3 i = xA μ 3 i ∧ xA M 4 i = xA μ 4 i ∧ xA M 5 i = xA μ 5 i ∧ xA M 6 i = xA μ 6 i ∧ xA M 7 i = xA μ 7 i ∧ xA M 8 i = xA μ 8 i ∧ xA M 9 i = xA μ 9 i ∧ xA M 10 i = xA μ 10 i ∧ xB M 0 i = xB μ 0 i) (h2 : ∀ i, 0 ≤ i → i < gI μ 10 → xB M 1 i = xB μ 1 i) : FrM (pI μ 9 v) M := ⟨h1, h2⟩
theorem FrM.of9 {μ M : S5} {v : Int32} (h : FrM (pI μ 9 v) M) : (∀ i, 0 ≤ i → i < v → xA M 2 i = xA μ 2 i ∧ xA M 3 i = xA μ 3 i ∧ xA M 4 i = xA μ 4 i ∧ xA M 5 i = xA μ 5 i ∧ xA M 6 i = xA μ 6 i ∧ xA M 7 i = xA μ 7 i ∧ xA M 8 i = xA μ 8 i ∧ xA M 9 i = xA μ 9 i ∧ xA M 10 i = xA μ 10 i ∧ xB M 0 i = xB μ 0 i) ∧ (∀ i, 0 ≤ i → i < gI μ 10 → xB M 1 i = xB μ 1 i) := h
theorem b1_mid {σ0 μ0 σ1 μ1 σ2 N σ7 μ9 M : S5} {k : Nat} {v pl c n9 : Int32} {g cc fs fu fn ft : Nat → Int32} (h : LB σ0 μ0 σ1 μ1 k v pl g cc fs fu fn ft) (hH : BH1 σ1 μ1 σ2 N v) (hC : Cor σ2 N c σ7 μ9 n9) (hM : FB μ9 M v n9) (hvv : 0 ≤ v) (h160 : 0 ≤ gI μ1 16) (h161 : gI μ1 16 < 3100) (h170 : 0 ≤ gI μ1 17) (h171 : gI μ1 17 < 3100) : LM σ0 σ1 μ1 σ7 M v c := by
  obtain ⟨l1, lF, ⟨x14, x15, x16, x17, x9, q9, q9'⟩, lp, ly, lz, ln, ⟨w2, w5, w6, w10⟩, lRG, lG⟩ := h
  obtain ⟨NS, SE, NE, SC, NM', NP, SI, S18, NI, N16, N18, N19, ⟨N2, N5, N10, N0⟩, t14, t15⟩ := hH
  obtain ⟨s1, s2, ⟨u1, u2, u3, u4, u5⟩, s4, s5, s6, s7, s8, s9, s10, s11, s12, s13, s14, s15⟩ := hC
  obtain ⟨M16, M17, MI, MA, M3, MB, ME, MJ⟩ := hM
  obtain ⟨gs1, gs2, gs3, gs4, gs5, gs6, gs7⟩ := s11
  have hb1 := l1.2.2
  have hb7 := s1.2.2
  have hp7 := s1.p3
  unfold Bg at hb1 hb7
  have hv0 : 0 ≤ v ∧ v < 2100 := ⟨hvv, by have := hb1.2.2.2.2.2.2.2.2.2.2.2.2.2.2.2.2.2.1; rw [q9'] at this; grind⟩
  rw [SI 8 (by decide)] at gs1
  rw [SI 9 (by decide)] at gs2
  rw [SI 10 (by decide)] at gs3
  have n9 := NI 9 (by decide) (by decide) (by decide) (by decide)
  have n10 := NI 10 (by decide) (by decide) (by decide) (by decide)
  have n17 := NI 17 (by decide) (by decide) (by decide) (by decide)
  rw [n9, q9'] at gs4
  rw [n10] at gs5
  rw [SI 15 (by decide), SI 9 (by decide), SI 10 (by decide), SI 8 (by decide), n9, x15, q9'] at s12
  have hbd := s12.un.1
  unfold Bd at hbd
  have hvne : ∀ i, 0 ≤ i → ¬ i = v → ¬ i.toNatClampNeg = v.toNatClampNeg := fun i p w q => w ((i_inj p hv0.1).mp q)
  have kv := s10.1 v hv0.1 (by rw [n9, q9']; grind)
  have hFM9 := NM'.tr s10 (show v ≤ gI N 9 by rw [n9, q9']; grind) (show gI μ1 10 ≤ gI N 10 by rw [n10]; exact Int32.le_refl _)
  obtain ⟨f1, f2⟩ := hFM9.of9
  have hPF : PF μ1 μ9 := NP.tr ⟨u4, u5⟩ (by rw [N16]; grind) (by rw [n17]; exact Int32.le_refl _)
  refine ⟨⟨Wd_of s1.1 rfl rfl rfl rfl rfl rfl rfl (MI 1 (by decide) (by decide)) (MI 3 (by decide) (by decide)) (MI 4 (by decide) (by decide)) (MI 5 (by decide) (by decide)) (MI 6 (by decide) (by decide)) MJ (ME.2.2.1 0 (by decide)), Ct_eq s1.2.1 (EqE.rf σ7) ME, ?_⟩, SE.tr s4, (NE.tr s5).tr ME, SC.tr s9 (by rw [SI 8 (by decide)]; exact Int32.le_refl _) (by rw [SI 9 (by decide)]; exact Int32.le_refl _) (by rw [SI 10 (by decide)]; exact Int32.le_refl _) (by grind) (by rw [SI 9 (by decide)]; grind), FrM.pI9 (fun i p q => ?_) (fun i p q => (MB _ _).trans (f2 i p q)), ⟨fun i p q => ?_, fun i p q => (MA _ _ (by decide)).trans (hPF.2 i p q)⟩, ?_, ⟨by grind, gs2, gs3, by grind, ?_, ?_⟩, ⟨by rw [s7, SI 14 (by decide)], by rw [s8, SI 15 (by decide)], by rw [M16, u1, N16]; grind, by rw [M17, u2, n17]; grind⟩, ⟨s13, s14⟩, ⟨?_, ?_, ?_⟩, Or.inl ⟨?_, ?_⟩, ?_, ?_⟩
  · have hbm := s1.bm
    obtain ⟨b1, b2, b3, b4, b5, b6, b7, b8, b9, b10, b11, b12, b13, b14, b15, b16, b17, b18, b19, b20, b21, b22, b23⟩ := hb7
    have m9 := iv_eq (MI 9 (by decide) (by decide))
    have m10 := iv_eq (MI 10 (by decide) (by decide))
    refine Bg_mk b1 (by rw [MI 7 (by decide) (by decide)]; exact b2) (by rw [MI 11 (by decide) (by decide)]; exact b3) b4 b5 (by rw [MI 15 (by decide) (by decide)]; exact b6) b7 b8 b9 b11 b13 b14 b15 (by rw [MI 9 (by decide) (by decide)]; exact b17) (by rw [MI 10 (by decide) (by decide)]; exact b19) b21 b22 hp7.2 ?_
    unfold Bm at *
    omega
  · rw [MA 2 _ (by decide), M3, if_neg (hvne i p (by grind)), MA 4 _ (by decide), MA 5 _ (by decide), MA 6 _ (by decide), MA 7 _ (by decide), MA 8 _ (by decide), MA 9 _ (by decide), MA 10 _ (by decide), MB]
    exact f1 i p q
  · rw [MA 14 _ (by decide), MA 15 _ (by decide), MA 16 _ (by decide), MA 17 _ (by decide)]
    exact hPF.1 i p q
  · rw [MI 12 (by decide) (by decide), MI 11 (by decide) (by decide), s6, NI 12 (by decide) (by decide) (by decide) (by decide), NI 11 (by decide) (by decide) (by decide) (by decide)]
  · rw [MI 9 (by decide) (by decide)]; grind
  · rw [MI 10 (by decide) (by decide)]; exact gs5
  · rw [MA 2 _ (by decide), kv.1, N2]; exact w2
  · rw [MA 5 _ (by decide), kv.2.2.2.1, N5]; exact w5
  · rw [MB, kv.2.2.2.2.2.2.2.2.2]; exact N0
  · rw [MA 10 _ (by decide), kv.2.2.2.2.2.2.2.2.1, N10]; exact w10
  · rw [M3, if_pos rfl, MI 9 (by decide) (by decide)]
    refine s12.st ⟨fun i _ _ => ⟨rfl, rfl, rfl, rfl⟩, fun i _ _ => rfl, fun i _ _ => ⟨rfl, rfl, rfl, rfl⟩, fun i _ _ => rfl, fun i _ _ => rfl, fun i _ _ => ⟨rfl, rfl, rfl, rfl⟩, fun i p q => ⟨MA _ _ (by decide), ?_, MA _ _ (by decide), MA _ _ (by decide), MA _ _ (by decide), MA _ _ (by decide), MA _ _ (by decide), MA _ _ (by decide), MB _ _⟩, fun i _ _ _ => MA _ _ (by decide), fun i _ _ => MB _ _, by rw [MI 10 (by decide) (by decide)]; exact Int32.le_refl _, rfl, fun i _ _ => rfl⟩
    rw [M3, if_neg (hvne i (by grind) (by grind))]
  · have i8 := iv_eq (SI 8 (by decide))
    have i9 := iv_eq (SI 9 (by decide))
    have i10 := iv_eq (SI 10 (by decide))
    have i13 := iv_eq (SI 13 (by decide))
    have i18 := iv_lt S18
    have j9 := iv_eq n9
    have j10 := iv_eq n10
    have m9 := iv_eq (MI 9 (by decide) (by decide))
    have m10 := iv_eq (MI 10 (by decide) (by decide))
    unfold Gm at *
    omega
  · have i13 := iv_eq (SI 13 (by decide))
    have i18 := iv_lt S18
    have j9 := iv_eq n9
    have m9 := iv_eq (MI 9 (by decide) (by decide))
    unfold Gm at *
    omega
