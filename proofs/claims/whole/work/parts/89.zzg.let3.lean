theorem c_lt6 {c x : Int32} (h0 : 0 ≤ c) (h : c + 1 = x) (hx : x ≤ 6000) (hx0 : 0 ≤ x) : c < 6200 := by
  subst h
  grind
theorem le_a1 {a b : Int32} (h : a < b) : a + 1 ≤ b := by grind
theorem lt_of1 {a b : Int32} (h0 : 0 ≤ a) (h1 : a < 3100) (h : b = a + 1) : a < b := by grind
theorem le_of1 {a b : Int32} (h0 : 0 ≤ a) (h1 : a < 3100) (h : b = a + 1) : a ≤ b := by grind
/-- a binding has been read: one more -/
theorem LB.li {σ0 μ0 σ1 μ1 σ' μ3 : S5} {k : Nat} {v pl c : Int32} {g cc fs fu fn ft : Nat → Int32} (hs0 : Sim σ0 μ0) (h : LB σ0 μ0 σ1 μ1 k v pl g cc fs fu fn ft) (h160 : 0 ≤ gI μ0 16) (h161 : gI μ0 16 < 3100) (h170 : 0 ≤ gI μ0 17) (hS : Sim σ' μ3) (hE : EqE σ1 σ') (hR : EqR μ1 μ3) (hC : FrC σ1 σ') (hM : FrM (pI μ1 9 v) μ3) (hP : PF μ1 μ3) (h12 : gI μ3 12 - gI μ3 11 = gI μ1 12 - gI μ1 11) (k8 : gI σ1 8 ≤ gI σ' 8) (k9 : gI σ1 9 ≤ gI σ' 9) (k10 : gI σ1 10 ≤ gI σ' 10) (k18 : gI σ1 18 ≤ gI σ' 18) (m9 : v < gI μ3 9) (m10 : gI μ1 10 ≤ gI μ3 10) (e14 : gI σ' 14 = gI σ1 14) (e15 : gI σ' 15 = gI σ1 15) (e16 : gI μ3 16 = gI μ1 16) (e17 : gI μ3 17 = gI μ1 17) (hQ : QBd (gI σ0 9) σ' μ3 k (gI σ1 9) (gI σ' 9) (gI σ1 10) (gI σ' 10) v (gI μ3 9) (gI σ1 8) v c) (hc : c + 1 = gI σ' 8) (hc8 : gI σ1 8 ≤ c) (h17 : xA σ' 17 c = -1) (h5 : xA μ3 5 v = -1) (hB0 : xB μ3 0 v = xB μ1 0 v) (hG : Gm 0 0 σ1 σ' μ1 μ3) (hG2 : 2 * iv μ3 9 + 2 * iv σ1 13 + iv σ1 18 + 1 ≤ 2 * iv μ1 9 + 2 * iv σ' 13 + iv σ' 18) : LI σ0 μ0 (lnk σ' k cc c) μ3 (k + 1) (upN g k v) (upN cc k c) (upN fs (k + 1) (gI σ' 9)) (upN fu (k + 1) (gI σ' 10)) (upN fn (k + 1) (gI μ3 9)) (upN ft (k + 1) (c + 1)) := by
  have hb0 := hs0.2.2
  unfold Bg at hb0
  obtain ⟨l1, lF, ⟨x14, x15, x16, x17, x9, q9, q9'⟩, ⟨p14, p15⟩, ⟨y1, y2⟩, ⟨z2, z5, z10, z4, z3⟩, ⟨n4, n20, nrow, nk⟩, ⟨w2, w5, w6, w10⟩, hRG, hG0⟩ := h
  obtain ⟨fE, fR, fC, fM, fP, f12, f8, f9, f10, fm9, fm10, f18⟩ := lF
  have hb1 := l1.2.2
  have hb' := hS.2.2
  have hp' := hS.p3
  unfold Bg at hb1 hb'
  have hs00 : 0 ≤ gI σ0 9 ∧ gI σ0 9 < 630 := by grind
  have hl00 : 0 ≤ gI μ0 9 ∧ gI μ0 9 < v ∧ v < 2100 := by grind
  have hi := hRG.2.2.2.2.2.2.2.2
  have hRG2 : RG (QBd (gI σ0 9)) σ' μ3 (gI σ0 9 + 1) (gI σ0 10) (gI μ0 9 + 1) (gI σ0 8) (gI μ0 9) (gI σ1 9) (gI σ1 10) v (gI σ1 8) v k g cc fs fu fn ft := by
    refine hRG.st (QBd_st (gI σ0 9)) (fun i hk => ?_) (fun i hk => ?_) (fun i hk => ?_) (fun hk => ?_)
    · obtain ⟨d1, hb, d2, d3, d4, d5, d6, d7, d8, d9, d10⟩ := hi i hk
      unfold Bi at hb
      exact Agr.fr (μ := pI μ1 9 v) hE hC hM m10 (by grind) (by grind) ⟨by grind, by show fn (i + 1) ≤ v; grind⟩ (by grind)
    · obtain ⟨d1, hb, d2, d3, d4, d5, d6, d7, d8, d9, d10⟩ := hi i hk
      unfold Bi at hb
      exact (hC.1 (cc i) (by grind) (by grind)).2.2.2.2
    · obtain ⟨d1, hb, d2, d3, d4, d5, d6, d7, d8, d9, d10⟩ := hi i (by omega)
      unfold Bi at hb
      exact (hM.1 (g i) (by grind) (by show g i < v; grind)).2.2.2.1
    · obtain ⟨d1, hb, d2, d3, d4, d5, d6, d7, d8, d9, d10, d11, d12, d13⟩ := hi (k - 1) (by omega)
      unfold Bi at hb
      rw [if_neg (by omega)] at d12
      exact ((hM.1 (g (k - 1)) (by grind) (by show g (k - 1) < v; grind)).2.2.2.1).trans d12
  have hbi : Bi (gI σ1 9) (gI σ' 9) (gI σ1 10) (gI σ' 10) v (gI μ3 9) (gI σ1 8) v c := by
    have hc6 := c_lt6 (i_trans hb1.2.2.2.2.2.2.2.2.1 hc8) hc hb'.2.2.2.2.2.2.2.2.2.1 hb'.2.2.2.2.2.2.2.2.1
    clear hRG2 hi hRG hG hG2 hG0 h12 f12 nrow nk n20 hQ
    unfold Bi
    grind
  have hnx := hRG2.nx (QBd_st (gI σ0 9)) hQ hbi h17 h5 hl00.2.1 ⟨le_a1 x9, f10, le_a1 hl00.2.1, f8⟩
  have kl := hM.1 (gI μ0 9) hl00.1 hl00.2.1
  have ks := hC.2.1 (gI σ0 9) hs00.1 x9
  have hi2 := hRG2.2.2.2.2.2.2.2.2
  have hnm : ∀ i : Nat, i ≤ 4 → xB (lnk σ' k cc c) 3 (gI σ0 9 * 5 + nI i) = xB σ1 3 (gI σ0 9 * 5 + nI i) := by
    intro i h4
    have hk5 : 0 ≤ nI i ∧ nI i < 5 := ⟨i_le0 (nI_nneg (by omega)), (nI_lt31 (b := 5) (by omega) (by omega)).mpr (by omega)⟩
    have h50 := s5_rg (s := gI σ0 9) (i := i) hs00.1 (by grind) h4
    have f1 := five_lt (s' := gI σ1 9) hs00.1 x9 (by grind) hk5.1 hk5.2
    rw [lnk_B]
    exact hC.2.2.1 _ h50.1 f1.2
  refine ⟨lnk_S k cc c hS, ⟨(fE.tr hE).tr (lnk_E σ' k cc c), fR.tr hR, ?_, ?_, fP.tr hP (le_of1 h160 h161 x16) (by rw [x17]; exact Int32.le_refl _), h12.trans f12, by rw [lnk_I]; grind, by rw [lnk_I]; grind, by rw [lnk_I]; grind, by grind, by grind, by rw [lnk_I]; grind⟩, ⟨by rw [lnk_I, e14]; exact x14, by rw [lnk_I, e15]; exact x15, by rw [e16]; exact x16, by rw [e17]; exact x17, by rw [lnk_I]; grind, by grind⟩, ?_, ⟨by rw [lnk_A _ _ _ _ (by decide), ks.2.1]; exact y1, by rw [lnk_A _ _ _ _ (by decide), ks.2.2.1]; exact y2⟩, ⟨kl.1.trans z2, kl.2.2.2.1.trans z5, kl.2.2.2.2.2.2.2.2.1.trans z10, fun _ => ?_⟩, ⟨by omega, by rw [lnk_A _ _ _ _ (by decide), ks.1]; exact n20, ?_, fun i hk => ?_⟩, ?_, ?_, ?_⟩
  · have hf := fC.tr hC (by grind) (by grind) (by grind) (by grind) (by grind)
    obtain ⟨g1, g2, g3, g4⟩ := hf
    refine ⟨fun i p q => ?_, fun i p q => ?_, fun i p q => (lnk_B _ _ _ _ _ _).trans (g3 i p q), fun i p q => ?_⟩
    · have x := g1 i p q
      refine ⟨(lnk_A _ _ _ _ (by decide) _).trans x.1, (lnk_A _ _ _ _ (by decide) _).trans x.2.1, (lnk_A _ _ _ _ (by decide) _).trans x.2.2.1, (lnk_A _ _ _ _ (by decide) _).trans x.2.2.2.1, ?_⟩
      rw [lnk_17, if_neg]
      · exact x.2.2.2.2
      · intro ⟨v1, v2⟩
        obtain ⟨d1, hb, d2, d3, d4, d5, d6, d7, d8, d9, d10, d11, d12, d13⟩ := hi (k - 1) (by omega)
        unfold Bi at hb
        exact i_ne (a := i) (b := cc (k - 1)) p (by grind) v2
    · have x := g2 i p q
      exact ⟨(lnk_A _ _ _ _ (by decide) _).trans x.1, (lnk_A _ _ _ _ (by decide) _).trans x.2.1, (lnk_A _ _ _ _ (by decide) _).trans x.2.2.1, (lnk_A _ _ _ _ (by decide) _).trans x.2.2.2.1, (lnk_A _ _ _ _ (by decide) _).trans x.2.2.2.2⟩
    · have x := g4 i p q
      exact ⟨(lnk_A _ _ _ _ (by decide) _).trans x.1, (lnk_A _ _ _ _ (by decide) _).trans x.2.1, (lnk_A _ _ _ _ (by decide) _).trans x.2.2.1, (lnk_B _ _ _ _ _ _).trans x.2.2.2⟩
  · obtain ⟨g1, g2⟩ := fM
    refine ⟨fun i p q => ?_, fun i p q => (hM.2 i p (by show i < gI μ1 10; grind)).trans (g2 i p q)⟩
    have x := g1 i p q
    have y := hM.1 i p (by show i < v; grind)
    exact ⟨y.1.trans x.1, y.2.1.trans x.2.1, y.2.2.1.trans x.2.2.1, y.2.2.2.1.trans x.2.2.2.1, y.2.2.2.2.1.trans x.2.2.2.2.1, y.2.2.2.2.2.1.trans x.2.2.2.2.2.1, y.2.2.2.2.2.2.1.trans x.2.2.2.2.2.2.1, y.2.2.2.2.2.2.2.1.trans x.2.2.2.2.2.2.2.1, y.2.2.2.2.2.2.2.2.1.trans x.2.2.2.2.2.2.2.2.1, y.2.2.2.2.2.2.2.2.2.trans x.2.2.2.2.2.2.2.2.2⟩
  · have x := hP.1 (gI μ0 16) h160 (lt_of1 h160 h161 x16)
    exact ⟨x.1.trans p14, x.2.1.trans p15⟩
  · rw [show k + 1 - 1 = k by omega, upN_at]
    exact kl.2.2.1.trans z4
  · rw [if_pos (by omega)]
    refine (kl.2.1.trans z3).trans ?_
    by_cases c0 : k = 0
    · subst c0
      rw [if_neg (by omega), upN_at]
    · rw [if_pos (by omega), upN_ne _ _ (by omega)]
  · by_cases c0 : i = k
    · subst c0
      rw [upN_at, if_neg (by omega), hnm i n4, nk]
      exact ⟨by grind, by grind, h5, hB0.symm⟩
    · obtain ⟨r1, r2, r3⟩ := nrow i (by omega)
      obtain ⟨d1, hb, d2, d3, d4, d5, d6, d7, d8, d9, d10, d11, d12, d13⟩ := hi2 i (by omega)
      rw [upN_ne _ _ c0, hnm i (by omega), r3]
      refine ⟨r1, by grind, ?_, ((hM.1 (g i) r1 r2).2.2.2.2.2.2.2.2.2).symm⟩
      rw [d12, if_pos (by omega : i + 1 < k + 1)]
      by_cases c1 : i + 1 = k
      · rw [if_neg (by omega), c1, upN_at]
      · rw [if_pos (by omega), upN_ne _ _ c1]
  · rw [lnk_I, lnk_I, lnk_I, ← hc]
    exact hnx
  · have i8 := iv_eq (lnk_I σ' k cc c 8)
    have i9 := iv_eq (lnk_I σ' k cc c 9)
    have i10 := iv_eq (lnk_I σ' k cc c 10)
    have i13 := iv_eq (lnk_I σ' k cc c 13)
    have i18 := iv_eq (lnk_I σ' k cc c 18)
    unfold Gm at *
    omega
  · have i13 := iv_eq (lnk_I σ' k cc c 13)
    have i18 := iv_eq (lnk_I σ' k cc c 18)
    unfold Gm at *
    omega
