/-- both have read a case's E and k of its alternatives -/
def CI (σ0 μ0 σ μ : S5) (c0 s1 u1 a1 : Int32) (k : Nat) (g cc fs fu fn ft : Nat → Int32) : Prop :=
  Sim σ μ ∧ Fx σ0 μ0 σ μ ∧ (gI σ 14 = gI σ0 14 + 1 ∧ gI σ 15 = gI σ0 15 ∧ gI μ 16 = gI μ0 16 + 1 ∧ gI μ 17 = gI μ0 17) ∧ (gI σ0 9 ≤ s1 ∧ s1 ≤ gI σ 9 ∧ gI σ0 10 ≤ u1 ∧ u1 ≤ gI σ 10 ∧ gI μ0 9 + 1 ≤ a1 ∧ a1 ≤ gI μ 9 ∧ gI σ0 8 ≤ c0 ∧ c0 < gI σ 8) ∧ (xA μ 14 (gI μ0 16) = 5 ∧ xA μ 15 (gI μ0 16) = gI μ0 9) ∧ (xA μ 2 (gI μ0 9) = 3 ∧ xA μ 5 (gI μ0 9) = -1 ∧ xA μ 10 (gI μ0 9) = 0 ∧ xA μ 3 (gI μ0 9) = (if 0 < k then g 0 else -1) ∧ (0 < k → xA μ 4 (gI μ0 9) = g (k - 1))) ∧ (xA σ 17 c0 = (if 0 < k then cc 0 else -1) ∧ TR σ μ (gI σ0 15) (gI σ0 9) s1 (gI σ0 10) u1 (gI μ0 9 + 1) a1 (gI σ0 8) (xA μ 7 (gI μ0 9)) c0) ∧ k ≤ 8 ∧ RG (QA (gI σ0 15)) σ μ s1 u1 a1 (c0 + 1) (gI μ0 9) (gI σ 9) (gI σ 10) (gI μ 9) (gI σ 8) (-1) k g cc fs fu fn ft ∧ Gm 2 1 σ0 σ μ0 μ ∧ 2 * iv μ 9 + 2 * iv σ0 13 + iv σ0 18 + 1 ≤ 2 * iv μ0 9 + 2 * iv σ 13 + iv σ 18
/-- what the pattern of the alternative v is -/
def PK (σ μ : S5) (v ck con num : Int32) : Prop := (ck = 4 ∧ xA μ 8 v = 0 ∧ xA μ 7 v = con ∧ 0 ≤ con ∧ con < gI σ 4) ∨ (con = -1 ∧ ck = 5 ∧ xA μ 8 v = 1 ∧ xA μ 7 v = num ∧ 0 ≤ num) ∨ (con = -1 ∧ ck = 95 ∧ xA μ 8 v = 2)
/-- and the first word of the next, whose node is v -/
def CB (σ0 μ0 σ μ : S5) (c0 s1 u1 a1 : Int32) (k : Nat) (v ck con num : Int32) (g cc fs fu fn ft : Nat → Int32) : Prop :=
  Sim σ μ ∧ Fx σ0 μ0 σ μ ∧ (gI σ 14 = gI σ0 14 + 1 ∧ gI σ 15 = gI σ0 15 ∧ gI μ 16 = gI μ0 16 + 1 ∧ gI μ 17 = gI μ0 17 ∧ gI μ 9 = v + 1) ∧ (gI σ0 9 ≤ s1 ∧ s1 ≤ gI σ 9 ∧ gI σ0 10 ≤ u1 ∧ u1 ≤ gI σ 10 ∧ gI μ0 9 + 1 ≤ a1 ∧ a1 ≤ v ∧ gI σ0 8 ≤ c0 ∧ c0 < gI σ 8) ∧ (xA μ 14 (gI μ0 16) = 5 ∧ xA μ 15 (gI μ0 16) = gI μ0 9) ∧ (xA μ 2 (gI μ0 9) = 3 ∧ xA μ 5 (gI μ0 9) = -1 ∧ xA μ 10 (gI μ0 9) = 0 ∧ xA μ 3 (gI μ0 9) = (if 0 < k then g 0 else v) ∧ xA μ 4 (gI μ0 9) = v) ∧ (xA σ 17 c0 = (if 0 < k then cc 0 else -1) ∧ TR σ μ (gI σ0 15) (gI σ0 9) s1 (gI σ0 10) u1 (gI μ0 9 + 1) a1 (gI σ0 8) (xA μ 7 (gI μ0 9)) c0) ∧ k ≤ 7 ∧ (xA μ 2 v = 4 ∧ xA μ 5 v = -1 ∧ xA μ 10 v = 0 ∧ xA μ 9 v = gI μ 10) ∧ PK σ μ v ck con num ∧ RG (QA (gI σ0 15)) σ μ s1 u1 a1 (c0 + 1) (gI μ0 9) (gI σ 9) (gI σ 10) v (gI σ 8) v k g cc fs fu fn ft ∧ Gm 2 1 σ0 σ μ0 μ
/-- the class links an alternative to what is ahead of it -/
def lkA (σ : S5) (k : Nat) (cc : Nat → Int32) (c0 c : Int32) : S5 := pA σ 17 (if k = 0 then c0 else cc (k - 1)) c
theorem lkA_17 (σ : S5) (k : Nat) (cc : Nat → Int32) (c0 c i : Int32) : xA (lkA σ k cc c0 c) 17 i = if i.toNatClampNeg = (if k = 0 then c0 else cc (k - 1)).toNatClampNeg then c else xA σ 17 i := by
  unfold lkA
  rw [xA_pA]
  by_cases w : i.toNatClampNeg = (if k = 0 then c0 else cc (k - 1)).toNatClampNeg
  · rw [if_pos ⟨rfl, w⟩, if_pos w]
  · rw [if_neg (fun v => w v.2), if_neg w]
theorem lkA_A (σ : S5) (k : Nat) (cc : Nat → Int32) (c0 c : Int32) {j : Nat} (h : ¬ j = 17) (i : Int32) : xA (lkA σ k cc c0 c) j i = xA σ j i := by
  unfold lkA
  rw [xA_pA, if_neg (fun w => h w.1)]
theorem lkA_B (σ : S5) (k : Nat) (cc : Nat → Int32) (c0 c : Int32) (j : Nat) (i : Int32) : xB (lkA σ k cc c0 c) j i = xB σ j i := rfl
theorem lkA_I (σ : S5) (k : Nat) (cc : Nat → Int32) (c0 c : Int32) (j : Nat) : gI (lkA σ k cc c0 c) j = gI σ j := rfl
theorem lkA_E (σ : S5) (k : Nat) (cc : Nat → Int32) (c0 c : Int32) : EqE σ (lkA σ k cc c0 c) := (EqE.rf σ).A (by decide)
theorem lkA_S {σ μ : S5} (k : Nat) (cc : Nat → Int32) (c0 c : Int32) (h : Sim σ μ) : Sim (lkA σ k cc c0 c) μ := ⟨h.1, Ct_eq h.2.1 ((EqE.rf σ).A (by decide)) (EqR.rf μ), h.2.2⟩
theorem lkA_s {σ : S5} {k : Nat} {cc : Nat → Int32} {c0 c : Int32} (h : ¬ k = 0) : lkA σ k cc c0 c = lnk σ k cc c := by
  unfold lkA lnk
  rw [if_neg h, if_neg h]
/-- an alternative has been read: one more -/
theorem CB.ci {σ0 μ0 σ1 μ1 σ' μ3 : S5} {k : Nat} {c0 s1 u1 a1 v ck con num c : Int32} {g cc fs fu fn ft : Nat → Int32} (hs0 : Sim σ0 μ0) (h : CB σ0 μ0 σ1 μ1 c0 s1 u1 a1 k v ck con num g cc fs fu fn ft) (h160 : 0 ≤ gI μ0 16) (h161 : gI μ0 16 < 3100) (h170 : 0 ≤ gI μ0 17) (hS : Sim σ' μ3) (hE : EqE σ1 σ') (hR : EqR μ1 μ3) (hC : FrC σ1 σ') (hM : FrM (pI μ1 9 v) μ3) (hP : PF μ1 μ3) (h12 : gI μ3 12 - gI μ3 11 = gI μ1 12 - gI μ1 11) (k8 : gI σ1 8 ≤ gI σ' 8) (k9 : gI σ1 9 ≤ gI σ' 9) (k10 : gI σ1 10 ≤ gI σ' 10) (k18 : gI σ1 18 ≤ gI σ' 18) (m9 : v < gI μ3 9) (m10 : gI μ1 10 ≤ gI μ3 10) (e14 : gI σ' 14 = gI σ1 14) (e15 : gI σ' 15 = gI σ1 15) (e16 : gI μ3 16 = gI μ1 16) (e17 : gI μ3 17 = gI μ1 17) (hQ : QA (gI σ0 15) σ' μ3 k (gI σ1 9) (gI σ' 9) (gI σ1 10) (gI σ' 10) v (gI μ3 9) (gI σ1 8) v c) (hc : c + 1 = gI σ' 8) (hc8 : gI σ1 8 ≤ c) (h17 : xA σ' 17 c = -1) (h5 : xA μ3 5 v = -1) (hG : Gm 0 0 σ1 σ' μ1 μ3) (hG2 : 2 * iv μ3 9 + 2 * iv σ1 13 + iv σ1 18 + 1 ≤ 2 * iv μ1 9 + 2 * iv σ' 13 + iv σ' 18) : CI σ0 μ0 (lkA σ' k cc c0 c) μ3 c0 s1 u1 a1 (k + 1) (upN g k v) (upN cc k c) (upN fs (k + 1) (gI σ' 9)) (upN fu (k + 1) (gI σ' 10)) (upN fn (k + 1) (gI μ3 9)) (upN ft (k + 1) (c + 1)) := by
  have hb0 := hs0.2.2
  unfold Bg at hb0
  obtain ⟨l1, lF, ⟨x14, x15, x16, x17, x9⟩, ⟨r1, r2, r3, r4, r5, r6, r7, r8⟩, ⟨p14, p15⟩, ⟨z2, z5, z10, z3, z4⟩, ⟨a17, aT⟩, hk7, ⟨w2, w5, w10, w9⟩, hPK, hRG, hG0⟩ := h
  obtain ⟨fE, fR, fC, fM, fP, f12, f8, f9, f10, fm9, fm10, f18⟩ := lF
  have hb1 := l1.2.2
  have hb' := hS.2.2
  have hp' := hS.p3
  unfold Bg at hb1 hb'
  have hs00 : 0 ≤ gI σ0 9 ∧ gI σ0 9 ≤ 630 := by grind
  have hl00 : 0 ≤ gI μ0 9 ∧ gI μ0 9 < v ∧ v < 2100 := by grind
  have hc00 : 0 ≤ c0 := by grind
  have hi := hRG.2.2.2.2.2.2.2.2
  have hRG2 : RG (QA (gI σ0 15)) σ' μ3 s1 u1 a1 (c0 + 1) (gI μ0 9) (gI σ1 9) (gI σ1 10) v (gI σ1 8) v k g cc fs fu fn ft := by
    refine hRG.st (QA_st (gI σ0 15)) (fun i hk => ?_) (fun i hk => ?_) (fun i hk => ?_) (fun hk => ?_)
    · obtain ⟨d1, hb, d2, d3, d4, d5, d6, d7, d8, d9, d10⟩ := hi i hk
      unfold Bi at hb
      exact Agr.fr (μ := pI μ1 9 v) hE hC hM m10 (by grind) (by grind) ⟨by grind, by show fn (i + 1) ≤ v; grind⟩ (by grind)
    · obtain ⟨d1, hb, d2, d3, d4, d5, d6, d7, d8, d9, d10⟩ := hi i hk
      unfold Bi at hb
      exact (hC.1 (cc i) (by grind) (by grind)).2.2.2.2
    · obtain ⟨d1, hb, d2, d3, d4, d5, d6, d7, d8, d9, d10⟩ := hi i (by omega)
      unfold Bi at hb
      exact (hM.1 (g i) (by grind) (by show g i < v; grind)).2.2.2.1
    · obtain ⟨d1, hb, d2, d3, d4, d5, d6, d7, d8, d9, d10, d11, d12, d13⟩ := hi (k - 1) (by omega)
      unfold Bi at hb
      rw [if_neg (by omega)] at d12
      exact ((hM.1 (g (k - 1)) (by grind) (by show g (k - 1) < v; grind)).2.2.2.1).trans d12
  have hc6 := c_lt6 (i_trans hb1.2.2.2.2.2.2.2.2.1 hc8) hc hb'.2.2.2.2.2.2.2.2.2.1 hb'.2.2.2.2.2.2.2.2.1
  have hbi : Bi (gI σ1 9) (gI σ' 9) (gI σ1 10) (gI σ' 10) v (gI μ3 9) (gI σ1 8) v c := by
    clear hRG2 hi hRG hG hG2 hG0 h12 f12 hQ aT
    unfold Bi
    grind
  have hcl8 : c0 + 1 ≤ gI σ1 8 := by grind
  have hnx := hRG2.nx (QA_st (gI σ0 15)) hQ hbi h17 h5 hl00.2.1 ⟨r2, r4, r6, hcl8⟩
  have hcc0 : 0 < k → c0 < cc (k - 1) := by
    intro hk
    obtain ⟨d1, hb, d2, d3, d4, d5, d6, d7, d8, d9, d10⟩ := hi (k - 1) (by omega)
    unfold Bi at hb
    grind
  have hix : 0 ≤ (if k = 0 then c0 else cc (k - 1)) ∧ c0 ≤ (if k = 0 then c0 else cc (k - 1)) := by
    by_cases ck0 : k = 0
    · rw [if_pos ck0]; exact ⟨hc00, Int32.le_refl _⟩
    · rw [if_neg ck0]
      have := hcc0 (by omega)
      grind
  have hRGW : RG (QA (gI σ0 15)) (lkA σ' k cc c0 c) μ3 s1 u1 a1 (c0 + 1) (gI μ0 9) (gI σ' 9) (gI σ' 10) (gI μ3 9) (c + 1) (-1) (k + 1) (upN g k v) (upN cc k c) (upN fs (k + 1) (gI σ' 9)) (upN fu (k + 1) (gI σ' 10)) (upN fn (k + 1) (gI μ3 9)) (upN ft (k + 1) (c + 1)) := by
    by_cases ck0 : k = 0
    · subst ck0
      have hi1 := hnx.2.2.2.2.2.2.2.2
      have hl0 : lnk σ' 0 cc c = σ' := if_pos rfl
      rw [hl0] at hi1
      rw [hl0] at hnx
      refine hnx.st (QA_st (gI σ0 15)) (fun i hk => ?_) (fun i hk => ?_) (fun i hk => rfl) (fun hk => ?_)
      · obtain ⟨d1, hb, d2, d3, d4, d5, d6, d7, d8, d9, d10⟩ := hi1 i hk
        unfold Bi at hb
        refine ⟨fun x _ _ => ⟨lkA_A _ _ _ _ _ (by decide) _, lkA_A _ _ _ _ _ (by decide) _, lkA_A _ _ _ _ _ (by decide) _, lkA_A _ _ _ _ _ (by decide) _⟩, fun x p q => ?_, fun x _ _ => ⟨lkA_A _ _ _ _ _ (by decide) _, lkA_A _ _ _ _ _ (by decide) _, lkA_A _ _ _ _ _ (by decide) _, lkA_A _ _ _ _ _ (by decide) _⟩, fun x _ _ => lkA_A _ _ _ _ _ (by decide) _, fun x _ _ => rfl, fun x _ _ => ⟨lkA_A _ _ _ _ _ (by decide) _, lkA_A _ _ _ _ _ (by decide) _, lkA_A _ _ _ _ _ (by decide) _, rfl⟩, fun x _ _ => ⟨rfl, rfl, rfl, rfl, rfl, rfl, rfl, rfl, rfl⟩, fun x _ _ _ => rfl, fun x _ _ => rfl, Int32.le_refl _, rfl, fun x _ _ => lkA_A _ _ _ _ _ (by decide) _⟩
        rw [lkA_17, if_pos rfl, if_neg (i_ne' (a := c0) (b := x) hc00 (by grind))]
      · obtain ⟨d1, hb, d2, d3, d4, d5, d6, d7, d8, d9, d10⟩ := hi1 i hk
        unfold Bi at hb
        rw [lkA_17, if_pos rfl, if_neg (i_ne' (a := c0) hc00 (by grind))]
      · obtain ⟨d1, hb, d2, d3, d4, d5, d6, d7, d8, d9, d10, d11, d12, d13⟩ := hi1 (0 + 1 - 1) (by omega)
        rw [if_neg (by omega)] at d12
        exact d12
    · rw [lkA_s ck0]; exact hnx
  have kl := hM.1 (gI μ0 9) hl00.1 hl00.2.1
  have kc := hC.1 c0 hc00 r8
  refine ⟨lkA_S k cc c0 c hS, ⟨(fE.tr hE).tr (lkA_E σ' k cc c0 c), fR.tr hR, ?_, ?_, fP.tr hP (le_of1 h160 h161 x16) (by rw [x17]; exact Int32.le_refl _), h12.trans f12, by rw [lkA_I]; exact i_trans f8 k8, by rw [lkA_I]; exact i_trans f9 k9, by rw [lkA_I]; exact i_trans f10 k10, by grind, i_trans fm10 m10, by rw [lkA_I]; exact i_trans f18 k18⟩, ⟨by rw [lkA_I, e14]; exact x14, by rw [lkA_I, e15]; exact x15, by rw [e16]; exact x16, by rw [e17]; exact x17⟩, ⟨r1, by rw [lkA_I]; exact i_trans r2 k9, r3, by rw [lkA_I]; exact i_trans r4 k10, r5, by grind, r7, by rw [lkA_I]; grind⟩, ?_, ⟨kl.1.trans z2, kl.2.2.2.1.trans z5, kl.2.2.2.2.2.2.2.2.1.trans z10, ?_, fun _ => ?_⟩, ⟨?_, ?_⟩, by omega, ?_, ?_, ?_⟩
  · have hf := fC.tr hC f8 f9 f10 (by grind) (by grind)
    obtain ⟨g1, g2, g3, g4⟩ := hf
    refine ⟨fun i p q => ?_, fun i p q => ?_, fun i p q => g3 i p q, fun i p q => ?_⟩
    · have x := g1 i p q
      refine ⟨(lkA_A _ _ _ _ _ (by decide) _).trans x.1, (lkA_A _ _ _ _ _ (by decide) _).trans x.2.1, (lkA_A _ _ _ _ _ (by decide) _).trans x.2.2.1, (lkA_A _ _ _ _ _ (by decide) _).trans x.2.2.2.1, ?_⟩
      rw [lkA_17, if_neg (i_ne p (by grind))]
      exact x.2.2.2.2
    · have x := g2 i p q
      exact ⟨(lkA_A _ _ _ _ _ (by decide) _).trans x.1, (lkA_A _ _ _ _ _ (by decide) _).trans x.2.1, (lkA_A _ _ _ _ _ (by decide) _).trans x.2.2.1, (lkA_A _ _ _ _ _ (by decide) _).trans x.2.2.2.1, (lkA_A _ _ _ _ _ (by decide) _).trans x.2.2.2.2⟩
    · have x := g4 i p q
      exact ⟨(lkA_A _ _ _ _ _ (by decide) _).trans x.1, (lkA_A _ _ _ _ _ (by decide) _).trans x.2.1, (lkA_A _ _ _ _ _ (by decide) _).trans x.2.2.1, x.2.2.2⟩
  · obtain ⟨g1, g2⟩ := fM
    refine ⟨fun i p q => ?_, fun i p q => (hM.2 i p (by show i < gI μ1 10; grind)).trans (g2 i p q)⟩
    have x := g1 i p q
    have y := hM.1 i p (by show i < v; grind)
    exact ⟨y.1.trans x.1, y.2.1.trans x.2.1, y.2.2.1.trans x.2.2.1, y.2.2.2.1.trans x.2.2.2.1, y.2.2.2.2.1.trans x.2.2.2.2.1, y.2.2.2.2.2.1.trans x.2.2.2.2.2.1, y.2.2.2.2.2.2.1.trans x.2.2.2.2.2.2.1, y.2.2.2.2.2.2.2.1.trans x.2.2.2.2.2.2.2.1, y.2.2.2.2.2.2.2.2.1.trans x.2.2.2.2.2.2.2.2.1, y.2.2.2.2.2.2.2.2.2.trans x.2.2.2.2.2.2.2.2.2⟩
  · have x := hP.1 (gI μ0 16) h160 (lt_of1 h160 h161 x16)
    exact ⟨x.1.trans p14, x.2.1.trans p15⟩
  · rw [if_pos (by omega)]
    refine (kl.2.1.trans z3).trans ?_
    by_cases c0' : k = 0
    · subst c0'
      rw [if_neg (by omega), upN_at]
    · rw [if_pos (by omega), upN_ne _ _ (by omega)]
  · rw [show k + 1 - 1 = k by omega, upN_at]
    exact kl.2.2.1.trans z4
  · rw [if_pos (by omega), lkA_17]
    by_cases ck0 : k = 0
    · subst ck0
      rw [if_pos rfl, if_pos rfl, upN_at]
    · rw [if_neg ck0, if_neg (i_ne hc00 (hcc0 (by omega))), kc.2.2.2.2, a17, if_pos (by omega), upN_ne _ _ (by omega)]
  · have hbd := aT.un.1
    unfold Bd at hbd
    rw [show xA μ3 7 (gI μ0 9) = xA μ1 7 (gI μ0 9) from kl.2.2.2.2.2.1]
    have t1 := aT.st (Agr.fr (μ := pI μ1 9 v) hE hC hM m10 ⟨by grind, by grind, by grind, by grind⟩ ⟨by grind, by grind⟩ ⟨by grind, by show a1 ≤ v; exact r6⟩ ⟨by grind, r8⟩)
    refine t1.st ⟨fun x _ _ => ⟨lkA_A _ _ _ _ _ (by decide) _, lkA_A _ _ _ _ _ (by decide) _, lkA_A _ _ _ _ _ (by decide) _, lkA_A _ _ _ _ _ (by decide) _⟩, fun x p q => ?_, fun x _ _ => ⟨lkA_A _ _ _ _ _ (by decide) _, lkA_A _ _ _ _ _ (by decide) _, lkA_A _ _ _ _ _ (by decide) _, lkA_A _ _ _ _ _ (by decide) _⟩, fun x _ _ => lkA_A _ _ _ _ _ (by decide) _, fun x _ _ => rfl, fun x _ _ => ⟨lkA_A _ _ _ _ _ (by decide) _, lkA_A _ _ _ _ _ (by decide) _, lkA_A _ _ _ _ _ (by decide) _, rfl⟩, fun x _ _ => ⟨rfl, rfl, rfl, rfl, rfl, rfl, rfl, rfl, rfl⟩, fun x _ _ _ => rfl, fun x _ _ => rfl, Int32.le_refl _, rfl, fun x _ _ => lkA_A _ _ _ _ _ (by decide) _⟩
    rw [lkA_17, if_neg (i_ne (a := x) (by grind) (by grind))]
  · rw [lkA_I, lkA_I, lkA_I, ← hc]
    exact hRGW
  · have i8 := iv_eq (lkA_I σ' k cc c0 c 8)
    have i9 := iv_eq (lkA_I σ' k cc c0 c 9)
    have i10 := iv_eq (lkA_I σ' k cc c0 c 10)
    have i13 := iv_eq (lkA_I σ' k cc c0 c 13)
    have i18 := iv_eq (lkA_I σ' k cc c0 c 18)
    unfold Gm at *
    omega
  · have i13 := iv_eq (lkA_I σ' k cc c0 c 13)
    have i18 := iv_eq (lkA_I σ' k cc c0 c 18)
    unfold Gm at *
    omega
