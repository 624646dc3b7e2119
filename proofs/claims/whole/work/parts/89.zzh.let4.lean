/-- a binding's right side has been read: all but its own node -/
def LM (σ0 σ1 μ1 σ8 M : S5) (v c1 : Int32) : Prop :=
  Sim σ8 M ∧ EqE σ1 σ8 ∧ EqR μ1 M ∧ FrC σ1 σ8 ∧ FrM (pI μ1 9 v) M ∧ PF μ1 M ∧ gI M 12 - gI M 11 = gI μ1 12 - gI μ1 11 ∧ (gI σ1 8 ≤ c1 ∧ gI σ1 9 ≤ gI σ8 9 ∧ gI σ1 10 ≤ gI σ8 10 ∧ gI σ1 18 ≤ gI σ8 18 ∧ v < gI M 9 ∧ gI μ1 10 ≤ gI M 10) ∧ (gI σ8 14 = gI σ1 14 ∧ gI σ8 15 = gI σ1 15 ∧ gI M 16 = gI μ1 16 ∧ gI M 17 = gI μ1 17) ∧ (c1 + 1 = gI σ8 8 ∧ xA σ8 17 c1 = -1) ∧ (xA M 2 v = 1 ∧ xA M 5 v = -1 ∧ xB M 0 v = xB μ1 0 v) ∧ ((xA M 10 v = 0 ∧ TR σ8 M (gI σ0 9) (gI σ1 9) (gI σ8 9) (gI σ1 10) (gI σ8 10) (v + 1) (gI M 9) (gI σ1 8) (xA M 3 v) c1) ∨ TFun σ8 M (TR σ8 M) (gI σ0 9) (gI σ1 9) (gI σ8 9) (gI σ1 10) (gI σ8 10) v (gI M 9) (gI σ1 8) c1) ∧ Gm 1 0 σ1 σ8 μ1 M ∧ 2 * iv M 9 + 2 * iv σ1 13 + iv σ1 18 + 1 ≤ 2 * iv μ1 9 + 2 * iv σ8 13 + iv σ8 18
theorem cN_gI (σ : S5) (a b c d : Int32) {j : Nat} (h : ¬ j = 8) : gI (cN σ a b c d) j = gI σ j := by
  unfold cN
  rw [gI_pI, if_neg h]
  rfl
theorem Wd.cN {σ μ : S5} {a b c d : Int32} (h : Wd σ μ) : Wd (cN σ a b c d) μ := h
theorem c_of1 {c x : Int32} (h0 : 0 ≤ c) (h : c + 1 = x) (hx0 : 0 ≤ x) : c < x := by
  subst h
  grind
/-- its own node is made: one binding more -/
theorem LM.li {σ0 μ0 σ1 μ1 σ8 M : S5} {k : Nat} {v pl c1 : Int32} {g cc fs fu fn ft : Nat → Int32} (hs0 : Sim σ0 μ0) (h : LB σ0 μ0 σ1 μ1 k v pl g cc fs fu fn ft) (h160 : 0 ≤ gI μ0 16) (h161 : gI μ0 16 < 3100) (h170 : 0 ≤ gI μ0 17) (hm : LM σ0 σ1 μ1 σ8 M v c1) : LI σ0 μ0 (lnk (cN σ8 10 (gI σ0 9 * 5 + nI k) 0 c1) k cc (gI σ8 8)) M (k + 1) (upN g k v) (upN cc k (gI σ8 8)) (upN fs (k + 1) (gI σ8 9)) (upN fu (k + 1) (gI σ8 10)) (upN fn (k + 1) (gI M 9)) (upN ft (k + 1) (gI σ8 8 + 1)) := by
  have hb0 := hs0.2.2
  unfold Bg at hb0
  have hl := h
  obtain ⟨l1, lF, ⟨x14, x15, x16, x17, x9, q9, q9'⟩, lp, ly, lz, ln, lw, lRG, lG⟩ := hl
  obtain ⟨m1, mE, mR, mC, mM, mQ, m12, ⟨k8, k9, k10, k18, j9, j10⟩, ⟨e14, e15, e16, e17⟩, ⟨c8, c17⟩, ⟨r2, r5, r0⟩, hT, hG, hG2⟩ := hm
  have hb1 := l1.2.2
  have hb8 := m1.2.2
  have hp8 := m1.p3
  unfold Bg at hb1 hb8
  obtain ⟨b1, b2, b3, b4, b5, b6, b7, b8, b9, b10, b11, b12, b13, b14, b15, b16, b17, b18, b19, b20, b21, b22, b23⟩ := hb8
  have hc10 : 0 ≤ c1 := i_trans hb1.2.2.2.2.2.2.2.2.1 k8
  have hcl := c_of1 hc10 c8 b9
  have hr := cN_row σ8 10 (gI σ0 9 * 5 + nI k) 0 c1
  have hf := FrC.N σ8 10 (gI σ0 9 * 5 + nI k) 0 c1
  have hE8 : EqE σ8 (cN σ8 10 (gI σ0 9 * 5 + nI k) 0 c1) := (EqE.rf σ8).N
  have SI : ∀ j, ¬ j = 8 → gI (cN σ8 10 (gI σ0 9 * 5 + nI k) 0 c1) j = gI σ8 j := fun j h => cN_gI _ _ _ _ _ h
  have S8 : gI (cN σ8 10 (gI σ0 9 * 5 + nI k) 0 c1) 8 = gI σ8 8 + 1 := rfl
  have hW : Wd (cN σ8 10 (gI σ0 9 * 5 + nI k) 0 c1) M := m1.1.cN
  generalize cN σ8 10 (gI σ0 9 * 5 + nI k) 0 c1 = S at *
  have hGm : Gm 0 0 σ1 S μ1 M := by
    have i8 := iv_a1 S8 b9 (by grind)
    have i9 := iv_eq (SI 9 (by decide))
    have i10 := iv_eq (SI 10 (by decide))
    have i13 := iv_eq (SI 13 (by decide))
    have i18 := iv_eq (SI 18 (by decide))
    unfold Gm at *
    omega
  have hSim : Sim S M := Sim.mk2 l1 hW (mE.tr hE8) mR hGm (by decide) (by decide) (by rw [SI 11 (by decide)]; exact b1) b2 (by rw [SI 13 (by decide)]; exact b3) (by rw [SI 13 (by decide)]; exact ⟨b4, b5⟩) (by rw [SI 14 (by decide)]; exact b6) (by rw [SI 14 (by decide)]; exact ⟨b7, b8⟩) (by rw [S8]; grind) (by rw [SI 9 (by decide)]; exact b11) (by rw [SI 10 (by decide)]; exact b15) b17 b19 (by rw [SI 15 (by decide), SI 9 (by decide)]; exact ⟨b21, b22⟩) (by rw [SI 18 (by decide)]; exact hp8.2)
  have hFC : FrC σ1 S := mC.tr hf (by grind) k9 k10 (by grind) (by grind)
  have hv0 : 0 ≤ v := by grind
  have hQ : QBd (gI σ0 9) S M k (gI σ1 9) (gI σ8 9) (gI σ1 10) (gI σ8 10) v (gI M 9) (gI σ1 8) v (gI σ8 8) := by
    refine ⟨r2, rfl, hr.1, hr.2.1, c1, hr.2.2.2.1, ?_, c8.symm, ?_⟩
    · rw [(hf.1 c1 hc10 hcl).2.2.2.2]; exact c17
    · rcases hT with ⟨t1, t2⟩ | t3
      · have hbd := t2.un.1
        unfold Bd at hbd
        refine Or.inl ⟨t1, t2.st (Agr.fr hE8 hf (FrM.rf M) (Int32.le_refl _) ⟨by grind, k9, Int32.le_refl _, by grind⟩ ⟨by grind, Int32.le_refl _⟩ ⟨by grind, Int32.le_refl _⟩ ⟨by grind, hcl⟩), ?_⟩
        unfold Wi
        grind
      · have hA : Agr σ8 S M M (gI σ1 9) (gI σ8 9) (gI σ1 10) (gI σ8 10) v (gI M 9) (gI σ1 8) v c1 := Agr.fr hE8 hf (FrM.rf M) (Int32.le_refl _) ⟨by grind, k9, Int32.le_refl _, by grind⟩ ⟨by grind, Int32.le_refl _⟩ ⟨by grind, Int32.le_refl _⟩ ⟨by grind, hcl⟩
        exact Or.inr (TFun_st hA (fun h1 s1 s1' u1 u1' a1 b1 t1 n1 c1 p wi x => p.st (hA.sub (by grind) (by grind) wi x)) (by grind) (by grind) (by grind) (Or.inl (Int32.le_refl _)) t3)
  have := LB.li hs0 h h160 h161 h170 hSim (mE.tr hE8) mR hFC mM mQ m12 (by rw [S8]; grind) (by rw [SI 9 (by decide)]; exact k9) (by rw [SI 10 (by decide)]; exact k10) (by rw [SI 18 (by decide)]; exact k18) j9 j10 (by rw [SI 14 (by decide)]; exact e14) (by rw [SI 15 (by decide)]; exact e15) e16 e17 (by rw [SI 9 (by decide), SI 10 (by decide)]; exact hQ) S8.symm (by grind) hr.2.2.2.2 r5 r0 hGm (by rw [iv_eq (SI 13 (by decide)), iv_eq (SI 18 (by decide))]; exact hG2)
  rw [SI 9 (by decide), SI 10 (by decide)] at this
  exact this
/-- the reference at a binding's end: its E hangs on it, and it is off the pile -/
def mEB (μ : S5) (v n : Int32) : S5 := pI (pA (pI μ 17 (gI μ 17 - 1)) 3 v n) 16 (gI μ 16 - 1)
def FB (μ9 M : S5) (v n9 : Int32) : Prop := gI M 16 = gI μ9 16 - 1 ∧ gI M 17 = gI μ9 17 - 1 ∧ (∀ k, ¬ k = 16 → ¬ k = 17 → gI M k = gI μ9 k) ∧ (∀ k i, ¬ k = 3 → xA M k i = xA μ9 k i) ∧ (∀ i : Int32, xA M 3 i = if i.toNatClampNeg = v.toNatClampNeg then n9 else xA μ9 3 i) ∧ (∀ k i, xB M k i = xB μ9 k i) ∧ EqR μ9 M ∧ gJ M 0 = gJ μ9 0
theorem fb_of (μ9 : S5) (v n9 : Int32) : FB μ9 (mEB μ9 v n9) v n9 := by
  refine ⟨rfl, rfl, fun k h1 h2 => ?_, fun k i h => ?_, fun i => ?_, fun k i => rfl, (((EqR.rf μ9).I (by decide)).A (by decide)).I (by decide), rfl⟩
  · unfold mEB
    rw [gI_pI, if_neg h1, gI_pA, gI_pI, if_neg h2]
  · unfold mEB
    rw [xA_pI, xA_pA, if_neg (fun w => h w.1), xA_pI]
  · unfold mEB
    rw [xA_pI, xA_pA, xA_pI]
    simp
theorem Wd.EB {σ μ : S5} {v n : Int32} (h : Wd σ μ) : Wd σ (mEB μ v n) := h
