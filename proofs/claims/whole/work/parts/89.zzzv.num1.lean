/-- sums at the top -/
theorem PG.cn {σ μ : S5} {k : Nat} {cc fs fu fn ft : Nat → Int32} (hp : PG σ μ k cc fs fu fn ft) (h9 : gI σ 9 ≤ 630) (m9 : gI μ 9 ≤ 2200) {wc wm : Nat → Nat} (hL : Loc σ μ wc wm) (hT : ∀ i, i < k → wc (fs i).toNatClampNeg = wm (fn i).toNatClampNeg) : ∀ i, i ≤ k → prI wc (fs i) = prI wm (fn i) := by
  obtain ⟨⟨p1, p2, p3, p4, p5, p6, p7, p8⟩, hi, _⟩ := hp
  intro i
  induction i with
  | zero => intro _; rw [p1, p5]; rfl
  | succ i ih =>
    intro hk
    have q := ih (by omega)
    obtain ⟨hq, hs, hu, hn, ht, hc⟩ := hi i (by omega)
    obtain ⟨q1, q2, q3, q4, q5, q6, q7, q8⟩ := hq
    have c1 := q8.cn hL (by unfold Ow; rw [q4.2.1]; exact ⟨hs.1, by grind⟩)
    have c2 := Cn.o (s := fs i) (a := fn i) hn.1 (by grind) hs.1 (by grind) (hT i (by omega))
    have c3 := c2.tr c1
    unfold Cn at c3
    omega
theorem pre_le {w : Nat → Nat} (hw : ∀ i, w i ≤ 1) : ∀ (d n : Nat), pre w (n + d) ≤ pre w n + d := by
  intro d
  induction d with
  | zero => intro n; exact Nat.le_refl _
  | succ d ih =>
    intro n
    have := ih n
    have h1 := hw (n + d)
    show pre w (n + d) + w (n + d) ≤ _
    omega
theorem pre_mono {w : Nat → Nat} : ∀ (d n : Nat), pre w n ≤ pre w (n + d) := by
  intro d
  induction d with
  | zero => intro n; exact Nat.le_refl _
  | succ d ih =>
    intro n
    have := ih n
    show _ ≤ pre w (n + d) + w (n + d)
    omega
theorem fC_le (σ : S5) (i : Nat) : fC σ i ≤ 1 := by
  unfold fC
  by_cases h : xA σ 22 (nI i) = nI i ∧ ¬ xA σ 21 (nI i) = -1
  · rw [if_pos h]; exact Nat.le_refl _
  · rw [if_neg h]; omega
theorem fC_top {σ : S5} {s : Int32} (h0 : 0 ≤ s) (h : xA σ 21 s = -1) : fC σ s.toNatClampNeg = 0 := by
  unfold fC
  rw [xA_tn, xA_tn, if_neg (fun q => q.2 h)]
/-- there are no more functions than scopes -/
theorem PG.fle {σ μ : S5} {k : Nat} {cc fs fu fn ft : Nat → Int32} (hp : PG σ μ k cc fs fu fn ft) (h9 : gI σ 9 ≤ 630) : ∀ i, i ≤ k → prI (fC σ) (fs i) + i ≤ (fs i).toNatClampNeg := by
  obtain ⟨⟨p1, p2, p3, p4, p5, p6, p7, p8⟩, hi, _⟩ := hp
  intro i
  induction i with
  | zero => intro _; rw [p1]; exact Nat.le_refl _
  | succ i ih =>
    intro hk
    have q := ih (by omega)
    obtain ⟨hq, hs, hu, hn, ht, hc⟩ := hi i (by omega)
    have h4 := hq.2.2.2.1.1
    have e1 := prI_s (fC σ) hs.1 (by grind)
    rw [fC_top hs.1 h4] at e1
    have hlt : (fs i).toNatClampNeg < (fs (i + 1)).toNatClampNeg := i_lt (fun w => by grind) hs.2.1
    have e2 := pre_le (fC_le σ) ((fs (i + 1)).toNatClampNeg - ((fs i).toNatClampNeg + 1)) ((fs i).toNatClampNeg + 1)
    rw [show (fs i).toNatClampNeg + 1 + ((fs (i + 1)).toNatClampNeg - ((fs i).toNatClampNeg + 1)) = (fs (i + 1)).toNatClampNeg by omega] at e2
    unfold prI at *
    rw [tn_s hs.1 (by grind)] at e1
    omega
/-- what numbering functions never writes -/
def FrN (σ τ : S5) : Prop := (∀ j, ¬ j = 6 → gI τ j = gI σ j) ∧ (∀ j, gJ τ j = gJ σ j) ∧ (∀ j, ¬ j = 26 → ¬ j = 8 → ¬ j = 4 → ¬ j = 11 → ¬ j = 7 → gA τ j = gA σ j) ∧ (∀ j, gB τ j = gB σ j) ∧ τ.2.2.2.2 = σ.2.2.2.2
theorem FrN.rf (σ : S5) : FrN σ σ := ⟨fun _ _ => rfl, fun _ => rfl, fun _ _ _ _ _ _ => rfl, fun _ => rfl, rfl⟩
theorem FrN.tr {σ τ ρ : S5} (h : FrN σ τ) (h2 : FrN τ ρ) : FrN σ ρ := ⟨fun j q => (h2.1 j q).trans (h.1 j q), fun j => (h2.2.1 j).trans (h.2.1 j), fun j a b c d e => (h2.2.2.1 j a b c d e).trans (h.2.2.1 j a b c d e), fun j => (h2.2.2.2.1 j).trans (h.2.2.2.1 j), h2.2.2.2.2.trans h.2.2.2.2⟩
theorem FrN.A {σ τ : S5} {k : Nat} {i v : Int32} (h : FrN σ τ) (hk : k = 26 ∨ k = 8 ∨ k = 4 ∨ k = 11 ∨ k = 7) : FrN σ (pA τ k i v) := ⟨h.1, h.2.1, fun j a b c d e => by rw [gA_ne _ _ _ (by omega)]; exact h.2.2.1 j a b c d e, h.2.2.2⟩
theorem FrN.I {σ τ : S5} {v : Int32} (h : FrN σ τ) : FrN σ (pI τ 6 v) := ⟨fun j q => by rw [gI_pI, if_neg (by omega)]; exact h.1 j q, h.2⟩
theorem FrN.x {σ τ : S5} (h : FrN σ τ) (j : Nat) (i : Int32) (h1 : ¬ j = 26) (h2 : ¬ j = 8) (h3 : ¬ j = 4) (h4 : ¬ j = 11) (h5 : ¬ j = 7) : xA τ j i = xA σ j i := by
  show gA τ j i.toNatClampNeg = gA σ j i.toNatClampNeg
  rw [h.2.2.1 j h1 h2 h3 h4 h5]
/-- the numbers of the functions at the top -/
theorem nf_L2 {σ : S5} {k : Nat} {fs : Nat → Int32} (hk : k ≤ 30) (h5 : gI σ 5 = nI k) (hf : ∀ i, i < k → xA σ 8 (nI i) = fs i ∧ 0 ≤ fs i ∧ fs i < 630) (hd : ∀ i j, i < j → j < k → fs i < fs j) : ∀ (d i m : Nat) (τ : S5), i + d = k → d < m → gI τ 5 = nI k → (∀ x, xA τ 8 x = xA σ 8 x) → (∀ j, j < i → xA τ 26 (fs j) = nI j) → FrN σ τ → gI τ 6 = gI σ 6 → (∀ x, xA τ 4 x = xA σ 4 x ∧ xA τ 11 x = xA σ 11 x) → ∃ τ', f_X2_numberFunctions_L2 m (nI i) τ = f_X2_numberFunctions_L39 FU 0 τ' ∧ (∀ x, xA τ' 8 x = xA σ 8 x) ∧ (∀ j, j < k → xA τ' 26 (fs j) = nI j) ∧ FrN σ τ' ∧ gI τ' 6 = gI σ 6 ∧ (∀ x, xA τ' 4 x = xA σ 4 x ∧ xA τ' 11 x = xA σ 11 x) := by
  intro d
  induction d with
  | zero =>
    intro i m τ hi hm t5 t8 t26 hF t6 t4
    obtain ⟨m, rfl⟩ : ∃ m', m = m' + 1 := ⟨m - 1, by omega⟩
    refine ⟨τ, ?_, t8, fun j hj => t26 j (by omega), hF, t6, t4⟩
    show f_X2_numberFunctions_B2 _ _ _ = _
    unfold f_X2_numberFunctions_B2
    rw [t5, if_pos ((nI_le31 (by omega) (by omega)).mpr (by omega))]
  | succ d ih =>
    intro i m τ hi hm t5 t8 t26 hF t6 t4
    obtain ⟨m, rfl⟩ : ∃ m', m = m' + 1 := ⟨m - 1, by omega⟩
    have hc : ¬ nI k ≤ nI i := fun w => by have := (nI_le31 (by omega) (by omega)).mp w; omega
    have hi30 := nI_n30 (i := i) (by omega)
    have hf1 := hf i (by omega)
    obtain ⟨τ', q⟩ := ih (i + 1) m (pA τ 26 (fs i) (nI i)) (by omega) (by omega) t5 t8 (fun j hj => by
      by_cases hji : j = i
      · rw [hji, xA_pA, if_pos ⟨rfl, rfl⟩]
      · have hlt := hd j i (by omega) (by omega)
        have h2 := hf j (by omega)
        rw [xA_pA, if_neg (fun w => by have := (i_inj h2.2.1 hf1.2.1).mp w.2; grind)]
        exact t26 j (by omega)) (hF.A (Or.inl rfl)) t6 t4
    refine ⟨τ', ?_, q.2⟩
    rw [← q.1]
    show f_X2_numberFunctions_B2 _ _ _ = _
    unfold f_X2_numberFunctions_B2
    rw [t5, if_neg hc, t8, hf1.1, gd630 hi30.1 (by grind), gd700 hf1.2.1 (by grind), nI_add1]
