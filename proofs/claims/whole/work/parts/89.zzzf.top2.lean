theorem Sv.sim {σ μ : S5} {a : Int32} (h : Sv σ μ) (hm : Bm σ μ) (h0 : 0 ≤ a) (h1 : a < gI σ 9) : Sim (pI σ 15 a) μ := by
  obtain ⟨hw, hc, hb⟩ := id h
  have hp := h.p3
  unfold Bv at hb
  obtain ⟨b1, b2, b3, b4, b5, b6, b7, b8, b9, b10, b11, b12, b13, b14, b15, b16, b17, b18, b19, b20, b21, b22, b23⟩ := hb
  exact ⟨hw.I15, Ct_eq hc ((EqE.rf σ).I (by decide)) (EqR.rf μ), Bg_mk b1 b2 b3 b4 b5 b6 b7 b8 b9 b11 b13 b14 b15 b17 b19 h0 h1 hp.2 hm⟩
theorem Sim.sv {σ μ : S5} (h : Sim σ μ) : Sv σ μ := by
  obtain ⟨hw, hc, hb⟩ := id h
  have hp := h.p3
  unfold Bg at hb
  obtain ⟨b1, b2, b3, b4, b5, b6, b7, b8, b9, b10, b11, b12, b13, b14, b15, b16, b17, b18, b19, b20, b21, b22, b23⟩ := hb
  exact ⟨hw, hc, Bv_mk b1 b2 b3 b4 b5 b6 b7 b8 b9 b11 b13 b14 b15 b17 b19 (by grind) (by grind) hp.2 (by unfold Bm at b23; unfold Bw; omega)⟩
/-- what reading a program never writes: the reference -/
def EqT (μ ν : S5) : Prop := (∀ k : Nat, k ≤ 2 ∨ 22 ≤ k → gI ν k = gI μ k) ∧ (∀ k : Nat, 1 ≤ k → gJ ν k = gJ μ k) ∧ (∀ k : Nat, k ≤ 1 ∨ 19 ≤ k → gA ν k = gA μ k) ∧ (∀ k : Nat, 4 ≤ k → gB ν k = gB μ k) ∧ ν.2.2.2.2 = μ.2.2.2.2
theorem EqT.rf (μ : S5) : EqT μ μ := ⟨fun _ _ => rfl, fun _ _ => rfl, fun _ _ => rfl, fun _ _ => rfl, rfl⟩
theorem EqT.tr {σ τ ρ : S5} (h : EqT σ τ) (h2 : EqT τ ρ) : EqT σ ρ := ⟨fun k q => (h2.1 k q).trans (h.1 k q), fun k q => (h2.2.1 k q).trans (h.2.1 k q), fun k q => (h2.2.2.1 k q).trans (h.2.2.1 k q), fun k q => (h2.2.2.2.1 k q).trans (h.2.2.2.1 k q), h2.2.2.2.2.trans h.2.2.2.2⟩
theorem EqR.t {μ ν : S5} (h : EqR μ ν) : EqT μ ν := ⟨fun k q => h.1 k (by omega), h.2.1, fun k q => h.2.2.1 k (by omega), fun k q => h.2.2.2.1 k (by omega), h.2.2.2.2⟩
theorem EqT.I {σ τ : S5} {k : Nat} {v : Int32} (h : EqT σ τ) (hk : 3 ≤ k ∧ k ≤ 21) : EqT σ (pI τ k v) := ⟨fun j q => by rw [gI_pI, if_neg (by omega)]; exact h.1 j q, h.2⟩
theorem EqT.A {σ τ : S5} {k : Nat} {i v : Int32} (h : EqT σ τ) (hk : 2 ≤ k ∧ k ≤ 18) : EqT σ (pA τ k i v) := ⟨h.1, h.2.1, fun j q => by rw [gA_ne _ _ _ (by omega)]; exact h.2.2.1 j q, h.2.2.2⟩
theorem EqT.B {σ τ : S5} {k : Nat} {i : Int32} {v : Int64} (h : EqT σ τ) (hk : k ≤ 3) : EqT σ (pB τ k i v) := ⟨h.1, h.2.1, h.2.2.1, fun j q => by rw [gB_ne _ _ _ (by omega)]; exact h.2.2.2.1 j q, h.2.2.2.2⟩
/-- a function at the top: its scope s, its node a, its E -/
def QF (σ μ : S5) (i : Nat) (s s' u u' a b t c : Int32) : Prop := xB σ 1 (nI i) = xB μ 2 (nI i) ∧ (xA σ 8 (nI i) = s ∧ xA σ 4 (nI i) = 0 ∧ xA σ 11 (nI i) = 0) ∧ (xA μ 12 (nI i) = a ∧ xA μ 11 (nI i) = xA μ 6 a ∧ xA μ 2 a = 12) ∧ (xA σ 21 s = -1 ∧ xA σ 22 s = s ∧ xA σ 24 s = xA μ 6 a) ∧ TNames σ μ s a ∧ xA σ 23 s = c ∧ xA σ 17 c = -1 ∧ TR σ μ s (s + 1) s' u u' (a + 1) b t (xA μ 3 a) c
/-- k functions have been read -/
def PG (σ μ : S5) (k : Nat) (cc fs fu fn ft : Nat → Int32) : Prop := (fs 0 = 0 ∧ fs k = gI σ 9 ∧ fu 0 = 0 ∧ fu k = gI σ 10 ∧ fn 0 = 0 ∧ fn k = gI μ 9 ∧ ft 0 = 0 ∧ ft k = gI σ 8) ∧ (∀ i, i < k → QF σ μ i (fs i) (fs (i + 1)) (fu i) (fu (i + 1)) (fn i) (fn (i + 1)) (ft i) (cc i) ∧ (0 ≤ fs i ∧ fs i < fs (i + 1) ∧ fs (i + 1) ≤ gI σ 9) ∧ (0 ≤ fu i ∧ fu i ≤ fu (i + 1) ∧ fu (i + 1) ≤ gI σ 10) ∧ (0 ≤ fn i ∧ fn i < fn (i + 1) ∧ fn (i + 1) ≤ gI μ 9) ∧ (0 ≤ ft i ∧ ft i ≤ cc i ∧ cc i < gI σ 8) ∧ ft (i + 1) = cc i + 1) ∧ (∀ i j, i < j → j < k → ¬ xB σ 1 (nI i) = xB σ 1 (nI j))
/-- both stand at the top, with k functions -/
def TP (μ0 σ μ : S5) (k : Nat) (cc fs fu fn ft : Nat → Int32) : Prop := Sv σ μ ∧ Bm σ μ ∧ (gI σ 15 = -1 ∧ gI σ 14 = 0 ∧ gI μ 16 = 0 ∧ gI μ 17 = 0 ∧ gI σ 7 = -1) ∧ (k ≤ 30 ∧ gI σ 5 = nI k ∧ gI σ 6 = nI k ∧ gI μ 13 = nI k) ∧ gI μ 12 - gI μ 11 = gI μ0 12 ∧ EqT μ0 μ ∧ PG σ μ k cc fs fu fn ft
/-- both have ended at a fault -/
def TD (μ0 : S5) (f p n : Int32) (σ' μ' : S5) : Prop := St f p n σ' ∧ gI μ' 7 = f ∧ gI μ' 8 = p ∧ gI μ' 11 = n ∧ gI μ' 12 - gI μ' 11 = gI μ0 12 ∧ EqT μ0 μ'
theorem nI_n30 {i : Nat} (h : i < 30) : 0 ≤ nI i ∧ nI i < 30 := ⟨i_le0 (nI_nneg (by omega)), (nI_lt31 (b := 30) (by omega) (by omega)).mpr h⟩
/-- the reference with a fault goes through a function's head -/
theorem rf_b180F {μ : S5} {v : Int32} (h7 : ¬ gI μ 7 = 0) : f_X12_readFunction_b180 v μ = some ((), μ) := by
  unfold f_X12_readFunction_b180
  rw [m_isS, bd_of, m_accF _ h7, bd_of, if_neg h7]
theorem rf_b73F {μ : S5} (h7 : ¬ gI μ 7 = 0) (h0 : 0 ≤ gI μ 9) (h1 : gI μ 9 < 3200) : f_X12_readFunction_b73 μ = some ((), pB (ndM μ 12) 0 (gI μ 9) (gJ μ 0)) := by
  have hF : ¬ gI (pB (ndM μ 12) 0 (gI μ 9) (gJ (ndM μ 12) 0)) 7 = 0 := h7
  unfold f_X12_readFunction_b73 f_X12_readFunction_b93 f_X12_readFunction_b123
  rw [if_neg (by grind), m_node 12 h0 h1, bd_of, gd3200 h0 h1, m_accF (μ := pB (ndM μ 12) 0 (gI μ 9) (gJ (ndM μ 12) 0)) _ hF, m_accF (μ := pB (ndM μ 12) 0 (gI μ 9) (gJ (ndM μ 12) 0)) _ hF, bd_of, if_neg hF, rf_b180F hF, ite_self]
  rfl
theorem rf_LF {μ F : S5} (h7 : ¬ gI F 7 = 0) (hF : ∃ τ, f_X12_readFunction_b73 F = some ((), τ)) (k : Nat) (hk : k ≤ 30) (h13 : gI F 13 = nI k) : ∀ (d i m : Nat), i + d = k → d < m → f_X12_readFunction_L2 m (nI i) F = f_X12_readFunction_b73 F := by
  intro d
  induction d with
  | zero =>
    intro i m hi hm
    obtain ⟨m, rfl⟩ : ∃ x, m = x + 1 := ⟨m - 1, by omega⟩
    show f_X12_readFunction_B2 _ _ _ = _
    unfold f_X12_readFunction_B2
    rw [h13, if_pos ((nI_le31 (by omega) (by omega)).mpr (by omega)), m_failF _ _ h7, bd_of, ite_self, ite_self]
  | succ d ih =>
    intro i m hi hm
    obtain ⟨m, rfl⟩ : ∃ x, m = x + 1 := ⟨m - 1, by omega⟩
    have hx := ih (i + 1) m (by omega) (by omega)
    have h640 : 0 ≤ nI i ∧ nI i < 640 := ⟨i_le0 (nI_nneg (by omega)), (nI_lt31 (b := 640) (by omega) (by omega)).mpr (by omega)⟩
    show f_X12_readFunction_B2 _ _ _ = _
    unfold f_X12_readFunction_B2 f_X12_readFunction_b41
    rw [h13, if_neg (fun w => by have := (nI_le31 (a := k) (b := i) (by omega) (by omega)).mp w; omega), m_failF _ _ h7, bd_of, nI_add1, hx, gd640 h640.1 h640.2, ite_self, ite_self]
/-- the name of a function: is it there? -/
theorem tl_loop {σ μ : S5} {k : Nat} (hk : k ≤ 30) (h5 : gI σ 5 = nI k) (h13 : gI μ 13 = nI k) (hrow : ∀ i, i < k → xB σ 1 (nI i) = xB μ 2 (nI i)) (h7 : gI μ 7 = 0) (h4 : gI μ 4 = 3) (hz : gJ σ 0 = gJ μ 0) (h9 : 0 ≤ gI μ 9) (h9' : gI μ 9 < 3200) : ∀ (d i m : Nat), i + d = k → d < m → ∃ r : Int32, f_X4_topOf_L2 m (gJ σ 0) (nI i) σ = some (r, σ) ∧ ((0 ≤ r ∧ f_X12_readFunction_L2 m (nI i) μ = f_X12_readFunction_b73 (pI (pI μ 7 2) 8 (gI μ 5))) ∨ (r = -1 ∧ (∀ j, i ≤ j → j < k → ¬ xB σ 1 (nI j) = gJ σ 0) ∧ f_X12_readFunction_L2 m (nI i) μ = if k = 30 then f_X12_readFunction_b73 (pI (pI μ 7 4) 8 (gI μ 5)) else f_X12_readFunction_b73 μ)) := by
  intro d
  induction d with
  | zero =>
    intro i m hi hm
    obtain ⟨m, rfl⟩ : ∃ x, m = x + 1 := ⟨m - 1, by omega⟩
    have hle : nI k ≤ nI i := (nI_le31 (by omega) (by omega)).mpr (by omega)
    refine ⟨-1, ?_, Or.inr ⟨rfl, fun j h1 h2 => by omega, ?_⟩⟩
    · show f_X4_topOf_B2 _ _ _ _ = _
      unfold f_X4_topOf_B2
      rw [h5, if_pos hle]
    · show f_X12_readFunction_B2 _ _ _ = _
      unfold f_X12_readFunction_B2
      rw [h13, if_pos hle, if_pos h4]
      by_cases c : k = 30
      · rw [if_pos c, if_pos (by rw [c]; rfl), m_fail0 _ _ h7, bd_of]
      · rw [if_neg c, if_neg]
        intro w
        have := nI_inj (a := k) (b := 30) (by omega) (by omega) w
        omega
  | succ d ih =>
    intro i m hi hm
    obtain ⟨m, rfl⟩ : ∃ x, m = x + 1 := ⟨m - 1, by omega⟩
    have hnle : ¬ nI k ≤ nI i := fun w => by have := (nI_le31 (a := k) (b := i) (by omega) (by omega)).mp w; omega
    have h30 := nI_n30 (i := i) (by omega)
    have hq := hrow i (by omega)
    by_cases he : lg_cmp (xB σ 1 (nI i)) (gJ σ 0) = 0
    · refine ⟨nI i, ?_, Or.inl ⟨h30.1, ?_⟩⟩
      · show f_X4_topOf_B2 _ _ _ _ = _
        unfold f_X4_topOf_B2
        rw [h5, if_neg hnle, gd30 h30.1 h30.2, if_pos he]
      · have hF7 : ¬ gI (pI (pI μ 7 2) 8 (gI μ 5)) 7 = 0 := (by decide : ¬ (2 : Int32) = 0)
        have hx := rf_LF (μ := μ) hF7 ⟨_, rf_b73F hF7 h9 h9'⟩ k hk (show gI (pI (pI μ 7 2) 8 (gI μ 5)) 13 = nI k from h13) d (i + 1) m (by omega) (by omega)
        show f_X12_readFunction_B2 _ _ _ = _
        unfold f_X12_readFunction_B2 f_X12_readFunction_b41
        rw [h13, if_neg hnle, if_pos h4, gd640 h30.1 (by grind), ← hq, ← hz, if_pos he, m_fail0 _ _ h7, bd_of, nI_add1, hx]
    · obtain ⟨r, e1, e2⟩ := ih (i + 1) m (by omega) (by omega)
      refine ⟨r, ?_, ?_⟩
      · show f_X4_topOf_B2 _ _ _ _ = _
        unfold f_X4_topOf_B2
        rw [h5, if_neg hnle, gd30 h30.1 h30.2, if_neg he, nI_add1, e1]
      · have hL : f_X12_readFunction_L2 (m + 1) (nI i) μ = f_X12_readFunction_L2 m (nI (i + 1)) μ := by
          show f_X12_readFunction_B2 _ _ _ = _
          unfold f_X12_readFunction_B2 f_X12_readFunction_b41
          rw [h13, if_neg hnle, if_pos h4, gd640 h30.1 (by grind), ← hq, ← hz, if_neg he, nI_add1]
        rw [hL]
        rcases e2 with e2 | ⟨e2, e3, e4⟩
        · exact Or.inl e2
        · refine Or.inr ⟨e2, fun j h1 h2 => ?_, e4⟩
          by_cases cj : j = i
          · rw [cj]
            intro w
            rw [w] at he
            exact he ((lg_cmp_eq _ _).mpr rfl)
          · exact e3 j (by omega) h2
/-- no name: nothing is looked for -/
theorem tl_no {μ : S5} {k : Nat} (hk : k ≤ 30) (h13 : gI μ 13 = nI k) (h4 : ¬ gI μ 4 = 3) : ∀ (d i m : Nat), i + d = k → d < m → f_X12_readFunction_L2 m (nI i) μ = f_X12_readFunction_b73 μ := by
  intro d
  induction d with
  | zero =>
    intro i m hi hm
    obtain ⟨m, rfl⟩ : ∃ x, m = x + 1 := ⟨m - 1, by omega⟩
    show f_X12_readFunction_B2 _ _ _ = _
    unfold f_X12_readFunction_B2
    rw [h13, if_pos ((nI_le31 (by omega) (by omega)).mpr (by omega)), if_neg h4]
  | succ d ih =>
    intro i m hi hm
    obtain ⟨m, rfl⟩ : ∃ x, m = x + 1 := ⟨m - 1, by omega⟩
    show f_X12_readFunction_B2 _ _ _ = _
    unfold f_X12_readFunction_B2 f_X12_readFunction_b41
    rw [h13, if_neg (fun w => by have := (nI_le31 (a := k) (b := i) (by omega) (by omega)).mp w; omega), if_neg h4, nI_add1, ih (i + 1) m (by omega) (by omega)]
