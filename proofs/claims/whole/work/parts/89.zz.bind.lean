/-- the names of a let and its bindings so far: k of them -/
def BN (σ μ : S5) (s l : Int32) (k : Nat) (g : Nat → Int32) : Prop := k ≤ 5 ∧ xA σ 20 s = nI k ∧ xA μ 3 l = (if 0 < k then g 0 else -1) ∧ ∀ i, i < k → 0 ≤ g i ∧ g i < 3200 ∧ xA μ 5 (g i) = (if i + 1 < k then g (i + 1) else -1) ∧ xB σ 3 (s * 5 + nI i) = xB μ 0 (g i)
theorem bn_F {σ μ F : S5} {s l : Int32} {k : Nat} {g : Nat → Int32} (h : BN σ μ s l k g) (hF7 : 0 < gI F 7) (hF5 : ∀ i, xA F 5 i = xA μ 5 i) : ∀ (d i m : Nat), i + d = k → d < m → f_X12_binding_L17 m l (nI i) (if i < k then g i else -1) F = some ((), F) := by
  obtain ⟨h5, h20, h3, hrow⟩ := h
  have hn7 : ¬ gI F 7 = 0 := by grind
  have h87 : f_X12_binding_b87 l F = some ((), F) := by
    unfold f_X12_binding_b87 f_X12_binding_b102
    rw [if_pos hF7, bd_eta, m_wrongF hn7]
  intro d
  induction d with
  | zero =>
    intro i m hi hm
    obtain ⟨m, rfl⟩ : ∃ x, m = x + 1 := ⟨m - 1, by omega⟩
    rw [if_neg (by omega)]
    show f_X12_binding_B17 _ _ _ _ _ = _
    unfold f_X12_binding_B17
    rw [if_pos (by decide), m_failF _ _ hn7, bd_of, h87, ite_self, ite_self]
  | succ d ih =>
    intro i m hi hm
    obtain ⟨m, rfl⟩ : ∃ x, m = x + 1 := ⟨m - 1, by omega⟩
    obtain ⟨r1, r2, r3, r4⟩ := hrow i (by omega)
    rw [if_pos (by omega)]
    show f_X12_binding_B17 _ _ _ _ _ = _
    unfold f_X12_binding_B17 f_X12_binding_b55
    have hx := ih (i + 1) m (by omega) (by omega)
    rw [← r3, ← hF5, ← nI_add1] at hx
    rw [if_neg (by grind), m_failF _ _ hn7, bd_of, gd3200 r1 r2, gd3200 r1 r2, hx, ite_self, ite_self]
theorem bn_loop {σ μ : S5} {s l : Int32} {k : Nat} {g : Nat → Int32} (h : BN σ μ s l k g) (h7 : gI μ 7 = 0) (h3 : gI μ 4 = 3) (hz : gJ σ 0 = gJ μ 0) (hs0 : 0 ≤ s) (hs1 : s < 700) : ∀ (d i m : Nat), i + d = k → d < m → ∃ r : Int32, f_X6_variableIn_L3 m s (gJ σ 0) (nI i) σ = some (r, σ) ∧ ((0 ≤ r ∧ f_X12_binding_L17 m l (nI i) (if i < k then g i else -1) μ = some ((), pI (pI μ 7 2) 8 (gI μ 5))) ∨ (r = -1 ∧ f_X12_binding_L17 m l (nI i) (if i < k then g i else -1) μ = if k = 5 then some ((), pI (pI μ 7 4) 8 (gI μ 5)) else f_X12_binding_b87 l μ)) := by
  have hF := bn_F (F := pI (pI μ 7 2) 8 (gI μ 5)) h (by exact (by decide : (0 : Int32) < 2)) (fun i => rfl)
  obtain ⟨h5, h20, hf, hrow⟩ := h
  intro d
  induction d with
  | zero =>
    intro i m hi hm
    obtain ⟨m, rfl⟩ : ∃ x, m = x + 1 := ⟨m - 1, by omega⟩
    have hik : i = k := by omega
    refine ⟨-1, ?_, Or.inr ⟨rfl, ?_⟩⟩
    · show f_X6_variableIn_B3 _ _ _ _ _ = _
      unfold f_X6_variableIn_B3
      rw [gd700 hs0 hs1, h20, if_pos ((nI_le31 (by omega) (by omega)).mpr (by omega))]
    · rw [if_neg (by omega)]
      show f_X12_binding_B17 _ _ _ _ _ = _
      unfold f_X12_binding_B17
      rw [if_pos (by decide), if_pos h3]
      by_cases c : k = 5
      · rw [if_pos (show nI i = 5 by rw [hik, c]; rfl), if_pos c, m_fail0 _ _ h7, bd_of]
        unfold f_X12_binding_b87 f_X12_binding_b102
        rw [if_pos (show 0 < gI (pI (pI μ 7 4) 8 (gI μ 5)) 7 from (by decide : (0 : Int32) < 4)), bd_eta, m_wrongF (show ¬ gI (pI (pI μ 7 4) 8 (gI μ 5)) 7 = 0 from (by decide : ¬ (4 : Int32) = 0))]
      · rw [if_neg (show ¬ nI i = 5 by
          intro w
          have := nI_inj (a := i) (b := 5) (by omega) (by omega) w
          omega), if_neg c]
  | succ d ih =>
    intro i m hi hm
    obtain ⟨m, rfl⟩ : ∃ x, m = x + 1 := ⟨m - 1, by omega⟩
    obtain ⟨r1, r2, r3, r4⟩ := hrow i (by omega)
    have hik : i < k := by omega
    have hc : ¬ nI k ≤ nI i := fun w => by have := (nI_le31 (by omega) (by omega)).mp w; omega
    have hrg := s5_rg (i := i) hs0 hs1 (by omega)
    rw [if_pos hik]
    have hB : f_X12_binding_L17 (m + 1) l (nI i) (g i) μ = (if lg_cmp (xB μ 0 (g i)) (gJ μ 0) = 0 then f_X12_binding_L17 m l (nI (i + 1)) (if i + 1 < k then g (i + 1) else -1) (pI (pI μ 7 2) 8 (gI μ 5)) else f_X12_binding_L17 m l (nI (i + 1)) (if i + 1 < k then g (i + 1) else -1) μ) := by
      show f_X12_binding_B17 _ _ _ _ _ = _
      unfold f_X12_binding_B17 f_X12_binding_b55
      rw [if_neg (by grind), if_pos h3, gd3200 r1 r2, m_fail0 _ _ h7, bd_of, gd3200 r1 r2, gd3200 r1 r2, show xA (pI (pI μ 7 2) 8 (gI μ 5)) 5 (g i) = xA μ 5 (g i) from rfl, r3, nI_add1]
    rw [hB]
    by_cases he : lg_cmp (xB μ 0 (g i)) (gJ μ 0) = 0
    · refine ⟨s * 5 + nI i, ?_, Or.inl ⟨hrg.1, ?_⟩⟩
      · show f_X6_variableIn_B3 _ _ _ _ _ = _
        unfold f_X6_variableIn_B3
        rw [gd700 hs0 hs1, h20, if_neg hc, gd3500 hrg.1 hrg.2, r4, hz, if_pos he]
      · rw [if_pos he]
        exact hF d (i + 1) m (by omega) (by omega)
    · obtain ⟨r, e1, e2⟩ := ih (i + 1) m (by omega) (by omega)
      refine ⟨r, ?_, ?_⟩
      · show f_X6_variableIn_B3 _ _ _ _ _ = _
        unfold f_X6_variableIn_B3
        rw [gd700 hs0 hs1, h20, if_neg hc, gd3500 hrg.1 hrg.2, r4, hz, if_neg he, nI_add1, ← hz, e1]
      · rw [if_neg he]
        exact e2
/-- the reference at a binding that has no name -/
theorem bn_no {σ μ : S5} {s l : Int32} {k : Nat} {g : Nat → Int32} (h : BN σ μ s l k g) (h7 : gI μ 7 = 0) (h3 : ¬ gI μ 4 = 3) : ∀ (d i m : Nat), i + d = k → d < m → f_X12_binding_L17 m l (nI i) (if i < k then g i else -1) μ = some ((), pI (pI μ 7 1) 8 (gI μ 5)) := by
  obtain ⟨h5, h20, hf, hrow⟩ := h
  intro d
  induction d with
  | zero =>
    intro i m hi hm
    obtain ⟨m, rfl⟩ : ∃ x, m = x + 1 := ⟨m - 1, by omega⟩
    rw [if_neg (by omega)]
    show f_X12_binding_B17 _ _ _ _ _ = _
    unfold f_X12_binding_B17 f_X12_binding_b87 f_X12_binding_b102
    rw [if_pos (by decide), if_neg h3, if_neg (by rw [h7]; decide), if_neg h3, bd_eta, m_wrong0 h7]
  | succ d ih =>
    intro i m hi hm
    obtain ⟨m, rfl⟩ : ∃ x, m = x + 1 := ⟨m - 1, by omega⟩
    obtain ⟨r1, r2, r3, r4⟩ := hrow i (by omega)
    rw [if_pos (by omega)]
    show f_X12_binding_B17 _ _ _ _ _ = _
    unfold f_X12_binding_B17 f_X12_binding_b55
    have hx := ih (i + 1) m (by omega) (by omega)
    rw [← r3, ← nI_add1] at hx
    rw [if_neg (by grind), if_neg h3, gd3200 r1 r2]
    exact hx
/-- a binding's name: class and reference alike -/
theorem bn_go {σ μ : S5} (hs : Sim σ μ) {s l : Int32} {k : Nat} {g : Nat → Int32} (h : BN σ μ s l k g) (hs0 : 0 ≤ s) (hs1 : s < 700) (hl0 : 0 ≤ l) (hl1 : l < 3200) : (∃ (f : Int32) (τ : S5), f_X5_declare s σ = some (0, τ) ∧ St f (gI σ 18) (gI σ 13) τ ∧ f_X12_binding l μ = some ((), pI (pI μ 7 f) 8 (gI μ 5))) ∨ (gI σ 17 = 3 ∧ k ≤ 4 ∧ f_X5_declare s σ = bd (f_X10_advance (cNm σ s k)) (fun _ τ => some (s * 5 + nI k, τ)) ∧ f_X12_binding l μ = f_X12_binding_b87 l μ) := by
  have hb := hs.2.2
  unfold Bg at hb
  have w3 := hs.1.2.2.1
  have w4 := hs.1.2.2.2.1
  have hbd : f_X12_binding l μ = f_X12_binding_L17 FU l (nI 0) (if 0 < k then g 0 else -1) μ := by
    unfold f_X12_binding
    rw [if_pos (by rw [hb.2.1]; decide), gd3200 hl0 hl1, h.2.2.1]
    rfl
  have hk5 := h.1
  have h20 := h.2.1
  by_cases h3 : gI σ 17 = 3
  · have hm3 : gI μ 4 = 3 := by rw [w3, h3]; decide
    have hz : gJ σ 0 = gJ μ 0 := hs.1.2.2.2.2.2.2.2.2.2.1 (Or.inl h3)
    obtain ⟨r, e1, e2⟩ := bn_loop h hb.2.1 hm3 hz hs0 hs1 k 0 FU (by omega) (FU_big (by omega))
    have hhas : f_X6_has s (gJ σ 0) σ = some (if r = -1 then 0 else 1, σ) := by
      unfold f_X6_has f_X6_variableIn
      rw [show f_X6_variableIn_L3 FU s (gJ σ 0) 0 σ = some (r, σ) from e1, bd_of, ite_some]
    rw [hbd]
    rcases e2 with ⟨e2, e3⟩ | ⟨e2, e3⟩
    · left
      obtain ⟨τ, g1, g2⟩ := c_ref hs (k := 2) (by decide)
      refine ⟨2, τ, ?_, g2, e3⟩
      unfold f_X5_declare
      rw [if_pos h3, hhas, bd_of, if_neg (show ¬ r = -1 by intro w; rw [w] at e2; exact absurd e2 (by decide)), if_neg (by decide), g1, bd_of]
    · by_cases c : k = 5
      · left
        rw [if_pos c] at e3
        obtain ⟨τ, g1, g2⟩ := c_ref hs (k := 4) (by decide)
        refine ⟨4, τ, ?_, g2, e3⟩
        unfold f_X5_declare
        rw [if_pos h3, hhas, bd_of, if_pos e2, if_pos rfl, gd700 hs0 hs1, h20, if_neg (by rw [c]; decide), g1, bd_of]
      · right
        rw [if_neg c] at e3
        refine ⟨h3, by omega, ?_, e3⟩
        have hrg := s5_rg (i := k) hs0 hs1 (by omega)
        have hlt : nI k < 5 := (nI_lt31 (a := k) (b := 5) (by omega) (by omega)).mpr (by omega)
        unfold f_X5_declare
        rw [if_pos h3, hhas, bd_of, if_pos e2, if_pos rfl, gd700 hs0 hs1, h20, if_pos hlt]
        unfold f_X6_addName
        simp only [gd700 hs0 hs1, h20, gd3500 hrg.1 hrg.2, bd_of]
        rfl
  · have hm3 : ¬ gI μ 4 = 3 := by rw [w3]; intro q; exact h3 ((kMd_at 3 (by decide +kernel) w4).mp (by rw [q]; decide))
    left
    obtain ⟨τ, g1, g2⟩ := c_dec1 hs s h3
    exact ⟨1, τ, g1, g2, by rw [hbd]; exact bn_no h hb.2.1 hm3 k 0 FU (by omega) (FU_big (by omega))⟩
