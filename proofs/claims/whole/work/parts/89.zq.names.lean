/-- the names of a scope, read by both: j so far -/
def NM (σ μ : S5) (s n : Int32) (j : Nat) : Prop := j ≤ 5 ∧ xA σ 20 s = nI j ∧ xA μ 10 n = nI j ∧ 0 ≤ xA μ 9 n ∧ xA μ 9 n ≤ 3100 ∧ ∀ i : Nat, i < j → xB σ 3 (s * 5 + nI i) = xB μ 1 (xA μ 9 n + nI i)
theorem s5_rg {s : Int32} {i : Nat} (h0 : 0 ≤ s) (h1 : s < 700) (hi : i ≤ 4) : 0 ≤ s * 5 + nI i ∧ s * 5 + nI i < 3500 := by
  have hm := mul5 h0 (by grind)
  have hi5 : 0 ≤ nI i ∧ nI i < 5 := ⟨i_le0 (nI_nneg (by omega)), (nI_lt31 (b := 5) (by omega) (by omega)).mpr (by omega)⟩
  have f := five_lt (s' := 700) h0 h1 (by decide) hi5.1 hi5.2
  have h00 : 0 ≤ s * 5 := by
    rw [Int32.le_iff_toInt_le] at h0 ⊢
    rw [hm]
    rw [show (0 : Int32).toInt = 0 from rfl] at *
    omega
  exact ⟨i_trans h00 f.1, f.2⟩
theorem giv1 {σ μ : S5} {s n : Int32} {j : Nat} (h : NM σ μ s n j) (hn0 : 0 ≤ n) (hn1 : n < 3200) (z : Int64) : ∀ (d k m : Nat), k + d = j → d < m → f_X12_isGiven_L6 m n z 1 (nI k) μ = some (1, μ) := by
  obtain ⟨h5, h20, h10, h9, h9', hrow⟩ := h
  intro d
  induction d with
  | zero =>
    intro k m hk hm
    obtain ⟨m, rfl⟩ : ∃ m', m = m' + 1 := ⟨m - 1, by omega⟩
    show f_X12_isGiven_B6 _ _ _ _ _ _ = _
    unfold f_X12_isGiven_B6
    rw [gd3200 hn0 hn1, h10, if_pos ((nI_le31 (by omega) (by omega)).mpr (by omega))]
    rfl
  | succ d ih =>
    intro k m hk hm
    obtain ⟨m, rfl⟩ : ∃ m', m = m' + 1 := ⟨m - 1, by omega⟩
    show f_X12_isGiven_B6 _ _ _ _ _ _ = _
    unfold f_X12_isGiven_B6 f_X12_isGiven_b41 f_X12_isGiven_b46
    rw [gd3200 hn0 hn1, h10, if_neg (fun w => by have := (nI_le31 (by omega) (by omega)).mp w; omega), if_neg (by decide), nI_add1]
    exact ih (k + 1) m (by omega) (by omega)
theorem has_loop {σ μ : S5} {s n : Int32} {j : Nat} (h : NM σ μ s n j) (hs0 : 0 ≤ s) (hs1 : s < 700) (hn0 : 0 ≤ n) (hn1 : n < 3200) (z : Int64) : ∀ (d k m : Nat), k + d = j → d < m → ∃ r b : Int32, f_X6_variableIn_L3 m s z (nI k) σ = some (r, σ) ∧ f_X12_isGiven_L6 m n z 0 (nI k) μ = some (b, μ) ∧ ((r = -1 ∧ b = 0) ∨ (0 ≤ r ∧ b = 1)) := by
  have hg1 := giv1 h hn0 hn1 z
  obtain ⟨h5, h20, h10, h9, h9', hrow⟩ := h
  intro d
  induction d with
  | zero =>
    intro k m hk hm
    obtain ⟨m, rfl⟩ : ∃ m', m = m' + 1 := ⟨m - 1, by omega⟩
    refine ⟨-1, 0, ?_, ?_, Or.inl ⟨rfl, rfl⟩⟩
    · show f_X6_variableIn_B3 _ _ _ _ _ = _
      unfold f_X6_variableIn_B3
      rw [gd700 hs0 hs1, h20, if_pos ((nI_le31 (by omega) (by omega)).mpr (by omega))]
    · show f_X12_isGiven_B6 _ _ _ _ _ _ = _
      unfold f_X12_isGiven_B6
      rw [gd3200 hn0 hn1, h10, if_pos ((nI_le31 (by omega) (by omega)).mpr (by omega))]
      rfl
  | succ d ih =>
    intro k m hk hm
    obtain ⟨m, rfl⟩ : ∃ m', m = m' + 1 := ⟨m - 1, by omega⟩
    have hc : ¬ nI j ≤ nI k := fun w => by have := (nI_le31 (by omega) (by omega)).mp w; omega
    have hrg := s5_rg (i := k) hs0 hs1 (by omega)
    have hk5 : 0 ≤ nI k ∧ nI k ≤ 4 := ⟨i_le0 (nI_nneg (by omega)), (nI_le31 (b := 4) (by omega) (by omega)).mpr (by omega)⟩
    have hg0 : 0 ≤ xA μ 9 n + nI k ∧ xA μ 9 n + nI k < 3200 := by grind
    have hq := hrow k (by omega)
    by_cases he : lg_cmp (xB σ 3 (s * 5 + nI k)) z = 0
    · refine ⟨s * 5 + nI k, 1, ?_, ?_, Or.inr ⟨hrg.1, rfl⟩⟩
      · show f_X6_variableIn_B3 _ _ _ _ _ = _
        unfold f_X6_variableIn_B3
        rw [gd700 hs0 hs1, h20, if_neg hc, gd3500 hrg.1 hrg.2, if_pos he]
      · show f_X12_isGiven_B6 _ _ _ _ _ _ = _
        unfold f_X12_isGiven_B6 f_X12_isGiven_b41 f_X12_isGiven_b46
        rw [gd3200 hn0 hn1, h10, if_neg hc, if_pos rfl, gd3200 hn0 hn1, gd3200 hg0.1 hg0.2, ← hq, if_pos he, nI_add1]
        exact hg1 d (k + 1) m (by omega) (by omega)
    · obtain ⟨r, b, e1, e2, e3⟩ := ih (k + 1) m (by omega) (by omega)
      refine ⟨r, b, ?_, ?_, e3⟩
      · show f_X6_variableIn_B3 _ _ _ _ _ = _
        unfold f_X6_variableIn_B3
        rw [gd700 hs0 hs1, h20, if_neg hc, gd3500 hrg.1 hrg.2, if_neg he, nI_add1, e1]
      · show f_X12_isGiven_B6 _ _ _ _ _ _ = _
        unfold f_X12_isGiven_B6 f_X12_isGiven_b41 f_X12_isGiven_b46
        rw [gd3200 hn0 hn1, h10, if_neg hc, if_pos rfl, gd3200 hn0 hn1, gd3200 hg0.1 hg0.2, ← hq, if_neg he, nI_add1, e2]
/-- is the name there already? -/
theorem has_go {σ μ : S5} {s n : Int32} {j : Nat} (h : NM σ μ s n j) (hs0 : 0 ≤ s) (hs1 : s < 700) (hn0 : 0 ≤ n) (hn1 : n < 3200) (z : Int64) : ∃ b : Int32, (b = 0 ∨ b = 1) ∧ f_X6_has s z σ = some (b, σ) ∧ f_X12_isGiven n z μ = some (b, μ) := by
  have hj := h.1
  obtain ⟨r, b, e1, e2, e3⟩ := has_loop h hs0 hs1 hn0 hn1 z j 0 FU (by omega) (FU_big (by omega))
  unfold f_X6_has f_X6_variableIn f_X12_isGiven
  rw [show (0 : Int32) = nI 0 from rfl] at *
  rw [e1, bd_of]
  rcases e3 with ⟨e3, e4⟩ | ⟨e3, e4⟩
  · exact ⟨b, Or.inl e4, by rw [if_pos e3, e4], e2⟩
  · refine ⟨b, Or.inr e4, ?_, e2⟩
    rw [if_neg (by intro w; rw [w] at e3; exact absurd e3 (by decide)), e4]
/-- the class's state with one name more -/
def cNm (σ : S5) (s : Int32) (j : Nat) : S5 := pA (pB σ 3 (s * 5 + nI j) (gJ σ 0)) 20 s (nI j + 1)
theorem c_decl {σ μ : S5} (hs : Sim σ μ) {s n : Int32} {j : Nat} (h : NM σ μ s n j) (hs0 : 0 ≤ s) (hs1 : s < 700) (hn0 : 0 ≤ n) (hn1 : n < 3200) (hk : gI σ 17 = 3) : (f_X12_isGiven n (gJ μ 0) μ = some (1, μ) ∧ ∃ τ, f_X5_declare s σ = some (0, τ) ∧ St 2 (gI σ 18) (gI σ 13) τ) ∨ (f_X12_isGiven n (gJ μ 0) μ = some (0, μ) ∧ ((j = 5 ∧ ∃ τ, f_X5_declare s σ = some (0, τ) ∧ St 4 (gI σ 18) (gI σ 13) τ) ∨ (j ≤ 4 ∧ f_X5_declare s σ = bd (f_X10_advance (cNm σ s j)) (fun _ τ => some (s * 5 + nI j, τ))))) := by
  obtain ⟨b, hb, e1, e2⟩ := has_go h hs0 hs1 hn0 hn1 (gJ σ 0)
  have hj : gJ σ 0 = gJ μ 0 := hs.1.2.2.2.2.2.2.2.2.2.1 (Or.inl hk)
  rw [hj] at e2
  obtain ⟨h5, h20, h10, h9, h9', hrow⟩ := h
  unfold f_X5_declare
  rw [if_pos hk, e1, bd_of]
  rcases hb with rfl | rfl
  · right
    refine ⟨e2, ?_⟩
    rw [if_pos rfl, gd700 hs0 hs1, h20]
    by_cases c : j = 5
    · left
      obtain ⟨τ, g1, g2⟩ := c_ref hs (k := 4) (by decide)
      refine ⟨c, τ, ?_, g2⟩
      rw [if_neg (by rw [c]; decide), g1, bd_of]
    · right
      refine ⟨by omega, ?_⟩
      have hrg := s5_rg (i := j) hs0 hs1 (by omega)
      have hlt : nI j < 5 := (nI_lt31 (a := j) (b := 5) (by omega) (by omega)).mpr (by omega)
      rw [if_pos hlt]
      unfold f_X6_addName
      simp only [gd700 hs0 hs1, h20, gd3500 hrg.1 hrg.2, bd_of]
      rfl
  · left
    obtain ⟨τ, g1, g2⟩ := c_ref hs (k := 2) (by decide)
    refine ⟨e2, τ, ?_, g2⟩
    rw [if_neg (by decide), g1, bd_of]
