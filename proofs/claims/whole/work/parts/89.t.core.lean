/-- what lies below the class's numbers stays -/
def FrC (σ σ' : S5) : Prop := (∀ i, 0 ≤ i → i < gI σ 8 → xA σ' 13 i = xA σ 13 i ∧ xA σ' 14 i = xA σ 14 i ∧ xA σ' 15 i = xA σ 15 i ∧ xA σ' 16 i = xA σ 16 i ∧ xA σ' 17 i = xA σ 17 i) ∧ (∀ i, 0 ≤ i → i < gI σ 9 → xA σ' 20 i = xA σ 20 i ∧ xA σ' 21 i = xA σ 21 i ∧ xA σ' 22 i = xA σ 22 i ∧ xA σ' 23 i = xA σ 23 i ∧ xA σ' 24 i = xA σ 24 i) ∧ (∀ i, 0 ≤ i → i < gI σ 9 * 5 → xB σ' 3 i = xB σ 3 i) ∧ (∀ i, 0 ≤ i → i < gI σ 10 → xA σ' 27 i = xA σ 27 i ∧ xA σ' 28 i = xA σ 28 i ∧ xA σ' 29 i = xA σ 29 i ∧ xB σ' 4 i = xB σ 4 i)
/-- and the reference's -/
def FrM (μ μ' : S5) : Prop := (∀ i, 0 ≤ i → i < gI μ 9 → xA μ' 2 i = xA μ 2 i ∧ xA μ' 3 i = xA μ 3 i ∧ xA μ' 4 i = xA μ 4 i ∧ xA μ' 5 i = xA μ 5 i ∧ xA μ' 6 i = xA μ 6 i ∧ xA μ' 7 i = xA μ 7 i ∧ xA μ' 8 i = xA μ 8 i ∧ xA μ' 9 i = xA μ 9 i ∧ xA μ' 10 i = xA μ 10 i ∧ xB μ' 0 i = xB μ 0 i) ∧ (∀ i, 0 ≤ i → i < gI μ 10 → xB μ' 1 i = xB μ 1 i)
/-- the numbers grow, and not too much -/
def Gr (σ σ' μ μ' : S5) : Prop := gI σ 8 ≤ gI σ' 8 ∧ gI σ 9 ≤ gI σ' 9 ∧ gI σ 10 ≤ gI σ' 10 ∧ gI μ 9 ≤ gI μ' 9 ∧ gI μ 10 ≤ gI μ' 10 ∧ gI σ 18 ≤ gI σ' 18 ∧ Gm 1 1 σ σ' μ μ'
/-- one operand more; all below stays -/
def Pl (μ μ' : S5) (n : Int32) : Prop := gI μ' 16 = gI μ 16 ∧ gI μ' 17 = gI μ 17 + 1 ∧ xA μ' 18 (gI μ 17) = n ∧ (∀ i, 0 ≤ i → i < gI μ 16 → xA μ' 14 i = xA μ 14 i ∧ xA μ' 15 i = xA μ 15 i ∧ xA μ' 16 i = xA μ 16 i ∧ xA μ' 17 i = xA μ 17 i) ∧ (∀ i, 0 ≤ i → i < gI μ 17 → xA μ' 18 i = xA μ 18 i)
/-- a subtree has been read by both -/
def Cor (σ μ : S5) (c : Int32) (σ' μ' : S5) (n : Int32) : Prop := Sim σ' μ' ∧ gI μ' 19 = 0 ∧ Pl μ μ' n ∧ EqE σ σ' ∧ EqR μ μ' ∧ gI μ' 12 - gI μ' 11 = gI μ 12 - gI μ 11 ∧ gI σ' 14 = gI σ 14 ∧ gI σ' 15 = gI σ 15 ∧ FrC σ σ' ∧ FrM μ μ' ∧ Gr σ σ' μ μ' ∧ TR σ' μ' (gI σ 15) (gI σ 9) (gI σ' 9) (gI σ 10) (gI σ' 10) (gI μ 9) (gI μ' 9) (gI σ 8) n c ∧ c + 1 = gI σ' 8 ∧ xA σ' 17 c = -1 ∧ xA μ' 5 n = -1
def pn (σ : S5) : Nat := (gI σ 18).toNatClampNeg
/-- what may come of reading: both have read the same (in the reference's state J), or both end at the same fault -/
def Out (P : Nat) (J : S5 → Prop) (K : Int32 → Prop) (B : Int32 → Prop) (σ μ ν : S5) (c : Int32) (σ' : S5) : Prop := (∃ (μ' : S5) (n : Int32) (k : Nat), k + P ≤ 4 * pn σ' ∧ Rch k ν μ' ∧ Cor σ μ c σ' μ' n ∧ J μ' ∧ K (gI σ' 17)) ∨ (∃ (f p m : Int32) (k : Nat), k + P ≤ 12010 ∧ Die k ν μ f p m ∧ Dm B f p m σ' ∧ 0 ≤ c ∧ c < 6200)
theorem Agr.tr {σ σ1 σ2 μ μ1 μ2 : S5} {s s' u u' a b t n c : Int32} (h : Agr σ σ1 μ μ1 s s' u u' a b t n c) (h2 : Agr σ1 σ2 μ1 μ2 s s' u u' a b t n c) : Agr σ σ2 μ μ2 s s' u u' a b t n c := by
  obtain ⟨A1, A2, A3, A4, A5, A6, A7, A8, A9, A10, A11, A12⟩ := h
  obtain ⟨B1, B2, B3, B4, B5, B6, B7, B8, B9, B10, B11, B12⟩ := h2
  refine ⟨fun i p q => ?_, fun i p q => (B2 i p q).trans (A2 i p q), fun i p q => ?_, fun i p q => (B4 i p q).trans (A4 i p q), fun i p q => (B5 i p q).trans (A5 i p q), fun i p q => ?_, fun i p q => ?_, fun i p q r => (B8 i p q r).trans (A8 i p q r), fun i p q => (B9 i p (by grind)).trans (A9 i p q), by grind, B11.trans A11, fun i p q => (B12 i p (by rw [A11]; exact q)).trans (A12 i p q)⟩
  · have x := A1 i p q
    have y := B1 i p q
    exact ⟨y.1.trans x.1, y.2.1.trans x.2.1, y.2.2.1.trans x.2.2.1, y.2.2.2.trans x.2.2.2⟩
  · have x := A3 i p q
    have y := B3 i p q
    exact ⟨y.1.trans x.1, y.2.1.trans x.2.1, y.2.2.1.trans x.2.2.1, y.2.2.2.trans x.2.2.2⟩
  · have x := A6 i p q
    have y := B6 i p q
    exact ⟨y.1.trans x.1, y.2.1.trans x.2.1, y.2.2.1.trans x.2.2.1, y.2.2.2.trans x.2.2.2⟩
  · have x := A7 i p q
    have y := B7 i p q
    exact ⟨y.1.trans x.1, y.2.1.trans x.2.1, y.2.2.1.trans x.2.2.1, y.2.2.2.1.trans x.2.2.2.1, y.2.2.2.2.1.trans x.2.2.2.2.1, y.2.2.2.2.2.1.trans x.2.2.2.2.2.1, y.2.2.2.2.2.2.1.trans x.2.2.2.2.2.2.1, y.2.2.2.2.2.2.2.1.trans x.2.2.2.2.2.2.2.1, y.2.2.2.2.2.2.2.2.trans x.2.2.2.2.2.2.2.2⟩
theorem mul5 {s : Int32} (h0 : 0 ≤ s) (h1 : s ≤ 700) : (s * 5).toInt = s.toInt * 5 := by
  rw [Int32.le_iff_toInt_le] at h0 h1
  rw [show (0 : Int32).toInt = 0 from rfl] at h0
  rw [show (700 : Int32).toInt = 700 from rfl] at h1
  rw [Int32.toInt_mul, show (5 : Int32).toInt = 5 from rfl]
  exact Int.bmod_eq_of_le (by omega) (by omega)
theorem five_rg {s s' S i : Int32} (h0 : 0 ≤ s) (h1 : s ≤ s') (h2 : s' ≤ S) (h3 : S ≤ 700) (h4 : s * 5 ≤ i) (h5 : i < s' * 5) : 0 ≤ i ∧ i < S * 5 := by
  have m1 := mul5 h0 (i_trans h1 (i_trans h2 h3))
  have m2 := mul5 (i_trans h0 h1) (i_trans h2 h3)
  have m3 := mul5 (i_trans h0 (i_trans h1 h2)) h3
  simp only [Int32.le_iff_toInt_le, Int32.lt_iff_toInt_lt] at *
  rw [show (0 : Int32).toInt = 0 from rfl] at *
  omega
/-- the frame of a reading keeps what was read before -/
theorem Agr.fr {σ σ' μ μ' : S5} {s s' u u' a b t n c : Int32} (hE : EqE σ σ') (hC : FrC σ σ') (hM : FrM μ μ') (hg : gI μ 10 ≤ gI μ' 10) (h0 : 0 ≤ s ∧ s ≤ s' ∧ s' ≤ gI σ 9 ∧ gI σ 9 ≤ 700) (h1 : 0 ≤ u ∧ u' ≤ gI σ 10) (h2 : 0 ≤ a ∧ b ≤ gI μ 9) (h3 : 0 ≤ t ∧ c < gI σ 8) : Agr σ σ' μ μ' s s' u u' a b t n c := by
  obtain ⟨C1, C2, C3, C4⟩ := hC
  obtain ⟨M1, M2⟩ := hM
  refine ⟨fun i p q => ?_, fun i p q => (C1 i (by grind) (by grind)).2.2.2.2, fun i p q => ?_, fun i p q => (C2 i p (by grind)).2.2.1, fun i p q => C3 i (five_rg h0.1 h0.2.1 h0.2.2.1 h0.2.2.2 p q).1 (five_rg h0.1 h0.2.1 h0.2.2.1 h0.2.2.2 p q).2, fun i p q => C4 i (by grind) (by grind), fun i p q => ?_, fun i p q r => (M1 i (by grind) (by grind)).2.2.2.1, M2, hg, hE.1 4 (by decide), fun i p q => congrFun (hE.2.2.1 2 (by decide)) _⟩
  · have x := C1 i (by grind) (by grind)
    exact ⟨x.1, x.2.1, x.2.2.1, x.2.2.2.1⟩
  · have x := C2 i (by grind) (by grind)
    exact ⟨x.1, x.2.1, x.2.2.2.1, x.2.2.2.2⟩
  · have x := M1 i (by grind) (by grind)
    exact ⟨x.1, x.2.1, x.2.2.1, x.2.2.2.2.1, x.2.2.2.2.2.1, x.2.2.2.2.2.2.1, x.2.2.2.2.2.2.2.1, x.2.2.2.2.2.2.2.2.1, x.2.2.2.2.2.2.2.2.2⟩
/-- the class's state with a new node -/
def cN (σ : S5) (a b c d : Int32) : S5 := pI (pA (pA (pA (pA (pA σ 13 (gI σ 8) a) 14 (gI σ 8) b) 15 (gI σ 8) c) 16 (gI σ 8) d) 17 (gI σ 8) (-1)) 8 ((gI σ 8) + 1)
def cP (σ : S5) : S5 := pI σ 13 (gI σ 13 + 1)
def cU (σ : S5) (d : Int32) : S5 := pI (pA (pA (pA (pB σ 4 (gI σ 10) (gJ σ 0)) 27 (gI σ 10) (gI σ 15)) 28 (gI σ 10) (gI σ 18)) 29 (gI σ 10) d) 10 (gI σ 10 + 1)
def mP (μ : S5) : S5 := pI (pI μ 11 (gI μ 11 + 1)) 12 (gI μ 12 + 1)
def mPl (μ : S5) (k n r : Int32) : S5 := pI (pA (pA (pA (pA μ 14 (gI μ 16) k) 15 (gI μ 16) n) 16 (gI μ 16) r) 17 (gI μ 16) 0) 16 ((gI μ 16) + 1)
def mO (μ : S5) (n : Int32) : S5 := pI (pA μ 18 (gI μ 17) n) 17 (gI μ 17 + 1)
theorem c_cnt0 {σ : S5} (h : gI σ 13 < 600) (hk : ¬ gI σ 17 = 0) : f_X5_countPart σ = some ((), cP σ) := by
  unfold f_X5_countPart
  rw [if_pos h, if_neg hk]
  rfl
theorem c_cnt1 {σ μ : S5} (hs : Sim σ μ) (h : ¬ gI σ 13 < 600) : ∃ τ, f_X5_countPart σ = some ((), τ) ∧ St 4 (gI σ 18) (gI σ 13) τ := by
  obtain ⟨τ, e1, e2⟩ := c_ref hs (k := 4) (by decide)
  refine ⟨τ, ?_, e2⟩
  unfold f_X5_countPart
  rw [if_neg h, bd_eta, e1]
theorem Wd_of {σ σ' μ μ' : S5} (h : Wd σ μ) (c0 : gI σ' 0 = gI σ 0) (c16 : gI σ' 16 = gI σ 16) (c17 : gI σ' 17 = gI σ 17) (c18 : gI σ' 18 = gI σ 18) (c19 : gI σ' 19 = gI σ 19) (cJ : gJ σ' 0 = gJ σ 0) (cA : gA σ' 0 = gA σ 0) (m1 : gI μ' 1 = gI μ 1) (m3 : gI μ' 3 = gI μ 3) (m4 : gI μ' 4 = gI μ 4) (m5 : gI μ' 5 = gI μ 5) (m6 : gI μ' 6 = gI μ 6) (mJ : gJ μ' 0 = gJ μ 0) (mA : gA μ' 0 = gA μ 0) : Wd σ' μ' := by
  unfold Wd RT at *
  rw [c0, c16, c17, c18, c19, cJ, cA, m1, m3, m4, m5, m6, mJ, mA]
  exact h
