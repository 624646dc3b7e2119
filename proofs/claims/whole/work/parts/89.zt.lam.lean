/-- the class's state with a new scope -/
def cSc (σ : S5) (a b o : Int32) : S5 := pI (pA (pA (pA (pA σ 20 (gI σ 9) 0) 21 (gI σ 9) a) 24 (gI σ 9) b) 22 (gI σ 9) o) 9 (gI σ 9 + 1)
theorem c_add61 {σ : S5} (a b : Int32) (h0 : 0 ≤ gI σ 9) (h1 : gI σ 9 < 700) : f_X6_add a b 1 σ = some (gI σ 9, cSc σ a b (gI σ 9)) := by
  unfold f_X6_add f_X6_add_b59 f_X6_add_b72
  rw [if_pos h1, gd700 h0 h1, gd700 h0 h1, gd700 h0 h1, if_neg (by decide)]
  simp only [gI_pA, gd700 h0 h1]
  rw [show gI σ 9 + 1 - 1 = gI σ 9 by grind]
  rfl
theorem c_add60 {σ : S5} {a : Int32} (b : Int32) (h0 : 0 ≤ gI σ 9) (h1 : gI σ 9 < 700) (ha0 : 0 ≤ a) (ha1 : a < 700) : f_X6_add a b 0 σ = some (gI σ 9, cSc σ a b (xA σ 22 a)) := by
  unfold f_X6_add f_X6_add_b72
  rw [if_pos h1, gd700 h0 h1, gd700 h0 h1, gd700 h0 h1, if_pos rfl, if_neg (by intro w; rw [w] at ha0; exact absurd ha0 (by decide)), gd700 ha0 ha1, gd700 h0 h1]
  simp only [gI_pA]
  rw [show gI σ 9 + 1 - 1 = gI σ 9 by grind]
  rfl
theorem cSc_gI (σ : S5) (a b o : Int32) {k : Nat} (h : ¬ k = 9) : gI (cSc σ a b o) k = gI σ k := by
  unfold cSc
  rw [gI_pI, if_neg h]
  rfl
theorem cSc_9 (σ : S5) (a b o : Int32) : gI (cSc σ a b o) 9 = gI σ 9 + 1 := rfl
theorem cSc_fr (σ : S5) (a b o : Int32) : FrC σ (cSc σ a b o) := by
  refine ⟨fun i p q => ⟨rfl, rfl, rfl, rfl, rfl⟩, fun i p q => ?_, fun i p q => rfl, fun i p q => ⟨rfl, rfl, rfl, rfl⟩⟩
  have := i_ne p q
  simp [cSc, xA_pI, xA_pA, this]
theorem cSc_row (σ : S5) (a b o : Int32) : xA (cSc σ a b o) 20 (gI σ 9) = 0 ∧ xA (cSc σ a b o) 21 (gI σ 9) = a ∧ xA (cSc σ a b o) 22 (gI σ 9) = o ∧ xA (cSc σ a b o) 24 (gI σ 9) = b := by
  simp [cSc, xA_pI, xA_pA]
theorem EqE.Sc {σ τ : S5} {a b o : Int32} (h : EqE σ τ) : EqE σ (cSc τ a b o) := ((((h.A (by decide)).A (by decide)).A (by decide)).A (by decide)).I (by decide)
theorem Wd.Sc {σ μ : S5} {a b o : Int32} (h : Wd σ μ) : Wd (cSc σ a b o) μ := h
theorem Wd.nd {σ μ : S5} {k : Int32} (h : Wd σ μ) : Wd σ (ndM μ k) := h
theorem Wd.mP {σ μ : S5} (h : Wd σ μ) : Wd σ (mP μ) := h
theorem Wd.cP {σ μ : S5} (h : Wd σ μ) : Wd (cP σ) μ := h
theorem Wd.I14 {σ μ : S5} {v : Int32} (h : Wd σ μ) : Wd (pI σ 14 v) μ := h
theorem Wd.I15m {σ μ : S5} {v : Int32} (h : Wd σ μ) : Wd σ (pI μ 15 v) := h
theorem Wd.I15 {σ μ : S5} {v : Int32} (h : Wd σ μ) : Wd (pI σ 15 v) μ := h
theorem Wd.A9 {σ μ : S5} {i v : Int32} (h : Wd σ μ) : Wd σ (pA μ 9 i v) := h
theorem m_175F {μ : S5} {v : Int32} (h7 : ¬ gI μ 7 = 0) (h0 : 0 ≤ gI μ 16) (h1 : gI μ 16 < 3200) : f_X12_begins_b175 v μ = some (1, mPl μ 4 v 0) := by
  unfold f_X12_begins_b175
  rw [m_isS, bd_of, m_accF _ h7, bd_of, m_pile 4 v 0 h0 h1, bd_of]
  rfl
theorem m_156F {μ : S5} {v : Int32} (h7 : ¬ gI μ 7 = 0) (h0 : 0 ≤ gI μ 16) (h1 : gI μ 16 < 3200) : f_X12_begins_b156 v μ = some (1, mPl μ 4 v 0) := by
  unfold f_X12_begins_b156
  rw [m_accF _ h7, bd_of, if_neg h7, m_175F h7 h0 h1]
/-- the reference begins an E of its own kind -/
theorem m_wB {μ τ : S5} (h18 : ¬ gI μ 18 = 0) (h : f_X12_begins μ = some (1, τ)) : f_X12_wantE μ = some ((), pI (pI τ 19 1) 18 1) := by
  unfold f_X12_wantE
  rw [if_neg h18, h, bd_of, if_neg (by decide)]
theorem m_lam30 {μ : S5} (hw : gI μ 4 = 192) (h7 : gI μ 7 = 0) (ho : gI μ 15 = 30) (h0 : 0 ≤ gI μ 16) (h1 : gI μ 16 < 3200) : f_X12_begins μ = some (1, mPl (pI (pI (pI μ 7 1) 8 (gI μ 5)) 15 (gI μ 15 + 1)) 4 0 0) := by
  unfold f_X12_begins f_X12_opens f_X12_opens_b13 f_X12_begins_b155
  rw [if_neg (by rw [hw]; decide), if_neg (by rw [hw]; decide), if_pos hw, if_pos ho, m_wrong0 h7, bd_of, bd_of, if_neg (show ¬ gI (pI (pI (pI μ 7 1) 8 (gI μ 5)) 15 (gI (pI (pI μ 7 1) 8 (gI μ 5)) 15 + 1)) 7 = 0 from (by decide : ¬ (1 : Int32) = 0))]
  exact m_156F (by exact (by decide : ¬ (1 : Int32) = 0)) h0 h1
theorem m_lam6 {μ : S5} (hw : gI μ 4 = 192) (h7 : gI μ 7 = 0) (ho : ¬ gI μ 15 = 30) (hp : gI μ 11 = 600) (h0 : 0 ≤ gI μ 16) (h1 : gI μ 16 < 3200) : f_X12_begins μ = some (1, mPl (pI (pI (pI μ 15 (gI μ 15 + 1)) 7 4) 8 (gI μ 5)) 4 0 0) := by
  unfold f_X12_begins f_X12_opens f_X12_opens_b13 f_X12_begins_b155
  rw [if_neg (by rw [hw]; decide), if_neg (by rw [hw]; decide), if_pos hw, if_neg ho, bd_of, if_pos (show gI (pI μ 15 (gI μ 15 + 1)) 7 = 0 from h7), m_part1 (μ := pI μ 15 (gI μ 15 + 1)) h7 hp, bd_of, if_pos rfl]
  exact m_156F (by exact (by decide : ¬ (4 : Int32) = 0)) h0 h1
theorem m_lam0 {μ : S5} (hw : gI μ 4 = 192) (h7 : gI μ 7 = 0) (ho : ¬ gI μ 15 = 30) (hp : ¬ gI μ 11 = 600) (h9 : 0 ≤ gI μ 9) (h9' : gI μ 9 < 3200) : f_X12_begins μ = bd (f_X12_next (ndM (mP (pI μ 15 (gI μ 15 + 1))) 2)) (fun _ τ => if gI τ 7 = 0 then bd (f_X12_parameters (gI μ 9) 1 τ) (fun _ ρ => f_X12_begins_b175 (gI μ 9) ρ) else f_X12_begins_b175 (gI μ 9) τ) := by
  unfold f_X12_begins f_X12_opens f_X12_opens_b13
  rw [if_neg (by rw [hw]; decide), if_neg (by rw [hw]; decide), if_pos hw, if_neg ho, bd_of, if_pos (show gI (pI μ 15 (gI μ 15 + 1)) 7 = 0 from h7), m_part0 (μ := pI μ 15 (gI μ 15 + 1)) h7 hp, bd_of, if_neg (by decide)]
  have e9 : gI (pI (pI (pI μ 15 (gI μ 15 + 1)) 11 (gI (pI μ 15 (gI μ 15 + 1)) 11 + 1)) 12 (gI (pI μ 15 (gI μ 15 + 1)) 12 + 1)) 9 = gI μ 9 := rfl
  rw [m_node 2 (by rw [e9]; exact h9) (by rw [e9]; exact h9'), bd_of, e9]
  unfold f_X12_begins_b156
  rw [show ndM (pI (pI (pI μ 15 (gI μ 15 + 1)) 11 (gI (pI μ 15 (gI μ 15 + 1)) 11 + 1)) 12 (gI (pI μ 15 (gI μ 15 + 1)) 12 + 1)) 2 = ndM (mP (pI μ 15 (gI μ 15 + 1))) 2 from rfl, m_acc1 (μ := ndM (mP (pI μ 15 (gI μ 15 + 1))) 2) h7]
theorem m_175 {μ : S5} {v : Int32} (h7 : gI μ 7 = 0) : f_X12_begins_b175 v μ = bd (if gI μ 4 = 146 then f_X12_next μ else some ((), pI (pI μ 7 1) 8 (gI μ 5))) (fun _ τ => bd (f_X12_pile 4 v 0 τ) (fun _ ρ => some (1, ρ))) := by
  unfold f_X12_begins_b175
  rw [m_isS, bd_of, show (100 : Int32) + 46 = 146 from rfl]
  by_cases c : gI μ 4 = 146
  · rw [if_pos c, if_pos c, m_acc1 h7]
  · rw [if_neg c, if_neg c, m_acc0 h7]
/-- what stands when a function's head has been read -/
def LH (nk pk : Int32) (σ0 μ0 σ μ : S5) (j : Nat) : Prop := Sim (pI σ 15 (gI σ0 9)) μ ∧ EqE σ0 σ ∧ EqR μ0 μ ∧ FrC σ0 σ ∧ FrM μ0 μ ∧ PF μ0 μ ∧ gI μ 12 - gI μ 11 = gI μ0 12 - gI μ0 11 ∧ (gI σ 8 = gI σ0 8 ∧ gI σ 9 = gI σ0 9 + 1 ∧ gI σ 10 = gI σ0 10 ∧ gI σ 14 = gI σ0 14 + 1 ∧ gI σ 15 = gI σ0 15 ∧ gI σ0 18 < gI σ 18) ∧ (gI μ 9 = gI μ0 9 + 1 ∧ gI μ0 10 ≤ gI μ 10 ∧ gI μ 16 = gI μ0 16 + 1 ∧ gI μ 17 = gI μ0 17 ∧ ¬ gI μ 18 = 0 ∧ ¬ gI μ 19 = 0) ∧ (xA σ 21 (gI σ0 9) = gI σ0 15 ∧ xA σ 22 (gI σ0 9) = gI σ0 9 ∧ xA σ 24 (gI σ0 9) = gI σ0 18) ∧ (NM σ μ (gI σ0 9) (gI μ0 9) j ∧ 1 ≤ j ∧ xA μ 9 (gI μ0 9) + nI j = gI μ 10) ∧ (xA μ 2 (gI μ0 9) = nk ∧ xA μ 5 (gI μ0 9) = -1 ∧ xA μ 6 (gI μ0 9) = gI σ0 18) ∧ (xA μ 14 (gI μ0 16) = pk ∧ xA μ 15 (gI μ0 16) = gI μ0 9) ∧ Gm 1 0 σ0 σ μ0 μ
