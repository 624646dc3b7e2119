theorem gI_wdC {σ : S5} {e k p v : Int32} {z : Int64} {j : Nat} (h : j < 16 ∨ 19 < j) : gI (wdC σ e k p v z) j = gI σ j := by
  unfold wdC
  rw [gI_pI, if_neg (by omega), gI_pI, if_neg (by omega), gI_pI, if_neg (by omega), gI_pI, if_neg (by omega), gI_pJ]
theorem gI_wdM {σ : S5} {e k p v : Int32} {z : Int64} {j : Nat} (h : j < 3 ∨ 6 < j) : gI (wdM σ e k p v z) j = gI σ j := by
  unfold wdM
  rw [gI_pI, if_neg (by omega), gI_pI, if_neg (by omega), gI_pI, if_neg (by omega), gI_pI, if_neg (by omega), gI_pJ]
theorem p_wdC {σ : S5} {e k p v : Int32} {z : Int64} : gI (wdC σ e k p v z) 18 = p := rfl
theorem k_wdC {σ : S5} {e k p v : Int32} {z : Int64} : gI (wdC σ e k p v z) 17 = k := rfl
theorem FrC.w {σ τ : S5} {e k p v : Int32} {z : Int64} (h : FrC σ τ) : FrC σ (wdC τ e k p v z) := h
theorem FrM.w {σ τ : S5} {e k p v : Int32} {z : Int64} (h : FrM σ τ) : FrM σ (wdM τ e k p v z) := h
theorem FrM.O {σ τ : S5} {n : Int32} (h : FrM σ τ) : FrM σ (mO τ n) := h
theorem gI_mO {σ : S5} {n : Int32} {j : Nat} (h : ¬ j = 17) : gI (mO σ n) j = gI σ j := by
  unfold mO
  rw [gI_pI, if_neg h, gI_pA]
theorem o_mO {σ : S5} {n : Int32} : gI (mO σ n) 17 = gI σ 17 + 1 := rfl
theorem xA_mO {σ : S5} {n : Int32} {j : Nat} {x : Int32} (h : ¬ j = 18) : xA (mO σ n) j x = xA σ j x := by
  unfold mO
  rw [xA_pI, xA_pA, if_neg (fun q => h q.1)]
/-- how the reference goes on behind an atom -/
def aft (r : Int32) (μ : S5) : S5 := pI (pI (pI μ 20 0) 19 r) 18 1
theorem FrM.aft {σ τ : S5} {r : Int32} (h : FrM σ τ) : FrM σ (aft r τ) := h
theorem gI_aft {σ : S5} {r : Int32} {j : Nat} (h : j < 18 ∨ 20 < j) : gI (aft r σ) j = gI σ j := by
  unfold aft
  rw [gI_pI, if_neg (by omega), gI_pI, if_neg (by omega), gI_pI, if_neg (by omega)]
theorem xA_aft {σ : S5} {r : Int32} {j : Nat} {x : Int32} : xA (aft r σ) j x = xA σ j x := rfl
theorem xB_aft {σ : S5} {r : Int32} {j : Nat} {x : Int32} : xB (aft r σ) j x = xB σ j x := rfl
theorem xB_mO {σ : S5} {n : Int32} {j : Nat} {x : Int32} : xB (mO σ n) j x = xB σ j x := rfl
theorem Wd.aft {σ μ : S5} {r : Int32} (h : Wd σ μ) : Wd σ (aft r μ) := h
theorem Wd.O {σ μ : S5} {n : Int32} (h : Wd σ μ) : Wd σ (mO μ n) := h
theorem mO_eq {μ : S5} (n : Int32) (h0 : 0 ≤ gI μ 17) (h1 : gI μ 17 < 3200) : f_X12_operand n μ = some ((), mO μ n) := m_oper n h0 h1
theorem m_pre {μ : S5} {k r : Int32} (hw : gI μ 4 = kMd k) (hk : okK k = true) (ha : atK k) (h40 : ¬ k = 40) (h4 : k = 4 → f_X12_findConstructor (gJ μ 0) μ = some (r, μ) ∧ 0 ≤ r ∧ r < 30 ∧ xA μ 13 r = 0) : f_X12_atom μ = f_X12_atom_b96 (if k = 4 then r else 0) μ := by
  have hb : ∀ v : Int32, 0 ≤ v → f_X12_atom_b69 v μ = f_X12_atom_b96 v μ := by
    intro v hv0
    have hat := (kMd_atom hk).mpr ha
    rw [← hw] at hat
    unfold f_X12_atom_b69
    rw [m_isAtom, bd_of, if_pos hat, if_neg (by decide), if_pos hv0]
  unfold f_X12_atom f_X12_atom_b47
  rw [m_isS, bd_of, if_neg (show ¬ gI μ 4 = 100 + 40 by rw [hw]; intro q; have := (kMd_at 40 (by decide +kernel) hk).mp (by rw [q]; decide); exact h40 this), if_pos rfl]
  by_cases c4 : k = 4
  · obtain ⟨f1, f2, f3, f4⟩ := h4 c4
    have hw4 : gI μ 4 = 4 := by rw [hw, c4]; decide
    rw [if_pos hw4, f1, bd_of, if_pos hw4, if_neg (by grind), gd30 f2 f3, f4, if_neg (by decide), if_pos c4]
    exact hb r f2
  · have hw4 : ¬ gI μ 4 = 4 := by rw [hw]; intro q; exact c4 ((kMd_at 4 (by decide +kernel) hk).mp (by rw [q]; decide))
    rw [if_neg hw4, if_neg hw4, if_neg c4]
    exact hb 0 (by decide)
theorem m_atomL {μ : S5} {k r : Int32} (h7 : gI μ 7 = 0) (hw : gI μ 4 = kMd k) (hk : okK k = true) (ha : atK k) (h40 : ¬ k = 40) (h4 : k = 4 → f_X12_findConstructor (gJ μ 0) μ = some (r, μ) ∧ 0 ≤ r ∧ r < 30 ∧ xA μ 13 r = 0) (hp : ¬ gI μ 11 = 600) (h0 : 0 ≤ gI μ 9) (h1 : gI μ 9 < 3200) : f_X12_atom μ = bd (f_X12_next (pA (pB (ndM (mP μ) (if k = 3 then 8 else if k = 4 then 9 else if k = 5 then 10 else 11)) 0 (gI μ 9) (gJ μ 0)) 7 (gI μ 9) (if k = 4 then r else gI μ 6))) (fun _ τ => bd (f_X12_operand (gI μ 9) τ) (fun _ ρ => some (1, ρ))) := by
  rw [m_pre hw hk ha h40 h4]
  unfold f_X12_atom_b96
  rw [if_neg (by rw [h7]; decide), m_part0 h7 hp, bd_of, if_neg (by decide)]
  have e4 : gI (pI (pI μ 11 (gI μ 11 + 1)) 12 (gI μ 12 + 1)) 4 = kMd k := hw
  have e9 : gI (pI (pI μ 11 (gI μ 11 + 1)) 12 (gI μ 12 + 1)) 9 = gI μ 9 := rfl
  rw [e4]
  unfold f_X12_atom_b154 f_X12_atom_b189
  rw [m_node 8 (by rw [e9]; exact h0) (by rw [e9]; exact h1), m_node 9 (by rw [e9]; exact h0) (by rw [e9]; exact h1), m_node 10 (by rw [e9]; exact h0) (by rw [e9]; exact h1), m_node 11 (by rw [e9]; exact h0) (by rw [e9]; exact h1)]
  simp only [bd_of, e9, gd3200 h0 h1]
  rcases ha with rfl | rfl | rfl | rfl | rfl
  · rw [if_pos (by decide)]
    rw [if_neg (show ¬ gI (ndM (pI (pI μ 11 (gI μ 11 + 1)) 12 (gI μ 12 + 1)) 8) 4 = 4 by show ¬ gI μ 4 = 4; rw [hw]; decide)]
    rfl
  · rw [if_neg (by decide), if_pos (by decide)]
    rw [if_pos (show gI (ndM (pI (pI μ 11 (gI μ 11 + 1)) 12 (gI μ 12 + 1)) 9) 4 = 4 by show gI μ 4 = 4; rw [hw]; decide)]
    rfl
  · rw [if_neg (by decide), if_neg (by decide), if_pos (by decide)]
    rw [if_neg (show ¬ gI (ndM (pI (pI μ 11 (gI μ 11 + 1)) 12 (gI μ 12 + 1)) 10) 4 = 4 by show ¬ gI μ 4 = 4; rw [hw]; decide)]
    rfl
  · rw [if_neg (by decide), if_neg (by decide), if_neg (by decide)]
    rw [if_neg (show ¬ gI (ndM (pI (pI μ 11 (gI μ 11 + 1)) 12 (gI μ 12 + 1)) 11) 4 = 4 by show ¬ gI μ 4 = 4; rw [hw]; decide)]
    rfl
  · exact absurd rfl h40
theorem m_atom6 {μ : S5} {k r : Int32} (h7 : gI μ 7 = 0) (hw : gI μ 4 = kMd k) (hk : okK k = true) (ha : atK k) (h40 : ¬ k = 40) (h4 : k = 4 → f_X12_findConstructor (gJ μ 0) μ = some (r, μ) ∧ 0 ≤ r ∧ r < 30 ∧ xA μ 13 r = 0) (hp : gI μ 11 = 600) : f_X12_atom μ = some (0, pI (pI μ 7 4) 8 (gI μ 5)) := by
  rw [m_pre hw hk ha h40 h4]
  unfold f_X12_atom_b96
  rw [if_neg (by rw [h7]; decide), m_part1 h7 hp, bd_of, if_pos rfl]
/-- the class's leaf -/
def cLf (σ : S5) (r : Int32) : S5 := if gI σ 17 = 3 then cU (cN (cP σ) 3 0 0 (-1)) (gI σ 8) else cN (cP σ) (if gI σ 17 = 5 then 0 else if gI σ 17 = 4 then 1 else 4) (if gI σ 17 = 5 then gI σ 19 else if gI σ 17 = 4 then r else 0) 0 (-1)
theorem c_atomL {σ : S5} {r : Int32} (E : S5 → Option (Int32 × S5)) (hk : ¬ gI σ 17 = 0) (h40 : ¬ gI σ 17 = 40) (hp : gI σ 13 < 600) (h4 : gI σ 17 = 4 → f_X4_constructorOf (gJ σ 0) (cP σ) = some (r, cP σ)) (h0 : 0 ≤ gI σ 8) (h1 : gI σ 8 < 6200) (h2 : 0 ≤ gI σ 10) (h3 : gI σ 10 < 600) : f_X5_readAtom E σ = bd (f_X10_advance (cLf σ r)) (fun _ τ => some (gI σ 8, τ)) := by
  unfold f_X5_readAtom f_X5_readAtom_b185 cLf
  rw [if_neg hk, if_neg h40, c_cnt0 hp hk, bd_of, if_neg (show ¬ gI (cP σ) 17 = 0 from hk)]
  have e8 : gI (cP σ) 8 = gI σ 8 := rfl
  unfold f_X9_addLeaf
  rw [c_add9 3 0 0 (-1) (σ := cP σ) h0 h1, c_add9 0 _ 0 (-1) (σ := cP σ) h0 h1, c_add9 4 0 0 (-1) (σ := cP σ) h0 h1]
  simp only [bd_of]
  by_cases c3 : gI σ 17 = 3
  · rw [if_pos c3, if_pos c3]
    unfold f_X6_addUse
    have e10 : gI (pI (pA (pA (pA (pA (pA (cP σ) 13 (gI (cP σ) 8) 3) 14 (gI (cP σ) 8) 0) 15 (gI (cP σ) 8) 0) 16 (gI (cP σ) 8) (-1)) 17 (gI (cP σ) 8) (-1)) 8 ((gI (cP σ) 8) + 1)) 10 = gI σ 10 := rfl
    rw [e10, if_neg (by grind)]
    simp only [gd600 h2 h3, bd_of]
    rfl
  rw [if_neg c3, if_neg c3]
  by_cases c5 : gI σ 17 = 5
  · rw [if_pos c5, if_pos c5, if_pos c5]
    rfl
  rw [if_neg c5, if_neg c5, if_neg c5]
  by_cases c4 : gI σ 17 = 4
  · rw [if_pos c4, if_pos c4, if_pos c4]
    have := h4 c4
    rw [show gJ (cP σ) 0 = gJ σ 0 from rfl, this, bd_of, c_add9 1 r 0 (-1) (σ := cP σ) h0 h1, bd_of]
    rfl
  · rw [if_neg c4, if_neg c4, if_neg c4]
    rfl
theorem lf_num (σ : S5) (r : Int32) : gI (cLf σ r) 8 = gI σ 8 + 1 ∧ gI (cLf σ r) 9 = gI σ 9 ∧ gI (cLf σ r) 13 = gI σ 13 + 1 ∧ gI (cLf σ r) 10 = (if gI σ 17 = 3 then gI σ 10 + 1 else gI σ 10) ∧ gI (cLf σ r) 14 = gI σ 14 ∧ gI (cLf σ r) 15 = gI σ 15 ∧ gI (cLf σ r) 5 = gI σ 5 ∧ gI (cLf σ r) 11 = gI σ 11 ∧ gI (cLf σ r) 17 = gI σ 17 ∧ gI (cLf σ r) 18 = gI σ 18 := by
  unfold cLf
  by_cases h : gI σ 17 = 3
  · rw [if_pos h, if_pos h]; exact ⟨rfl, rfl, rfl, rfl, rfl, rfl, rfl, rfl, rfl, rfl⟩
  · rw [if_neg h, if_neg h]; exact ⟨rfl, rfl, rfl, rfl, rfl, rfl, rfl, rfl, rfl, rfl⟩
theorem EqE.P {σ τ : S5} (h : EqE σ τ) : EqE σ (cP τ) := h.I (by decide)
theorem EqE.N {σ τ : S5} {a b c d : Int32} (h : EqE σ τ) : EqE σ (cN τ a b c d) := h.ad
theorem EqE.U {σ τ : S5} {d : Int32} (h : EqE σ τ) : EqE σ (cU τ d) := ((((h.B (by decide)).A (by decide)).A (by decide)).A (by decide)).I (by decide)
theorem EqR.P {σ τ : S5} (h : EqR σ τ) : EqR σ (mP τ) := (h.I (by decide)).I (by decide)
theorem EqR.O {σ τ : S5} {n : Int32} (h : EqR σ τ) : EqR σ (mO τ n) := (h.A (by decide)).I (by decide)
theorem EqR.aft {σ τ : S5} {r : Int32} (h : EqR σ τ) : EqR σ (aft r τ) := ((h.I (by decide)).I (by decide)).I (by decide)
theorem lf_eq (σ : S5) (r : Int32) : EqE σ (cLf σ r) := by
  unfold cLf
  split
  · exact (((EqE.rf σ).P).N).U
  · exact ((EqE.rf σ).P).N
theorem lf_fr {σ : S5} (r : Int32) : FrC σ (cLf σ r) := by
  unfold cLf
  split
  · refine ⟨fun i p q => ?_, fun i p q => ⟨rfl, rfl, rfl, rfl, rfl⟩, fun i p q => rfl, fun i p q => ?_⟩
    · have := i_ne p q
      simp [cU, cN, cP, xA_pI, xA_pA, xA_pB, gI_pI, this]
    · have := i_ne p q
      simp [cU, cN, cP, xA_pI, xA_pA, xA_pB, xB_pI, xB_pA, xB_pB, gI_pI, gI_pA, gI_pB, this]
  · refine ⟨fun i p q => ?_, fun i p q => ⟨rfl, rfl, rfl, rfl, rfl⟩, fun i p q => rfl, fun i p q => ⟨rfl, rfl, rfl, rfl⟩⟩
    have := i_ne p q
    simp [cN, cP, xA_pI, xA_pA, gI_pI, this]
theorem lf_row {σ : S5} (r : Int32) : xA (cLf σ r) 13 (gI σ 8) = (if gI σ 17 = 3 then 3 else if gI σ 17 = 5 then 0 else if gI σ 17 = 4 then 1 else 4) ∧ xA (cLf σ r) 14 (gI σ 8) = (if gI σ 17 = 5 then gI σ 19 else if gI σ 17 = 4 then r else 0) ∧ xA (cLf σ r) 16 (gI σ 8) = -1 ∧ xA (cLf σ r) 17 (gI σ 8) = -1 ∧ (gI σ 17 = 3 → xB (cLf σ r) 4 (gI σ 10) = gJ σ 0 ∧ xA (cLf σ r) 27 (gI σ 10) = gI σ 15 ∧ xA (cLf σ r) 28 (gI σ 10) = gI σ 18 ∧ xA (cLf σ r) 29 (gI σ 10) = gI σ 8) := by
  unfold cLf
  by_cases h : gI σ 17 = 3
  · simp [h, cU, cN, cP, xA_pI, xA_pA, xA_pB, xB_pI, xB_pA, xB_pB, gI_pI, gI_pA, gI_pB, gJ_pI, gJ_pA, gJ_pB]
  · simp [h, cN, cP, xA_pI, xA_pA, gI_pI]
/-- the reference's leaf -/
def mLf (μ : S5) (k V : Int32) : S5 := pA (pB (ndM (mP μ) k) 0 (gI μ 9) (gJ μ 0)) 7 (gI μ 9) V
theorem mLf_fr (μ : S5) (k V : Int32) : FrM μ (mLf μ k V) := by
  refine ⟨fun i p q => ?_, fun i p q => rfl⟩
  have := i_ne p q
  simp [mLf, ndM, mP, xA_pI, xA_pA, xA_pB, xB_pI, xB_pA, xB_pB, gI_pI, this]
theorem mLf_row (μ : S5) (k V : Int32) : xA (mLf μ k V) 2 (gI μ 9) = k ∧ xA (mLf μ k V) 5 (gI μ 9) = -1 ∧ xA (mLf μ k V) 6 (gI μ 9) = gI μ 5 ∧ xA (mLf μ k V) 7 (gI μ 9) = V ∧ xA (mLf μ k V) 10 (gI μ 9) = 0 ∧ xB (mLf μ k V) 0 (gI μ 9) = gJ μ 0 := by
  simp [mLf, ndM, mP, xA_pI, xA_pA, xA_pB, xB_pI, xB_pA, xB_pB, gI_pI, gJ_pI]
theorem mLf_num (μ : S5) (k V : Int32) : gI (mLf μ k V) 9 = gI μ 9 + 1 ∧ gI (mLf μ k V) 10 = gI μ 10 ∧ gI (mLf μ k V) 11 = gI μ 11 + 1 ∧ gI (mLf μ k V) 12 = gI μ 12 + 1 ∧ gI (mLf μ k V) 7 = gI μ 7 ∧ gI (mLf μ k V) 15 = gI μ 15 ∧ gI (mLf μ k V) 16 = gI μ 16 ∧ gI (mLf μ k V) 17 = gI μ 17 ∧ gI (mLf μ k V) 21 = gI μ 21 ∧ gI (mLf μ k V) 20 = gI μ 20 := ⟨rfl, rfl, rfl, rfl, rfl, rfl, rfl, rfl, rfl, rfl⟩
theorem mLf_pile (μ : S5) (k V x : Int32) : xA (mLf μ k V) 14 x = xA μ 14 x ∧ xA (mLf μ k V) 15 x = xA μ 15 x ∧ xA (mLf μ k V) 16 x = xA μ 16 x ∧ xA (mLf μ k V) 17 x = xA μ 17 x ∧ xA (mLf μ k V) 18 x = xA μ 18 x := ⟨rfl, rfl, rfl, rfl, rfl⟩
theorem EqR.lf {σ τ : S5} {k V : Int32} (h : EqR σ τ) : EqR σ (mLf τ k V) := ((h.P.nd).B (by decide)).A (by decide)
theorem at_leaf {σ μ : S5} (hs : Sim σ μ) {r : Int32} (hk : stdK σ r) (hr : gI σ 17 = 4 → f_X12_findConstructor (gJ μ 0) μ = some (r, μ)) (h40 : ¬ gI σ 17 = 40) (hp : gI σ 13 < 600) (ho : 0 ≤ gI μ 17) (ho' : gI μ 17 < 3200) (E : S5 → Option (Int32 × S5)) : ∃ σ' μ1 : S5, f_X5_readAtom E σ = some (gI σ 8, σ') ∧ f_X12_atom μ = some (1, μ1) ∧ Cor σ μ (gI σ 8) σ' (aft 0 μ1) (gI μ 9) ∧ gI (aft 0 μ1) 20 = 0 ∧ gI (aft 0 μ1) 21 = gI μ 21 ∧ gI σ 18 < gI σ' 18 ∧ gI μ1 20 = gI μ 20 := by
  have hp3 := hs.p3
  obtain ⟨hw, hc, hb⟩ := hs
  have hb' := hb
  unfold Bg at hb'
  obtain ⟨b1, b2, b3, b4, b5, b6, b7, b8, b9, b10, b11, b12, b13, b14, b15, b16, b17, b18, b19, b20, b21, b22, b23⟩ := hb'
  obtain ⟨w1, w2, w3, w4, w5, w6, w7, w8, w9, w10, w11⟩ := id hw
  have hk0 := okK_ne w4
  obtain ⟨k1, k2, k3⟩ := hk
  have hr4 : gI σ 17 = 4 → f_X4_constructorOf (gJ σ 0) (cP σ) = some (r, cP σ) := by
    intro q
    have hct : Ct (cP σ) μ := Ct_eq hc ((EqE.rf σ).P) (EqR.rf μ)
    obtain ⟨r', e1, e2, e3⟩ := con_of hct (gJ σ 0)
    have := hr q
    rw [w10 (Or.inr q), this] at e2
    have : r = r' := by
      have := Option.some.inj e2
      exact congrArg Prod.fst this
    rw [this]; exact e1
  have hC := c_atomL (r := r) E hk0 h40 hp hr4 b9 (by grind) b15 (by grind)
  have hM := m_atomL (r := r) b2 w3 w4 k1 h40 (fun q => ⟨hr q, (k2 q).1, by have := (k2 q).2.1; have := hc.2.2.1; grind, by rw [← (hc.2.2.2 r (k2 q).1 (k2 q).2.1).2.1]; exact (k2 q).2.2⟩) (by rw [← b3]; grind) b17 (by grind)
  generalize hKM : (if gI σ 17 = 3 then (8 : Int32) else if gI σ 17 = 4 then 9 else if gI σ 17 = 5 then 10 else 11) = KM at hM
  generalize hVM : (if gI σ 17 = 4 then r else gI μ 6) = VM at hM
  have hN := lf_num σ r
  have hF := lf_fr (σ := σ) r
  have hR := lf_row (σ := σ) r
  have hQ := lf_eq σ r
  have hwd : Wd (cLf σ r) (mLf μ KM VM) := by
    unfold cLf
    split <;> exact Wd_of hw rfl rfl rfl rfl rfl rfl rfl rfl rfl rfl rfl rfl rfl rfl
  obtain ⟨n8, n9, n13, n10, n14, n15, n5, n11, n17, n18⟩ := hN
  obtain ⟨e, kc, p, v, z, vm, zm, a1, a2, a3, a4, a5, a6⟩ := adv hwd (by rw [n17]; unfold atK at k1; grind)
  rw [a1, bd_of] at hC
  rw [show pA (pB (ndM (mP μ) KM) 0 (gI μ 9) (gJ μ 0)) 7 (gI μ 9) VM = mLf μ KM VM from rfl, a2, bd_of] at hM
  have hF2 := mLf_fr μ KM VM
  have hR2 := mLf_row μ KM VM
  have hN2 := mLf_num μ KM VM
  have hQ2 : EqR μ (mLf μ KM VM) := (EqR.rf μ).lf
  have hX18 : ∀ x, xA (mLf μ KM VM) 18 x = xA μ 18 x := fun x => (mLf_pile μ KM VM x).2.2.2.2
  have hXP : ∀ x, xA (mLf μ KM VM) 14 x = xA μ 14 x ∧ xA (mLf μ KM VM) 15 x = xA μ 15 x ∧ xA (mLf μ KM VM) 16 x = xA μ 16 x ∧ xA (mLf μ KM VM) 17 x = xA μ 17 x := fun x => ⟨(mLf_pile μ KM VM x).1, (mLf_pile μ KM VM x).2.1, (mLf_pile μ KM VM x).2.2.1, (mLf_pile μ KM VM x).2.2.2.1⟩
  rw [n18] at a4
  clear a1 a2 hwd
  generalize hL : cLf σ r = L at *
  generalize hL2 : mLf μ KM VM = L2 at *
  obtain ⟨q9, q10, q11, q12, q7, q15, q16, q17, q21, q20⟩ := hN2
  rw [mO_eq (μ := wdM L2 e (kMd kc) p vm zm) (gI μ 9) (by rw [gI_wdM (by decide), q17]; exact ho) (by rw [gI_wdM (by decide), q17]; exact ho'), bd_of] at hM
  have s8 : gI (wdC L e kc p v z) 8 = gI σ 8 + 1 := (gI_wdC (by decide)).trans n8
  have s9 : gI (wdC L e kc p v z) 9 = gI σ 9 := (gI_wdC (by decide)).trans n9
  have s10 : gI (wdC L e kc p v z) 10 = if gI σ 17 = 3 then gI σ 10 + 1 else gI σ 10 := (gI_wdC (by decide)).trans n10
  have s13 : gI (wdC L e kc p v z) 13 = gI σ 13 + 1 := (gI_wdC (by decide)).trans n13
  have s14 : gI (wdC L e kc p v z) 14 = gI σ 14 := (gI_wdC (by decide)).trans n14
  have s15 : gI (wdC L e kc p v z) 15 = gI σ 15 := (gI_wdC (by decide)).trans n15
  have s5 : gI (wdC L e kc p v z) 5 = gI σ 5 := (gI_wdC (by decide)).trans n5
  have s11 : gI (wdC L e kc p v z) 11 = gI σ 11 := (gI_wdC (by decide)).trans n11
  have s18 : gI (wdC L e kc p v z) 18 = p := p_wdC
  have t7 : gI (aft 0 (mO (wdM L2 e (kMd kc) p vm zm) (gI μ 9))) 7 = gI μ 7 := ((gI_aft (by decide)).trans ((gI_mO (by decide)).trans (gI_wdM (by decide)))).trans q7
  have t9 : gI (aft 0 (mO (wdM L2 e (kMd kc) p vm zm) (gI μ 9))) 9 = gI μ 9 + 1 := ((gI_aft (by decide)).trans ((gI_mO (by decide)).trans (gI_wdM (by decide)))).trans q9
  have t10 : gI (aft 0 (mO (wdM L2 e (kMd kc) p vm zm) (gI μ 9))) 10 = gI μ 10 := ((gI_aft (by decide)).trans ((gI_mO (by decide)).trans (gI_wdM (by decide)))).trans q10
  have t11 : gI (aft 0 (mO (wdM L2 e (kMd kc) p vm zm) (gI μ 9))) 11 = gI μ 11 + 1 := ((gI_aft (by decide)).trans ((gI_mO (by decide)).trans (gI_wdM (by decide)))).trans q11
  have t12 : gI (aft 0 (mO (wdM L2 e (kMd kc) p vm zm) (gI μ 9))) 12 = gI μ 12 + 1 := ((gI_aft (by decide)).trans ((gI_mO (by decide)).trans (gI_wdM (by decide)))).trans q12
  have t15 : gI (aft 0 (mO (wdM L2 e (kMd kc) p vm zm) (gI μ 9))) 15 = gI μ 15 := ((gI_aft (by decide)).trans ((gI_mO (by decide)).trans (gI_wdM (by decide)))).trans q15
  have t16 : gI (aft 0 (mO (wdM L2 e (kMd kc) p vm zm) (gI μ 9))) 16 = gI μ 16 := ((gI_aft (by decide)).trans ((gI_mO (by decide)).trans (gI_wdM (by decide)))).trans q16
  have t17 : gI (aft 0 (mO (wdM L2 e (kMd kc) p vm zm) (gI μ 9))) 17 = gI μ 17 + 1 := by
    rw [gI_aft (by decide), o_mO, gI_wdM (by decide), q17]
  have t21 : gI (aft 0 (mO (wdM L2 e (kMd kc) p vm zm) (gI μ 9))) 21 = gI μ 21 := ((gI_aft (by decide)).trans ((gI_mO (by decide)).trans (gI_wdM (by decide)))).trans q21
  have t20 : gI (mO (wdM L2 e (kMd kc) p vm zm) (gI μ 9)) 20 = gI μ 20 := ((gI_mO (by decide)).trans (gI_wdM (by decide))).trans q20
  have hrow : ∀ k x, ¬ k = 18 → xA (aft 0 (mO (wdM L2 e (kMd kc) p vm zm) (gI μ 9))) k x = xA L2 k x := fun k x hk => (xA_aft.trans (xA_mO hk)).trans (xA_wdM ..)
  have hrowB : ∀ k x, xB (aft 0 (mO (wdM L2 e (kMd kc) p vm zm) (gI μ 9))) k x = xB L2 k x := fun k x => (xB_aft.trans xB_mO).trans (xB_wdM ..)
  have hrow18 : ∀ x, xA (aft 0 (mO (wdM L2 e (kMd kc) p vm zm) (gI μ 9))) 18 x = if x.toNatClampNeg = (gI μ 17).toNatClampNeg then gI μ 9 else xA μ 18 x := by
    intro x
    rw [xA_aft]
    unfold mO
    rw [xA_pI, xA_pA, gI_wdM (by decide), q17, xA_wdM, hX18 x]
    simp
  have hEE : EqE σ (wdC L e kc p v z) := hQ.w
  have hRR : EqR μ (aft 0 (mO (wdM L2 e (kMd kc) p vm zm) (gI μ 9))) := ((hQ2.w).O).aft
  have hWW : Wd (wdC L e kc p v z) (aft 0 (mO (wdM L2 e (kMd kc) p vm zm) (gI μ 9))) := (a3.O).aft
  have hFF : FrC σ (wdC L e kc p v z) := hF.w
  have hFM : FrM μ (aft 0 (mO (wdM L2 e (kMd kc) p vm zm) (gI μ 9))) := ((hF2.w).O).aft
  have hrC : ∀ k x, xA (wdC L e kc p v z) k x = xA L k x := fun k x => xA_wdC ..
  have hrCB : ∀ k x, xB (wdC L e kc p v z) k x = xB L k x := fun k x => xB_wdC ..
  have h20 : gI (aft 0 (mO (wdM L2 e (kMd kc) p vm zm) (gI μ 9))) 20 = 0 := rfl
  have h19 : gI (aft 0 (mO (wdM L2 e (kMd kc) p vm zm) (gI μ 9))) 19 = 0 := rfl
  refine ⟨_, _, hC, hM, ?_, h20, t21, by rw [s18]; exact a4, t20⟩
  clear hC hM a3
  generalize wdC L e kc p v z = S at *
  generalize aft 0 (mO (wdM L2 e (kMd kc) p vm zm) (gI μ 9)) = M at *
  have hGm : Gm 1 1 σ S μ M := by
    have i8 : iv S 8 = iv σ 8 + 1 := iv_a1 s8 b9 (by grind)
    have i9 : iv S 9 = iv σ 9 := iv_eq s9
    have i13 : iv S 13 = iv σ 13 + 1 := iv_a1 s13 b4 (by grind)
    have i18 : iv σ 18 < iv S 18 := iv_lt (by rw [s18]; exact a4)
    have i10 : iv S 10 ≤ iv σ 10 + 1 := by
      by_cases c3 : gI σ 17 = 3
      · rw [if_pos c3] at s10
        have := iv_a1 s10 b15 (by grind)
        omega
      · rw [if_neg c3] at s10
        have := iv_eq s10
        omega
    have m9 : iv M 9 = iv μ 9 + 1 := iv_a1 t9 b17 (by grind)
    have m10 : iv M 10 = iv μ 10 := iv_eq t10
    unfold Gm
    omega
  have hGr : Gr σ S μ M := ⟨by rw [s8]; grind, by rw [s9]; grind, by rw [s10]; grind, by rw [t9]; grind, by rw [t10]; grind, by rw [s18]; grind, hGm⟩
  refine ⟨⟨hWW, Ct_eq hc hEE hRR, ?_⟩, h19, ⟨t16, t17, ?_, fun i q1 q2 => ?_, fun i q1 q2 => ?_⟩, hEE, hRR, ?_, s14, s15, hFF, hFM, hGr, ?_, s8.symm, by rw [hrC]; exact hR.2.2.2.1, by rw [hrow 5 _ (by decide)]; exact hR2.2.1⟩
  · refine Bg_mk (by rw [s11]; exact b1) (by rw [t7]; exact b2) (by rw [s13, t11, b3]) (by rw [s13]; grind) (by rw [s13]; grind) (by rw [s14, t15]; exact b6) (by rw [s14]; exact b7) (by rw [s14]; exact b8) (by rw [s8]; grind) (by rw [s9]; exact b11) (by rw [s5]; exact b13) (by rw [s5]; exact b14) (by rw [s10]; grind) (by rw [t9]; grind) (by rw [t10]; exact b19) (by rw [s15]; exact b21) (by rw [s15, s9]; exact b22) (by rw [s18]; exact a6) (b23.gr hGm (by decide) (by decide) s5)
  · rw [hrow18, if_pos rfl]
  · rw [hrow 14 _ (by decide), hrow 15 _ (by decide), hrow 16 _ (by decide), hrow 17 _ (by decide)]
    exact hXP i
  · rw [hrow18, if_neg (i_ne q1 q2)]
  · rw [t12, t11]; grind
  · rw [s9, s10, t9]
    refine TR.fold ⟨?_, Or.inl ⟨rfl, rfl, rfl, rfl, by rw [hrC]; exact hR.2.2.1, by rw [hrow 10 _ (by decide)]; exact hR2.2.2.2.2.1, ?_⟩⟩
    · unfold Bd
      grind
    · simp only [hrC, hrCB, hrowB, hrow 2 _ (by decide), hrow 6 _ (by decide), hrow 7 _ (by decide)]
      by_cases c3 : gI σ 17 = 3
      · left
        rw [if_pos c3] at hKM
        have hu := hR.2.2.2.2 c3
        refine ⟨hR2.1.trans hKM.symm, by have := hR.1; rw [if_pos c3] at this; exact this, by rw [if_pos c3], ?_, hu.2.1, ?_, hu.2.2.2⟩
        · exact (hu.1.trans (w10 (Or.inl c3))).trans hR2.2.2.2.2.2.symm
        · exact (hu.2.2.1.trans w5).trans hR2.2.2.1.symm
      · right
        rw [if_neg c3]
        refine ⟨rfl, ?_⟩
        have x13 := hR.1
        have x14 := hR.2.1
        have y2 := hR2.1
        have y7 := hR2.2.2.2.1
        rw [if_neg c3] at x13 hKM
        by_cases c5 : gI σ 17 = 5
        · left
          rw [if_pos c5] at x13 x14
          rw [if_neg (by rw [c5]; decide), if_pos c5] at hKM
          rw [if_neg (by rw [c5]; decide)] at hVM
          refine ⟨y2.trans hKM.symm, x13, ?_, ?_⟩
          · exact (x14.trans (w11 c5).1).trans (hVM.trans y7.symm)
          · rw [x14]; exact (w11 c5).2
        right
        rw [if_neg c5] at x13 x14
        by_cases c4 : gI σ 17 = 4
        · left
          rw [if_pos c4] at x13 x14 hKM hVM
          have hk2 := k2 c4
          have e4 : gI S 4 = gI σ 4 := hEE.1 4 (by decide)
          have e2 : xA L 2 r = xA σ 2 r := congrFun (hQ.2.2.1 2 (by decide)) _
          rw [x14, e4, e2]
          exact ⟨y2.trans hKM.symm, x13, hVM.trans y7.symm, hk2.1, hk2.2.1, hk2.2.2⟩
        · right
          rw [if_neg c4, if_neg c5] at hKM
          rw [if_neg c4] at x13
          exact ⟨y2.trans hKM.symm, x13⟩
