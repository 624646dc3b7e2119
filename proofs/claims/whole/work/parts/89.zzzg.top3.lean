theorem Agr.fr2 {σ σ' μ μ' : S5} {s s' u u' a b t n c : Int32} (h4 : gI σ' 4 = gI σ 4) (h2 : ∀ i, xA σ' 2 i = xA σ 2 i) (hC : FrC σ σ') (hM : FrM μ μ') (hg : gI μ 10 ≤ gI μ' 10) (h0 : 0 ≤ s ∧ s ≤ s' ∧ s' ≤ gI σ 9 ∧ gI σ 9 ≤ 700) (h1 : 0 ≤ u ∧ u' ≤ gI σ 10) (h2' : 0 ≤ a ∧ b ≤ gI μ 9) (h3 : 0 ≤ t ∧ c < gI σ 8) : Agr σ σ' μ μ' s s' u u' a b t n c := by
  obtain ⟨C1, C2, C3, C4⟩ := hC
  obtain ⟨M1, M2⟩ := hM
  refine ⟨fun i p q => ?_, fun i p q => (C1 i (by grind) (by grind)).2.2.2.2, fun i p q => ?_, fun i p q => (C2 i p (by grind)).2.2.1, fun i p q => C3 i (five_rg h0.1 h0.2.1 h0.2.2.1 h0.2.2.2 p q).1 (five_rg h0.1 h0.2.1 h0.2.2.1 h0.2.2.2 p q).2, fun i p q => C4 i (by grind) (by grind), fun i p q => ?_, fun i p q r => (M1 i (by grind) (by grind)).2.2.2.1, M2, hg, h4, fun i p q => h2 i⟩
  · have x := C1 i (by grind) (by grind)
    exact ⟨x.1, x.2.1, x.2.2.1, x.2.2.2.1⟩
  · have x := C2 i (by grind) (by grind)
    exact ⟨x.1, x.2.1, x.2.2.2.1, x.2.2.2.2⟩
  · have x := M1 i (by grind) (by grind)
    exact ⟨x.1, x.2.1, x.2.2.1, x.2.2.2.2.1, x.2.2.2.2.2.1, x.2.2.2.2.2.2.1, x.2.2.2.2.2.2.2.1, x.2.2.2.2.2.2.2.2.1, x.2.2.2.2.2.2.2.2.2⟩
/-- the class's state with a new top -/
def cTp (σ : S5) (z : Int64) (s : Int32) : S5 := pI (pA (pA (pA (pI (pB σ 1 (gI σ 5) z) 5 (gI σ 5 + 1)) 8 (gI σ 6) s) 4 (gI σ 6) 0) 11 (gI σ 6) 0) 6 (gI σ 6 + 1)
theorem c_addTop {σ : S5} (z : Int64) (s : Int32) (h0 : 0 ≤ gI σ 5) (h1 : gI σ 5 < 30) (h2 : 0 ≤ gI σ 6) (h3 : gI σ 6 < 630) : f_X4_addTop z s σ = some ((), cTp σ z s) := by
  unfold f_X4_addTop f_X4_addFunction
  rw [if_neg (by grind), gd30 h0 h1, if_pos (show gI (pI (pB σ 1 (gI σ 5) z) 5 (gI σ 5 + 1)) 6 < 630 from h3)]
  have e6 : gI (pI (pB σ 1 (gI σ 5) z) 5 (gI σ 5 + 1)) 6 = gI σ 6 := rfl
  simp only [e6, gd630 h2 h3, bd_of]
  rfl
theorem cTp_gI (σ : S5) (z : Int64) (s : Int32) {k : Nat} (h1 : ¬ k = 5) (h2 : ¬ k = 6) : gI (cTp σ z s) k = gI σ k := by
  unfold cTp
  rw [gI_pI, if_neg h2, gI_pA, gI_pA, gI_pA, gI_pI, if_neg h1]
  rfl
theorem cTp_A (σ : S5) (z : Int64) (s : Int32) {k : Nat} (x : Int32) (h : ¬ k = 8 ∧ ¬ k = 4 ∧ ¬ k = 11) : xA (cTp σ z s) k x = xA σ k x := by
  unfold cTp
  rw [xA_pI, xA_pA, if_neg (fun w => h.2.2 w.1), xA_pA, if_neg (fun w => h.2.1 w.1), xA_pA, if_neg (fun w => h.1 w.1), xA_pI, xA_pB]
theorem cTp_B (σ : S5) (z : Int64) (s : Int32) {k : Nat} (x : Int32) (h : ¬ k = 1) : xB (cTp σ z s) k x = xB σ k x := by
  unfold cTp
  rw [xB_pI, xB_pA, xB_pA, xB_pA, xB_pI, xB_pB, if_neg (fun w => h w.1)]
theorem cTp_row (σ : S5) (z : Int64) (s : Int32) {i : Nat} (h5 : gI σ 5 = gI σ 6) (x : Int32) : xB (cTp σ z s) 1 x = (if x.toNatClampNeg = (gI σ 6).toNatClampNeg then z else xB σ 1 x) ∧ xA (cTp σ z s) 8 x = (if x.toNatClampNeg = (gI σ 6).toNatClampNeg then s else xA σ 8 x) ∧ xA (cTp σ z s) 4 x = (if x.toNatClampNeg = (gI σ 6).toNatClampNeg then 0 else xA σ 4 x) ∧ xA (cTp σ z s) 11 x = (if x.toNatClampNeg = (gI σ 6).toNatClampNeg then 0 else xA σ 11 x) := by
  unfold cTp
  rw [h5]
  simp [xA_pI, xA_pA, xA_pB, xB_pI, xB_pA, xB_pB]
theorem Wd.Tp {σ μ : S5} {z : Int64} {s : Int32} (h : Wd σ μ) : Wd (cTp σ z s) μ := h
/-- the reference with a new function -/
def mTp (μ : S5) (n : Int32) : S5 := pI (pA (pA (pB μ 2 (gI μ 13) (xB μ 0 n)) 11 (gI μ 13) (xA μ 6 n)) 12 (gI μ 13) n) 13 (gI μ 13 + 1)
theorem rf_b73 {μ μc : S5} (h7 : gI μ 7 = 0) (h4 : gI μ 4 = 3) (h0 : 0 ≤ gI μ 9) (h1 : gI μ 9 < 3200) (e : f_X12_next (pB (ndM μ 12) 0 (gI μ 9) (gJ μ 0)) = some ((), μc)) (c7 : gI μc 7 = 0) (c13 : gI μc 13 = gI μ 13) (h13 : 0 ≤ gI μ 13) (h13' : gI μ 13 < 640) : f_X12_readFunction_b73 μ = bd (f_X12_parameters (gI μ 9) 0 (mTp μc (gI μ 9))) (fun _ τ => f_X12_readFunction_b180 (gI μ 9) τ) := by
  unfold f_X12_readFunction_b73 f_X12_readFunction_b93 f_X12_readFunction_b123
  have e13 : gI (ndM μ 12) 13 = gI μ 13 := ndM_gI _ _ (by decide)
  have e4 : gI (ndM μ 12) 4 = gI μ 4 := ndM_gI _ _ (by decide)
  rw [if_neg (by grind), m_node 12 h0 h1, bd_of, gd3200 h0 h1, e4, if_pos h4, m_acc1 (μ := pB (ndM μ 12) 0 (gI μ 9) (gJ (ndM μ 12) 0)) (by exact h7), show gJ (ndM μ 12) 0 = gJ μ 0 from rfl, e, bd_of, if_pos c7, e13]
  simp only [gd3200 h0 h1, gd640 h13 h13', mTp, c13]
theorem rf_b73N {μ : S5} (h7 : gI μ 7 = 0) (h4 : ¬ gI μ 4 = 3) (h0 : 0 ≤ gI μ 9) (h1 : gI μ 9 < 3200) : f_X12_readFunction_b73 μ = some ((), pI (pI (pB (ndM μ 12) 0 (gI μ 9) (gJ μ 0)) 7 1) 8 (gI μ 5)) := by
  unfold f_X12_readFunction_b73 f_X12_readFunction_b93 f_X12_readFunction_b123
  have e4 : gI (ndM μ 12) 4 = gI μ 4 := ndM_gI _ _ (by decide)
  have hF : ¬ gI (pI (pI (pB (ndM μ 12) 0 (gI μ 9) (gJ μ 0)) 7 1) 8 (gI μ 5)) 7 = 0 := (by decide : ¬ (1 : Int32) = 0)
  rw [if_neg (by grind), m_node 12 h0 h1, bd_of, gd3200 h0 h1, e4, if_neg h4, m_acc0 (μ := pB (ndM μ 12) 0 (gI μ 9) (gJ (ndM μ 12) 0)) (by exact h7), show gJ (ndM μ 12) 0 = gJ μ 0 from rfl, bd_of, show gI (pB (ndM μ 12) 0 (gI μ 9) (gJ μ 0)) 5 = gI μ 5 from rfl, if_neg hF, rf_b180F hF]
theorem Ct_of {σ σ' μ μ' : S5} (h : Ct σ μ) (h4 : gI σ' 4 = gI σ 4) (h14 : gI μ' 14 = gI μ 14) (hB : ∀ i, xB σ' 0 i = xB σ 0 i) (hB3 : ∀ i, xB μ' 3 i = xB μ 3 i) (hA : ∀ i, xA σ' 2 i = xA σ 2 i) (hA13 : ∀ i, xA μ' 13 i = xA μ 13 i) : Ct σ' μ' := by
  obtain ⟨a1, a2, a3, a4⟩ := h
  refine ⟨by rw [h4, h14]; exact a1, by rw [h4]; exact a2, by rw [h4]; exact a3, fun i q1 q2 => ?_⟩
  rw [hB, hB3, hA, hA13]
  exact a4 i q1 (by rw [← h4]; exact q2)
theorem Wd.mTp {σ μ : S5} {n m v : Int32} (h : Wd σ μ) : Wd σ (pA (mTp μ n) 9 m v) := h
theorem mTp_x (μ : S5) (n m v : Int32) : (∀ x, xA (pA (mTp μ n) 9 m v) 13 x = xA μ 13 x) ∧ (∀ x, xB (pA (mTp μ n) 9 m v) 3 x = xB μ 3 x) := ⟨fun x => rfl, fun x => rfl⟩
theorem ndB_x (μ : S5) (k n : Int32) (z : Int64) : (∀ x, xA (pB (ndM μ k) 0 n z) 13 x = xA μ 13 x) ∧ (∀ x, xB (pB (ndM μ k) 0 n z) 3 x = xB μ 3 x) := ⟨fun x => rfl, fun x => rfl⟩
theorem le0_a1 {a : Int32} (h0 : 0 ≤ a) (h1 : a ≤ 10000) : 0 ≤ a + 1 := by grind
theorem le_t {a : Int32} {b : Int32} (h : a ≤ b) (hb : b ≤ 10000) : a ≤ 10000 := by grind
/-- the class's state with a function's scope and name -/
theorem fn_oneC {σ : S5} {k : Nat} (hk : k ≤ 29) (h5 : gI σ 5 = nI k) (h6 : gI σ 6 = nI k) : ∃ C : S5, cTp (cSc σ (-1) (gI σ 18) (gI σ 9)) (gJ σ 0) (gI σ 9) = C ∧ (∀ j, ¬ j = 5 → ¬ j = 6 → ¬ j = 9 → gI C j = gI σ j) ∧ gI C 5 = nI (k + 1) ∧ gI C 6 = nI (k + 1) ∧ gI C 9 = gI σ 9 + 1 ∧ (∀ j x, ¬ j = 8 → ¬ j = 4 → ¬ j = 11 → ¬ j = 20 → ¬ j = 21 → ¬ j = 22 → ¬ j = 24 → xA C j x = xA σ j x) ∧ (∀ j x, ¬ j = 1 → xB C j x = xB σ j x) ∧ FrC σ C ∧ (∀ i, i < k → xB C 1 (nI i) = xB σ 1 (nI i) ∧ xA C 8 (nI i) = xA σ 8 (nI i) ∧ xA C 4 (nI i) = xA σ 4 (nI i) ∧ xA C 11 (nI i) = xA σ 11 (nI i)) ∧ (xB C 1 (nI k) = gJ σ 0 ∧ xA C 8 (nI k) = gI σ 9 ∧ xA C 4 (nI k) = 0 ∧ xA C 11 (nI k) = 0) ∧ (xA C 20 (gI σ 9) = 0 ∧ xA C 21 (gI σ 9) = -1 ∧ xA C 22 (gI σ 9) = gI σ 9 ∧ xA C 24 (gI σ 9) = gI σ 18) ∧ (∀ μ, Wd σ μ → Wd C μ) := by
  have hki : 0 ≤ nI k ∧ nI k < 30 := nI_n30 (by omega)
  have hE56 : gI (cSc σ (-1) (gI σ 18) (gI σ 9)) 5 = gI (cSc σ (-1) (gI σ 18) (gI σ 9)) 6 := by show gI σ 5 = gI σ 6; rw [h5, h6]
  have e6k : gI (cSc σ (-1) (gI σ 18) (gI σ 9)) 6 = nI k := h6
  have e5k : gI (cSc σ (-1) (gI σ 18) (gI σ 9)) 5 = nI k := h5
  have crow := cSc_row σ (-1) (gI σ 18) (gI σ 9)
  have cfr := cSc_fr σ (-1) (gI σ 18) (gI σ 9)
  have c9 : gI (cSc σ (-1) (gI σ 18) (gI σ 9)) 9 = gI σ 9 + 1 := rfl
  have cI : ∀ j, ¬ j = 9 → gI (cSc σ (-1) (gI σ 18) (gI σ 9)) j = gI σ j := fun j w => cSc_gI _ _ _ _ w
  have cA : ∀ j x, ¬ j = 20 → ¬ j = 21 → ¬ j = 22 → ¬ j = 24 → xA (cSc σ (-1) (gI σ 18) (gI σ 9)) j x = xA σ j x := fun j x w1 w2 w3 w4 => by
    unfold cSc
    rw [xA_pI, xA_pA, if_neg (fun w => w3 w.1), xA_pA, if_neg (fun w => w4 w.1), xA_pA, if_neg (fun w => w2 w.1), xA_pA, if_neg (fun w => w1 w.1)]
  have cB : ∀ j x, xB (cSc σ (-1) (gI σ 18) (gI σ 9)) j x = xB σ j x := fun j x => rfl
  have cW : ∀ μ, Wd σ μ → Wd (cSc σ (-1) (gI σ 18) (gI σ 9)) μ := fun μ h => h.Sc
  refine ⟨_, rfl, ?_⟩
  generalize cSc σ (-1) (gI σ 18) (gI σ 9) = C1 at *
  have trow := fun x => cTp_row C1 (gJ σ 0) (gI σ 9) (i := k) hE56 x
  have tA : ∀ j x, ¬ j = 8 → ¬ j = 4 → ¬ j = 11 → xA (cTp C1 (gJ σ 0) (gI σ 9)) j x = xA C1 j x := fun j x w1 w2 w3 => cTp_A _ _ _ _ ⟨w1, w2, w3⟩
  have tB : ∀ j x, ¬ j = 1 → xB (cTp C1 (gJ σ 0) (gI σ 9)) j x = xB C1 j x := fun j x w => cTp_B _ _ _ _ w
  have tI : ∀ j, ¬ j = 5 → ¬ j = 6 → gI (cTp C1 (gJ σ 0) (gI σ 9)) j = gI C1 j := fun j w1 w2 => cTp_gI _ _ _ w1 w2
  have t5 : gI (cTp C1 (gJ σ 0) (gI σ 9)) 5 = gI C1 5 + 1 := rfl
  have t6 : gI (cTp C1 (gJ σ 0) (gI σ 9)) 6 = gI C1 6 + 1 := rfl
  have tW : ∀ μ, Wd σ μ → Wd (cTp C1 (gJ σ 0) (gI σ 9)) μ := fun μ h => (cW μ h).Tp
  generalize cTp C1 (gJ σ 0) (gI σ 9) = C2 at *
  refine ⟨fun j w1 w2 w3 => (tI j w1 w2).trans (cI j w3), by rw [t5, e5k, nI_add1], by rw [t6, e6k, nI_add1], (tI 9 (by decide) (by decide)).trans c9, fun j x w1 w2 w3 w4 w5 w6 w7 => by rw [tA j x w1 w2 w3, cA j x w4 w5 w6 w7], fun j x w => by rw [tB j x w, cB], ?_, fun i hi => ?_, ?_, ?_, tW⟩
  · obtain ⟨g1, g2, g3, g4⟩ := cfr
    refine ⟨fun i p q => ?_, fun i p q => ?_, fun i p q => ?_, fun i p q => ?_⟩
    · rw [tA 13 _ (by decide) (by decide) (by decide), tA 14 _ (by decide) (by decide) (by decide), tA 15 _ (by decide) (by decide) (by decide), tA 16 _ (by decide) (by decide) (by decide), tA 17 _ (by decide) (by decide) (by decide)]
      exact g1 i p q
    · rw [tA 20 _ (by decide) (by decide) (by decide), tA 21 _ (by decide) (by decide) (by decide), tA 22 _ (by decide) (by decide) (by decide), tA 23 _ (by decide) (by decide) (by decide), tA 24 _ (by decide) (by decide) (by decide)]
      exact g2 i p q
    · rw [tB 3 _ (by decide)]; exact g3 i p q
    · rw [tA 27 _ (by decide) (by decide) (by decide), tA 28 _ (by decide) (by decide) (by decide), tA 29 _ (by decide) (by decide) (by decide), tB 4 _ (by decide)]
      exact g4 i p q
  · have hne : ¬ (nI i).toNatClampNeg = (nI k).toNatClampNeg := by
      intro w
      have h1 := (i_inj (nI_n30 (i := i) (by omega)).1 hki.1).mp w
      have := nI_inj (a := i) (b := k) (by omega) (by omega) h1
      omega
    obtain ⟨t1, t2, t3, t4⟩ := trow (nI i)
    rw [e6k, if_neg hne] at t1 t2 t3 t4
    rw [t1, t2, t3, t4, cB, cA 8 _ (by decide) (by decide) (by decide) (by decide), cA 4 _ (by decide) (by decide) (by decide) (by decide), cA 11 _ (by decide) (by decide) (by decide) (by decide)]
    exact ⟨rfl, rfl, rfl, rfl⟩
  · obtain ⟨t1, t2, t3, t4⟩ := trow (nI k)
    rw [e6k, if_pos rfl] at t1 t2 t3 t4
    rw [t1, t2, t3, t4]
    exact ⟨rfl, rfl, rfl, rfl⟩
  · rw [tA 20 _ (by decide) (by decide) (by decide), tA 21 _ (by decide) (by decide) (by decide), tA 22 _ (by decide) (by decide) (by decide), tA 24 _ (by decide) (by decide) (by decide)]
    exact crow
theorem Wd.B0 {σ μ : S5} {i : Int32} {z : Int64} (h : Wd σ μ) : Wd σ (pB μ 0 i z) := h
/-- the reference's -/
theorem fn_oneM (μ : S5) : ∃ N : S5, pB (ndM μ 12) 0 (gI μ 9) (gJ μ 0) = N ∧ (∀ j, ¬ j = 9 → gI N j = gI μ j) ∧ gI N 9 = gI μ 9 + 1 ∧ FrM μ N ∧ (∀ j x, 11 ≤ j → xA N j x = xA μ j x) ∧ (∀ j x, ¬ j = 0 → xB N j x = xB μ j x) ∧ (xA N 2 (gI μ 9) = 12 ∧ xA N 5 (gI μ 9) = -1 ∧ xA N 6 (gI μ 9) = gI μ 5 ∧ xA N 10 (gI μ 9) = 0 ∧ xB N 0 (gI μ 9) = gJ μ 0) ∧ EqT μ N ∧ (∀ σ, Wd σ μ → Wd σ N) := by
  refine ⟨_, rfl, fun j w => (gI_pB ..).trans (ndM_gI μ 12 w), (gI_pB ..).trans (ndM_9 μ 12), ?_, fun j x w => ?_, fun j x w => ?_, ?_, EqR.t EqR.ndB, fun σ h => (h.nd (k := 12)).B0⟩
  · obtain ⟨f1, f2⟩ := ndM_fr μ 12
    refine ⟨fun i p q => ?_, fun i p q => f2 i p q⟩
    have x := f1 i p q
    refine ⟨x.1, x.2.1, x.2.2.1, x.2.2.2.1, x.2.2.2.2.1, x.2.2.2.2.2.1, x.2.2.2.2.2.2.1, x.2.2.2.2.2.2.2.1, x.2.2.2.2.2.2.2.2.1, ?_⟩
    rw [xB_pB, if_neg (fun w => i_ne p q w.2)]
    exact x.2.2.2.2.2.2.2.2.2
  · rw [xA_pB]
    unfold ndM
    simp only [xA_pI, xA_pA, xA_pB]
    rw [if_neg (by omega), if_neg (by omega), if_neg (by omega), if_neg (by omega), if_neg (by omega), if_neg (by omega), if_neg (by omega), if_neg (by omega), if_neg (by omega)]
  · rw [xB_pB, if_neg (fun q => w q.1)]
    unfold ndM
    simp only [xB_pI, xB_pA, xB_pB]
    rw [if_neg (fun q => w q.1)]
  · have r := ndM_row μ 12
    refine ⟨r.1, r.2.2.1, r.2.2.2.1, r.2.2.2.2, ?_⟩
    rw [xB_pB, if_pos ⟨rfl, rfl⟩]
