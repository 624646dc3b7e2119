theorem gA_pA_ne {σ : S5} {k j : Nat} {i v : Int32} (h : ¬ j = k) : gA (pA σ k i v) j = gA σ j := funext (fun x => by rw [gA_pA, if_neg (fun q => h q.1)])
theorem gB_pB_ne {σ : S5} {k j : Nat} {i : Int32} {v : Int64} (h : ¬ j = k) : gB (pB σ k i v) j = gB σ j := funext (fun x => by rw [gB_pB, if_neg (fun q => h q.1)])
/-- what lifting never writes -/
def KL (σ τ : S5) : Prop := (∀ j, (j < 6 ∨ (9 ≤ j ∧ j ≤ 19) ∨ 22 ≤ j) → gI τ j = gI σ j) ∧ (∀ j, gJ τ j = gJ σ j) ∧ (∀ j, (j < 3 ∨ j = 12 ∨ (20 ≤ j ∧ j ≤ 24) ∨ (27 ≤ j ∧ j ≤ 29) ∨ 31 ≤ j) → gA τ j = gA σ j) ∧ (∀ j, ¬ j = 2  → gB τ j = gB σ j) ∧ τ.2.2.2.2 = σ.2.2.2.2
theorem KL.rf (σ : S5) : KL σ σ := ⟨fun _ _ => rfl, fun _ => rfl, fun _ _ => rfl, fun _ _ => rfl, rfl⟩
theorem KL_pI {s0 : S5} (σ : S5) (k : Nat) (v : Int32) (hk : ¬ ((k < 6 ∨ (9 ≤ k ∧ k ≤ 19) ∨ 22 ≤ k))) (h : KL s0 σ) : KL s0 (pI σ k v) := ⟨fun j hj => by rw [gI_pI, if_neg (fun e => hk (by rw [← e]; exact hj))]; exact h.1 j hj, h.2.1, h.2.2.1, h.2.2.2.1, h.2.2.2.2⟩
theorem KL_pA {s0 : S5} (σ : S5) (k : Nat) (i v : Int32) (hk : ¬ ((k < 3 ∨ k = 12 ∨ (20 ≤ k ∧ k ≤ 24) ∨ (27 ≤ k ∧ k ≤ 29) ∨ 31 ≤ k))) (h : KL s0 σ) : KL s0 (pA σ k i v) := ⟨h.1, h.2.1, fun j hj => (gA_pA_ne (fun e => hk (by rw [← e]; exact hj))).trans (h.2.2.1 j hj), h.2.2.2.1, h.2.2.2.2⟩
theorem KL_pB {s0 : S5} (σ : S5) (k : Nat) (i : Int32) (v : Int64) (hk : ¬ (¬ k = 2 )) (h : KL s0 σ) : KL s0 (pB σ k i v) := ⟨h.1, h.2.1, h.2.2.1, fun j hj => (gB_pB_ne (fun e => hk (by rw [← e]; exact hj))).trans (h.2.2.2.1 j hj), h.2.2.2.2⟩
theorem kl_f_X9_span {s0 : S5} (a0 : Int32) (a1 : Int32) (σ : S5) (h : KL s0 σ) : Kd (KL s0) (f_X9_span a0 a1 σ) := by
  unfold f_X9_span
  repeat' first
    | assumption
    | with_reducible exact kd_none
    | with_reducible apply kd_some
    | with_reducible apply kd_ite
    | with_reducible apply kd_bd
    | intro _ _ _
theorem kl_f_X9_isPart_b12 {s0 : S5}  (σ : S5) (h : KL s0 σ) : Kd (KL s0) (f_X9_isPart_b12  σ) := by
  unfold f_X9_isPart_b12
  repeat' first
    | assumption
    | with_reducible exact kd_none
    | with_reducible apply kd_some
    | with_reducible apply kd_ite
    | with_reducible apply kd_bd
    | intro _ _ _
theorem kl_f_X9_isPart {s0 : S5} (a0 : Int32) (σ : S5) (h : KL s0 σ) : Kd (KL s0) (f_X9_isPart a0 σ) := by
  unfold f_X9_isPart
  repeat' first
    | assumption
    | with_reducible exact kd_none
    | with_reducible apply kd_some
    | with_reducible apply kd_ite
    | with_reducible apply kd_bd
    | with_reducible apply kl_f_X9_isPart_b12
    | intro _ _ _
theorem kl_f_X9_add {s0 : S5} (a1 : Int32) (a2 : Int32) (a3 : Int32) (a4 : Int32) (σ : S5) (h : KL s0 σ) : Kd (KL s0) (f_X9_add a1 a2 a3 a4 σ) := by
  unfold f_X9_add
  repeat' first
    | assumption
    | with_reducible exact kd_none
    | with_reducible apply kd_some
    | with_reducible apply kd_ite
    | with_reducible apply kd_gd
    | with_reducible apply kd_bd
    | with_reducible apply KL_pI _ _ _ (by decide)
    | with_reducible apply KL_pA _ _ _ _ (by decide)
    | intro _ _ _
theorem kl_f_X9_addLeaf {s0 : S5} (a1 : Int32) (a2 : Int32) (σ : S5) (h : KL s0 σ) : Kd (KL s0) (f_X9_addLeaf a1 a2 σ) := by
  unfold f_X9_addLeaf
  repeat' first
    | assumption
    | with_reducible exact kd_none
    | with_reducible apply kd_some
    | with_reducible apply kd_ite
    | with_reducible apply kd_bd
    | with_reducible apply kl_f_X9_add
    | intro _ _ _
theorem kl_f_X9_change {s0 : S5} (a1 : Int32) (a2 : Int32) (a3 : Int32) (σ : S5) (h : KL s0 σ) : Kd (KL s0) (f_X9_change a1 a2 a3 σ) := by
  unfold f_X9_change
  repeat' first
    | assumption
    | with_reducible exact kd_none
    | with_reducible apply kd_some
    | with_reducible apply kd_ite
    | with_reducible apply kd_gd
    | with_reducible apply kd_bd
    | with_reducible apply KL_pA _ _ _ _ (by decide)
    | intro _ _ _
theorem kl_f_X9_measureLeaf_b49 {s0 : S5} (u0 : Int64) (u1 : Int32) (σ : S5) (h : KL s0 σ) : Kd (KL s0) (f_X9_measureLeaf_b49 u0 u1 σ) := by
  unfold f_X9_measureLeaf_b49
  repeat' first
    | assumption
    | with_reducible exact kd_none
    | with_reducible apply kd_some
    | with_reducible apply kd_ite
    | with_reducible apply kd_gd
    | with_reducible apply kd_bd
    | with_reducible apply KL_pB _ _ _ _ (by decide)
    | intro _ _ _
theorem kl_f_X9_measureLeaf_b48 {s0 : S5} (u0 : Int32) (σ : S5) (h : KL s0 σ) : Kd (KL s0) (f_X9_measureLeaf_b48 u0 σ) := by
  unfold f_X9_measureLeaf_b48
  repeat' first
    | assumption
    | with_reducible exact kd_none
    | with_reducible apply kd_some
    | with_reducible apply kd_ite
    | with_reducible apply kd_bd
    | with_reducible apply kl_f_X9_measureLeaf_b49
    | intro _ _ _
theorem kl_f_X9_measureLeaf {s0 : S5} (a1 : Int32) (σ : S5) (h : KL s0 σ) : Kd (KL s0) (f_X9_measureLeaf a1 σ) := by
  unfold f_X9_measureLeaf
  repeat' first
    | assumption
    | with_reducible exact kd_none
    | with_reducible apply kd_some
    | with_reducible apply kd_ite
    | with_reducible apply kd_gd
    | with_reducible apply kd_bd
    | with_reducible apply KL_pA _ _ _ _ (by decide)
    | with_reducible apply kl_f_X9_measureLeaf_b49
    | with_reducible apply kl_f_X9_measureLeaf_b48
    | intro _ _ _
theorem kl_f_X9_measure_b158 {s0 : S5} (v1 : Int32) (v3 : Int32) (v4 : Int32) (v5 : Int64) (v7 : Int64) (u0 : Int32) (σ : S5) (h : KL s0 σ) : Kd (KL s0) (f_X9_measure_b158 v1 v3 v4 v5 v7 u0 σ) := by
  unfold f_X9_measure_b158
  repeat' first
    | assumption
    | with_reducible exact kd_none
    | with_reducible apply kd_some
    | with_reducible apply kd_ite
    | with_reducible apply kd_gd
    | with_reducible apply kd_bd
    | with_reducible apply KL_pA _ _ _ _ (by decide)
    | with_reducible apply KL_pB _ _ _ _ (by decide)
    | intro _ _ _
theorem kl_f_X9_measure_b141 {s0 : S5} (v1 : Int32) (v3 : Int32) (v4 : Int32) (v5 : Int64) (v7 : Int64) (σ : S5) (h : KL s0 σ) : Kd (KL s0) (f_X9_measure_b141 v1 v3 v4 v5 v7 σ) := by
  unfold f_X9_measure_b141
  repeat' first
    | assumption
    | with_reducible exact kd_none
    | with_reducible apply kd_some
    | with_reducible apply kd_ite
    | with_reducible apply kd_gd
    | with_reducible apply kd_bd
    | with_reducible apply kl_f_X9_isPart
    | with_reducible apply kl_f_X9_measure_b158
    | intro _ _ _
theorem kl_f_X9_measure_b118 {s0 : S5} (v1 : Int32) (v2 : Int32) (v3 : Int32) (v4 : Int32) (v5 : Int64) (v7 : Int64) (σ : S5) (h : KL s0 σ) : Kd (KL s0) (f_X9_measure_b118 v1 v2 v3 v4 v5 v7 σ) := by
  unfold f_X9_measure_b118
  repeat' first
    | assumption
    | with_reducible exact kd_none
    | with_reducible apply kd_some
    | with_reducible apply kd_ite
    | with_reducible apply kd_gd
    | with_reducible apply kd_bd
    | with_reducible apply kl_f_X9_span
    | with_reducible apply kl_f_X9_measure_b141
    | intro _ _ _
theorem kl_f_X9_measure_b100 {s0 : S5} (rec22 : Int32 → Int32 → Int32 → Int32 → Int64 → Int64 → Int32 → Int32 → S5 → Option (Unit × S5)) (hrec22 : ∀ v0 v1 v2 v3 v4 v5 v6 v7 (σ : S5), KL s0 σ → Kd (KL s0) (rec22 v0 v1 v2 v3 v4 v5 v6 v7 σ)) (v1 : Int32) (v2 : Int32) (v3 : Int32) (v4 : Int32) (v5 : Int64) (v9 : Int32) (v10 : Int32) (u0 : Int64) (u1 : Int64) (σ : S5) (h : KL s0 σ) : Kd (KL s0) (f_X9_measure_b100 rec22 v1 v2 v3 v4 v5 v9 v10 u0 u1 σ) := by
  unfold f_X9_measure_b100
  repeat' first
    | assumption
    | with_reducible exact kd_none
    | with_reducible apply kd_some
    | with_reducible apply kd_ite
    | with_reducible apply kd_gd
    | with_reducible apply kd_bd
    | with_reducible apply hrec22
    | intro _ _ _
theorem kl_f_X9_measure_B22 {s0 : S5} (rec22 : Int32 → Int32 → Int32 → Int32 → Int64 → Int64 → Int32 → Int32 → S5 → Option (Unit × S5)) (hrec22 : ∀ v0 v1 v2 v3 v4 v5 v6 v7 (σ : S5), KL s0 σ → Kd (KL s0) (rec22 v0 v1 v2 v3 v4 v5 v6 v7 σ)) (v1 : Int32) (v2 : Int32) (v3 : Int32) (v4 : Int32) (v5 : Int64) (v7 : Int64) (v9 : Int32) (v10 : Int32) (σ : S5) (h : KL s0 σ) : Kd (KL s0) (f_X9_measure_B22 rec22 v1 v2 v3 v4 v5 v7 v9 v10 σ) := by
  unfold f_X9_measure_B22
  repeat' first
    | assumption
    | with_reducible exact kd_none
    | with_reducible apply kd_some
    | with_reducible apply kd_ite
    | with_reducible apply kd_gd
    | with_reducible apply kd_bd
    | with_reducible apply kl_f_X9_span
    | with_reducible apply kl_f_X9_measure_b118
    | with_reducible apply kl_f_X9_measure_b100
    | with_reducible apply hrec22
    | intro _ _ _
theorem kl_f_X9_measure_L22 {s0 : S5} : ∀ (n : Nat) v0 v1 v2 v3 v4 v5 v6 v7 (σ : S5), KL s0 σ → Kd (KL s0) (f_X9_measure_L22 n v0 v1 v2 v3 v4 v5 v6 v7 σ)
  | 0, _, _, _, _, _, _, _, _, _, _ => kd_none
  | n + 1, v0, v1, v2, v3, v4, v5, v6, v7, σ, h => by
    unfold f_X9_measure_L22
    exact kl_f_X9_measure_B22 _ (kl_f_X9_measure_L22 n) v0 v1 v2 v3 v4 v5 v6 v7 σ h
theorem kl_f_X9_measure {s0 : S5} (a1 : Int32) (a2 : Int32) (σ : S5) (h : KL s0 σ) : Kd (KL s0) (f_X9_measure a1 a2 σ) := by
  unfold f_X9_measure
  repeat' first
    | assumption
    | with_reducible exact kd_none
    | with_reducible apply kd_some
    | with_reducible apply kd_ite
    | with_reducible apply kd_gd
    | with_reducible apply kd_bd
    | with_reducible apply kl_f_X9_measure_L22
    | intro _ _ _
theorem kl_f_X4_addFunction {s0 : S5} (a1 : Int32) (σ : S5) (h : KL s0 σ) : Kd (KL s0) (f_X4_addFunction a1 σ) := by
  unfold f_X4_addFunction
  repeat' first
    | assumption
    | with_reducible exact kd_none
    | with_reducible apply kd_some
    | with_reducible apply kd_ite
    | with_reducible apply kd_gd
    | with_reducible apply kd_bd
    | with_reducible apply KL_pI _ _ _ (by decide)
    | with_reducible apply KL_pA _ _ _ _ (by decide)
    | intro _ _ _
theorem kl_f_X4_topOf_B2 {s0 : S5} (rec2 : Int64 → Int32 → S5 → Option (Int32 × S5)) (hrec2 : ∀ v0 v1 (σ : S5), KL s0 σ → Kd (KL s0) (rec2 v0 v1 σ)) (v1 : Int64) (v3 : Int32) (σ : S5) (h : KL s0 σ) : Kd (KL s0) (f_X4_topOf_B2 rec2 v1 v3 σ) := by
  unfold f_X4_topOf_B2
  repeat' first
    | assumption
    | with_reducible exact kd_none
    | with_reducible apply kd_some
    | with_reducible apply kd_ite
    | with_reducible apply kd_gd
    | with_reducible apply kd_bd
    | with_reducible apply hrec2
    | intro _ _ _
theorem kl_f_X4_topOf_L2 {s0 : S5} : ∀ (n : Nat) v0 v1 (σ : S5), KL s0 σ → Kd (KL s0) (f_X4_topOf_L2 n v0 v1 σ)
  | 0, _, _, _, _ => kd_none
  | n + 1, v0, v1, σ, h => by
    unfold f_X4_topOf_L2
    exact kl_f_X4_topOf_B2 _ (kl_f_X4_topOf_L2 n) v0 v1 σ h
theorem kl_f_X4_topOf {s0 : S5} (a1 : Int64) (σ : S5) (h : KL s0 σ) : Kd (KL s0) (f_X4_topOf a1 σ) := by
  unfold f_X4_topOf
  repeat' first
    | assumption
    | with_reducible exact kd_none
    | with_reducible apply kd_some
    | with_reducible apply kd_ite
    | with_reducible apply kd_bd
    | with_reducible apply kl_f_X4_topOf_L2
    | intro _ _ _
theorem kl_f_X6_owns {s0 : S5} (a1 : Int32) (σ : S5) (h : KL s0 σ) : Kd (KL s0) (f_X6_owns a1 σ) := by
  unfold f_X6_owns
  repeat' first
    | assumption
    | with_reducible exact kd_none
    | with_reducible apply kd_some
    | with_reducible apply kd_ite
    | with_reducible apply kd_gd
    | with_reducible apply kd_bd
    | intro _ _ _
theorem kl_f_X6_variableIn_B3 {s0 : S5} (rec3 : Int32 → Int64 → Int32 → S5 → Option (Int32 × S5)) (hrec3 : ∀ v0 v1 v2 (σ : S5), KL s0 σ → Kd (KL s0) (rec3 v0 v1 v2 σ)) (v1 : Int32) (v2 : Int64) (v4 : Int32) (σ : S5) (h : KL s0 σ) : Kd (KL s0) (f_X6_variableIn_B3 rec3 v1 v2 v4 σ) := by
  unfold f_X6_variableIn_B3
  repeat' first
    | assumption
    | with_reducible exact kd_none
    | with_reducible apply kd_some
    | with_reducible apply kd_ite
    | with_reducible apply kd_gd
    | with_reducible apply kd_bd
    | with_reducible apply hrec3
    | intro _ _ _
theorem kl_f_X6_variableIn_L3 {s0 : S5} : ∀ (n : Nat) v0 v1 v2 (σ : S5), KL s0 σ → Kd (KL s0) (f_X6_variableIn_L3 n v0 v1 v2 σ)
  | 0, _, _, _, _, _ => kd_none
  | n + 1, v0, v1, v2, σ, h => by
    unfold f_X6_variableIn_L3
    exact kl_f_X6_variableIn_B3 _ (kl_f_X6_variableIn_L3 n) v0 v1 v2 σ h
theorem kl_f_X6_variableIn {s0 : S5} (a1 : Int32) (a2 : Int64) (σ : S5) (h : KL s0 σ) : Kd (KL s0) (f_X6_variableIn a1 a2 σ) := by
  unfold f_X6_variableIn
  repeat' first
    | assumption
    | with_reducible exact kd_none
    | with_reducible apply kd_some
    | with_reducible apply kd_ite
    | with_reducible apply kd_bd
    | with_reducible apply kl_f_X6_variableIn_L3
    | intro _ _ _
theorem kl_f_X6_find_B6 {s0 : S5} (rec6 : Int64 → Int32 → Int32 → S5 → Option (Int32 × S5)) (hrec6 : ∀ v0 v1 v2 (σ : S5), KL s0 σ → Kd (KL s0) (rec6 v0 v1 v2 σ)) (v2 : Int64) (v4 : Int32) (v5 : Int32) (σ : S5) (h : KL s0 σ) : Kd (KL s0) (f_X6_find_B6 rec6 v2 v4 v5 σ) := by
  unfold f_X6_find_B6
  repeat' first
    | assumption
    | with_reducible exact kd_none
    | with_reducible apply kd_some
    | with_reducible apply kd_ite
    | with_reducible apply kd_gd
    | with_reducible apply kd_bd
    | with_reducible apply kl_f_X6_variableIn
    | with_reducible apply hrec6
    | intro _ _ _
theorem kl_f_X6_find_L6 {s0 : S5} : ∀ (n : Nat) v0 v1 v2 (σ : S5), KL s0 σ → Kd (KL s0) (f_X6_find_L6 n v0 v1 v2 σ)
  | 0, _, _, _, _, _ => kd_none
  | n + 1, v0, v1, v2, σ, h => by
    unfold f_X6_find_L6
    exact kl_f_X6_find_B6 _ (kl_f_X6_find_L6 n) v0 v1 v2 σ h
theorem kl_f_X6_find {s0 : S5} (a1 : Int32) (a2 : Int64) (σ : S5) (h : KL s0 σ) : Kd (KL s0) (f_X6_find a1 a2 σ) := by
  unfold f_X6_find
  repeat' first
    | assumption
    | with_reducible exact kd_none
    | with_reducible apply kd_some
    | with_reducible apply kd_ite
    | with_reducible apply kd_bd
    | with_reducible apply kl_f_X6_find_L6
    | intro _ _ _
theorem kl_f_X2_refuse {s0 : S5} (a1 : Int32) (a2 : Int32) (σ : S5) (h : KL s0 σ) : Kd (KL s0) (f_X2_refuse a1 a2 σ) := by
  unfold f_X2_refuse
  repeat' first
    | assumption
    | with_reducible exact kd_none
    | with_reducible apply kd_some
    | with_reducible apply kd_ite
    | with_reducible apply kd_bd
    | with_reducible apply KL_pI _ _ _ (by decide)
    | intro _ _ _
theorem kl_f_X2_freeIndex_B2 {s0 : S5} (rec2 : Int32 → Int32 → Int32 → S5 → Option (Int32 × S5)) (hrec2 : ∀ v0 v1 v2 (σ : S5), KL s0 σ → Kd (KL s0) (rec2 v0 v1 v2 σ)) (v1 : Int32) (v2 : Int32) (v3 : Int32) (σ : S5) (h : KL s0 σ) : Kd (KL s0) (f_X2_freeIndex_B2 rec2 v1 v2 v3 σ) := by
  unfold f_X2_freeIndex_B2
  repeat' first
    | assumption
    | with_reducible exact kd_none
    | with_reducible apply kd_some
    | with_reducible apply kd_ite
    | with_reducible apply kd_gd
    | with_reducible apply kd_bd
    | with_reducible apply hrec2
    | intro _ _ _
theorem kl_f_X2_freeIndex_L2 {s0 : S5} : ∀ (n : Nat) v0 v1 v2 (σ : S5), KL s0 σ → Kd (KL s0) (f_X2_freeIndex_L2 n v0 v1 v2 σ)
  | 0, _, _, _, _, _ => kd_none
  | n + 1, v0, v1, v2, σ, h => by
    unfold f_X2_freeIndex_L2
    exact kl_f_X2_freeIndex_B2 _ (kl_f_X2_freeIndex_L2 n) v0 v1 v2 σ h
theorem kl_f_X2_freeIndex {s0 : S5} (a1 : Int32) (a2 : Int32) (σ : S5) (h : KL s0 σ) : Kd (KL s0) (f_X2_freeIndex a1 a2 σ) := by
  unfold f_X2_freeIndex
  repeat' first
    | assumption
    | with_reducible exact kd_none
    | with_reducible apply kd_some
    | with_reducible apply kd_ite
    | with_reducible apply kd_bd
    | with_reducible apply kl_f_X2_freeIndex_L2
    | intro _ _ _
theorem kl_f_X2_addFree_b48 {s0 : S5} (v1 : Int32) (σ : S5) (h : KL s0 σ) : Kd (KL s0) (f_X2_addFree_b48 v1 σ) := by
  unfold f_X2_addFree_b48
  repeat' first
    | assumption
    | with_reducible exact kd_none
    | with_reducible apply kd_some
    | with_reducible apply kd_ite
    | with_reducible apply kd_gd
    | with_reducible apply kd_bd
    | with_reducible apply KL_pA _ _ _ _ (by decide)
    | intro _ _ _
theorem kl_f_X2_addFree {s0 : S5} (a1 : Int32) (a2 : Int32) (σ : S5) (h : KL s0 σ) : Kd (KL s0) (f_X2_addFree a1 a2 σ) := by
  unfold f_X2_addFree
  repeat' first
    | assumption
    | with_reducible exact kd_none
    | with_reducible apply kd_some
    | with_reducible apply kd_ite
    | with_reducible apply kd_gd
    | with_reducible apply kd_bd
    | with_reducible apply KL_pA _ _ _ _ (by decide)
    | with_reducible apply kl_f_X2_freeIndex
    | with_reducible apply kl_f_X2_addFree_b48
    | intro _ _ _
theorem kl_f_X2_passThrough_B18 {s0 : S5} (rec18 : Int32 → Int32 → Int32 → Int32 → S5 → Option (Unit × S5)) (hrec18 : ∀ v0 v1 v2 v3 (σ : S5), KL s0 σ → Kd (KL s0) (rec18 v0 v1 v2 v3 σ)) (v1 : Int32) (v3 : Int32) (v4 : Int32) (v5 : Int32) (σ : S5) (h : KL s0 σ) : Kd (KL s0) (f_X2_passThrough_B18 rec18 v1 v3 v4 v5 σ) := by
  unfold f_X2_passThrough_B18
  repeat' first
    | assumption
    | with_reducible exact kd_none
    | with_reducible apply kd_some
    | with_reducible apply kd_ite
    | with_reducible apply kd_gd
    | with_reducible apply kd_bd
    | with_reducible apply kl_f_X2_addFree
    | with_reducible apply hrec18
    | intro _ _ _
theorem kl_f_X2_passThrough_L18 {s0 : S5} : ∀ (n : Nat) v0 v1 v2 v3 (σ : S5), KL s0 σ → Kd (KL s0) (f_X2_passThrough_L18 n v0 v1 v2 v3 σ)
  | 0, _, _, _, _, _, _ => kd_none
  | n + 1, v0, v1, v2, v3, σ, h => by
    unfold f_X2_passThrough_L18
    exact kl_f_X2_passThrough_B18 _ (kl_f_X2_passThrough_L18 n) v0 v1 v2 v3 σ h
theorem kl_f_X2_passThrough {s0 : S5} (a1 : Int32) (a2 : Int32) (σ : S5) (h : KL s0 σ) : Kd (KL s0) (f_X2_passThrough a1 a2 σ) := by
  unfold f_X2_passThrough
  repeat' first
    | assumption
    | with_reducible exact kd_none
    | with_reducible apply kd_some
    | with_reducible apply kd_ite
    | with_reducible apply kd_gd
    | with_reducible apply kd_bd
    | with_reducible apply kl_f_X2_passThrough_L18
    | intro _ _ _
theorem kl_f_X2_findFree_b49 {s0 : S5} (rec2 : Int32 → S5 → Option (Unit × S5)) (hrec2 : ∀ v0 (σ : S5), KL s0 σ → Kd (KL s0) (rec2 v0 σ)) (v1 : Int32) (σ : S5) (h : KL s0 σ) : Kd (KL s0) (f_X2_findFree_b49 rec2 v1 σ) := by
  unfold f_X2_findFree_b49
  repeat' first
    | assumption
    | with_reducible exact kd_none
    | with_reducible apply kd_some
    | with_reducible apply kd_ite
    | with_reducible apply kd_bd
    | with_reducible apply hrec2
    | intro _ _ _
theorem kl_f_X2_findFree_B2 {s0 : S5} (rec2 : Int32 → S5 → Option (Unit × S5)) (hrec2 : ∀ v0 (σ : S5), KL s0 σ → Kd (KL s0) (rec2 v0 σ)) (v1 : Int32) (σ : S5) (h : KL s0 σ) : Kd (KL s0) (f_X2_findFree_B2 rec2 v1 σ) := by
  unfold f_X2_findFree_B2
  repeat' first
    | assumption
    | with_reducible exact kd_none
    | with_reducible apply kd_some
    | with_reducible apply kd_ite
    | with_reducible apply kd_gd
    | with_reducible apply kd_bd
    | with_reducible apply kl_f_X2_passThrough
    | with_reducible apply kl_f_X2_findFree_b49
    | with_reducible apply hrec2
    | intro _ _ _
theorem kl_f_X2_findFree_L2 {s0 : S5} : ∀ (n : Nat) v0 (σ : S5), KL s0 σ → Kd (KL s0) (f_X2_findFree_L2 n v0 σ)
  | 0, _, _, _ => kd_none
  | n + 1, v0, σ, h => by
    unfold f_X2_findFree_L2
    exact kl_f_X2_findFree_B2 _ (kl_f_X2_findFree_L2 n) v0 σ h
theorem kl_f_X2_findFree {s0 : S5}  (σ : S5) (h : KL s0 σ) : Kd (KL s0) (f_X2_findFree  σ) := by
  unfold f_X2_findFree
  repeat' first
    | assumption
    | with_reducible exact kd_none
    | with_reducible apply kd_some
    | with_reducible apply kd_ite
    | with_reducible apply kd_bd
    | with_reducible apply kl_f_X2_findFree_L2
    | intro _ _ _
theorem kl_f_X2_numberFunctions_B99 {s0 : S5} (rec99 : Int32 → S5 → Option (Unit × S5)) (hrec99 : ∀ v0 (σ : S5), KL s0 σ → Kd (KL s0) (rec99 v0 σ)) (v1 : Int32) (σ : S5) (h : KL s0 σ) : Kd (KL s0) (f_X2_numberFunctions_B99 rec99 v1 σ) := by
  unfold f_X2_numberFunctions_B99
  repeat' first
    | assumption
    | with_reducible exact kd_none
    | with_reducible apply kd_some
    | with_reducible apply kd_ite
    | with_reducible apply kd_gd
    | with_reducible apply kd_bd
    | with_reducible apply KL_pA _ _ _ _ (by decide)
    | with_reducible apply hrec99
    | intro _ _ _
theorem kl_f_X2_numberFunctions_L99 {s0 : S5} : ∀ (n : Nat) v0 (σ : S5), KL s0 σ → Kd (KL s0) (f_X2_numberFunctions_L99 n v0 σ)
  | 0, _, _, _ => kd_none
  | n + 1, v0, σ, h => by
    unfold f_X2_numberFunctions_L99
    exact kl_f_X2_numberFunctions_B99 _ (kl_f_X2_numberFunctions_L99 n) v0 σ h
theorem kl_f_X2_numberFunctions_b91 {s0 : S5} (rec39 : Int32 → S5 → Option (Unit × S5)) (hrec39 : ∀ v0 (σ : S5), KL s0 σ → Kd (KL s0) (rec39 v0 σ)) (v1 : Int32) (σ : S5) (h : KL s0 σ) : Kd (KL s0) (f_X2_numberFunctions_b91 rec39 v1 σ) := by
  unfold f_X2_numberFunctions_b91
  repeat' first
    | assumption
    | with_reducible exact kd_none
    | with_reducible apply kd_some
    | with_reducible apply kd_ite
    | with_reducible apply kd_bd
    | with_reducible apply hrec39
    | intro _ _ _
theorem kl_f_X2_numberFunctions_B39 {s0 : S5} (rec39 : Int32 → S5 → Option (Unit × S5)) (hrec39 : ∀ v0 (σ : S5), KL s0 σ → Kd (KL s0) (rec39 v0 σ)) (v1 : Int32) (σ : S5) (h : KL s0 σ) : Kd (KL s0) (f_X2_numberFunctions_B39 rec39 v1 σ) := by
  unfold f_X2_numberFunctions_B39
  repeat' first
    | assumption
    | with_reducible exact kd_none
    | with_reducible apply kd_some
    | with_reducible apply kd_ite
    | with_reducible apply kd_gd
    | with_reducible apply kd_bd
    | with_reducible apply KL_pA _ _ _ _ (by decide)
    | with_reducible apply kl_f_X4_addFunction
    | with_reducible apply kl_f_X6_owns
    | with_reducible apply kl_f_X2_numberFunctions_L99
    | with_reducible apply kl_f_X2_numberFunctions_b91
    | with_reducible apply hrec39
    | intro _ _ _
theorem kl_f_X2_numberFunctions_L39 {s0 : S5} : ∀ (n : Nat) v0 (σ : S5), KL s0 σ → Kd (KL s0) (f_X2_numberFunctions_L39 n v0 σ)
  | 0, _, _, _ => kd_none
  | n + 1, v0, σ, h => by
    unfold f_X2_numberFunctions_L39
    exact kl_f_X2_numberFunctions_B39 _ (kl_f_X2_numberFunctions_L39 n) v0 σ h
theorem kl_f_X2_numberFunctions_B2 {s0 : S5} (rec2 : Int32 → S5 → Option (Unit × S5)) (hrec2 : ∀ v0 (σ : S5), KL s0 σ → Kd (KL s0) (rec2 v0 σ)) (v1 : Int32) (σ : S5) (h : KL s0 σ) : Kd (KL s0) (f_X2_numberFunctions_B2 rec2 v1 σ) := by
  unfold f_X2_numberFunctions_B2
  repeat' first
    | assumption
    | with_reducible exact kd_none
    | with_reducible apply kd_some
    | with_reducible apply kd_ite
    | with_reducible apply kd_gd
    | with_reducible apply kd_bd
    | with_reducible apply KL_pA _ _ _ _ (by decide)
    | with_reducible apply kl_f_X2_numberFunctions_L39
    | with_reducible apply hrec2
    | intro _ _ _
theorem kl_f_X2_numberFunctions_L2 {s0 : S5} : ∀ (n : Nat) v0 (σ : S5), KL s0 σ → Kd (KL s0) (f_X2_numberFunctions_L2 n v0 σ)
  | 0, _, _, _ => kd_none
  | n + 1, v0, σ, h => by
    unfold f_X2_numberFunctions_L2
    exact kl_f_X2_numberFunctions_B2 _ (kl_f_X2_numberFunctions_L2 n) v0 σ h
theorem kl_f_X2_numberFunctions {s0 : S5}  (σ : S5) (h : KL s0 σ) : Kd (KL s0) (f_X2_numberFunctions  σ) := by
  unfold f_X2_numberFunctions
  repeat' first
    | assumption
    | with_reducible exact kd_none
    | with_reducible apply kd_some
    | with_reducible apply kd_ite
    | with_reducible apply kd_bd
    | with_reducible apply kl_f_X2_numberFunctions_L2
    | intro _ _ _
theorem kl_f_X2_resolveUses_b85 {s0 : S5} (rec2 : Int32 → S5 → Option (Unit × S5)) (hrec2 : ∀ v0 (σ : S5), KL s0 σ → Kd (KL s0) (rec2 v0 σ)) (v1 : Int32) (v2 : Int32) (σ : S5) (h : KL s0 σ) : Kd (KL s0) (f_X2_resolveUses_b85 rec2 v1 v2 σ) := by
  unfold f_X2_resolveUses_b85
  repeat' first
    | assumption
    | with_reducible exact kd_none
    | with_reducible apply kd_some
    | with_reducible apply kd_ite
    | with_reducible apply kd_gd
    | with_reducible apply kd_bd
    | with_reducible apply KL_pA _ _ _ _ (by decide)
    | with_reducible apply hrec2
    | intro _ _ _
theorem kl_f_X2_resolveUses_b80 {s0 : S5} (rec2 : Int32 → S5 → Option (Unit × S5)) (hrec2 : ∀ v0 (σ : S5), KL s0 σ → Kd (KL s0) (rec2 v0 σ)) (v1 : Int32) (v3 : Int32) (σ : S5) (h : KL s0 σ) : Kd (KL s0) (f_X2_resolveUses_b80 rec2 v1 v3 σ) := by
  unfold f_X2_resolveUses_b80
  repeat' first
    | assumption
    | with_reducible exact kd_none
    | with_reducible apply kd_some
    | with_reducible apply kd_ite
    | with_reducible apply kd_bd
    | with_reducible apply kl_f_X2_resolveUses_b85
    | with_reducible apply hrec2
    | intro _ _ _
theorem kl_f_X2_resolveUses_B2 {s0 : S5} (rec2 : Int32 → S5 → Option (Unit × S5)) (hrec2 : ∀ v0 (σ : S5), KL s0 σ → Kd (KL s0) (rec2 v0 σ)) (v1 : Int32) (σ : S5) (h : KL s0 σ) : Kd (KL s0) (f_X2_resolveUses_B2 rec2 v1 σ) := by
  unfold f_X2_resolveUses_B2
  repeat' first
    | assumption
    | with_reducible exact kd_none
    | with_reducible apply kd_some
    | with_reducible apply kd_ite
    | with_reducible apply kd_gd
    | with_reducible apply kd_bd
    | with_reducible apply kl_f_X4_topOf
    | with_reducible apply kl_f_X6_find
    | with_reducible apply kl_f_X2_refuse
    | with_reducible apply kl_f_X2_resolveUses_b85
    | with_reducible apply kl_f_X2_resolveUses_b80
    | with_reducible apply hrec2
    | intro _ _ _
theorem kl_f_X2_resolveUses_L2 {s0 : S5} : ∀ (n : Nat) v0 (σ : S5), KL s0 σ → Kd (KL s0) (f_X2_resolveUses_L2 n v0 σ)
  | 0, _, _, _ => kd_none
  | n + 1, v0, σ, h => by
    unfold f_X2_resolveUses_L2
    exact kl_f_X2_resolveUses_B2 _ (kl_f_X2_resolveUses_L2 n) v0 σ h
theorem kl_f_X2_resolveUses {s0 : S5}  (σ : S5) (h : KL s0 σ) : Kd (KL s0) (f_X2_resolveUses  σ) := by
  unfold f_X2_resolveUses
  repeat' first
    | assumption
    | with_reducible exact kd_none
    | with_reducible apply kd_some
    | with_reducible apply kd_ite
    | with_reducible apply kd_bd
    | with_reducible apply kl_f_X2_resolveUses_L2
    | intro _ _ _
theorem kl_f_X2_refuseManyParameters_b80 {s0 : S5} (rec2 : Int32 → S5 → Option (Unit × S5)) (hrec2 : ∀ v0 (σ : S5), KL s0 σ → Kd (KL s0) (rec2 v0 σ)) (v1 : Int32) (σ : S5) (h : KL s0 σ) : Kd (KL s0) (f_X2_refuseManyParameters_b80 rec2 v1 σ) := by
  unfold f_X2_refuseManyParameters_b80
  repeat' first
    | assumption
    | with_reducible exact kd_none
    | with_reducible apply kd_some
    | with_reducible apply kd_ite
    | with_reducible apply kd_bd
    | with_reducible apply hrec2
    | intro _ _ _
theorem kl_f_X2_refuseManyParameters_B2 {s0 : S5} (rec2 : Int32 → S5 → Option (Unit × S5)) (hrec2 : ∀ v0 (σ : S5), KL s0 σ → Kd (KL s0) (rec2 v0 σ)) (v1 : Int32) (σ : S5) (h : KL s0 σ) : Kd (KL s0) (f_X2_refuseManyParameters_B2 rec2 v1 σ) := by
  unfold f_X2_refuseManyParameters_B2
  repeat' first
    | assumption
    | with_reducible exact kd_none
    | with_reducible apply kd_some
    | with_reducible apply kd_ite
    | with_reducible apply kd_gd
    | with_reducible apply kd_bd
    | with_reducible apply KL_pA _ _ _ _ (by decide)
    | with_reducible apply kl_f_X2_refuse
    | with_reducible apply kl_f_X2_refuseManyParameters_b80
    | with_reducible apply hrec2
    | intro _ _ _
theorem kl_f_X2_refuseManyParameters_L2 {s0 : S5} : ∀ (n : Nat) v0 (σ : S5), KL s0 σ → Kd (KL s0) (f_X2_refuseManyParameters_L2 n v0 σ)
  | 0, _, _, _ => kd_none
  | n + 1, v0, σ, h => by
    unfold f_X2_refuseManyParameters_L2
    exact kl_f_X2_refuseManyParameters_B2 _ (kl_f_X2_refuseManyParameters_L2 n) v0 σ h
theorem kl_f_X2_refuseManyParameters {s0 : S5}  (σ : S5) (h : KL s0 σ) : Kd (KL s0) (f_X2_refuseManyParameters  σ) := by
  unfold f_X2_refuseManyParameters
  repeat' first
    | assumption
    | with_reducible exact kd_none
    | with_reducible apply kd_some
    | with_reducible apply kd_ite
    | with_reducible apply kd_bd
    | with_reducible apply kl_f_X2_refuseManyParameters_L2
    | intro _ _ _
theorem kl_f_X2_findMain_b46 {s0 : S5}  (σ : S5) (h : KL s0 σ) : Kd (KL s0) (f_X2_findMain_b46  σ) := by
  unfold f_X2_findMain_b46
  repeat' first
    | assumption
    | with_reducible exact kd_none
    | with_reducible apply kd_some
    | with_reducible apply kd_ite
    | with_reducible apply kd_bd
    | with_reducible apply kl_f_X2_refuse
    | intro _ _ _
theorem kl_f_X2_findMain {s0 : S5}  (σ : S5) (h : KL s0 σ) : Kd (KL s0) (f_X2_findMain  σ) := by
  unfold f_X2_findMain
  repeat' first
    | assumption
    | with_reducible exact kd_none
    | with_reducible apply kd_some
    | with_reducible apply kd_ite
    | with_reducible apply kd_gd
    | with_reducible apply kd_bd
    | with_reducible apply KL_pI _ _ _ (by decide)
    | with_reducible apply kl_f_X4_topOf
    | with_reducible apply kl_f_X2_findMain_b46
    | intro _ _ _
theorem kl_f_X2_numberVariables_b144 {s0 : S5} (rec65 : Int32 → S5 → Option (Unit × S5)) (hrec65 : ∀ v0 (σ : S5), KL s0 σ → Kd (KL s0) (rec65 v0 σ)) (v1 : Int32) (σ : S5) (h : KL s0 σ) : Kd (KL s0) (f_X2_numberVariables_b144 rec65 v1 σ) := by
  unfold f_X2_numberVariables_b144
  repeat' first
    | assumption
    | with_reducible exact kd_none
    | with_reducible apply kd_some
    | with_reducible apply kd_ite
    | with_reducible apply kd_bd
    | with_reducible apply hrec65
    | intro _ _ _
theorem kl_f_X2_numberVariables_B65 {s0 : S5} (rec65 : Int32 → S5 → Option (Unit × S5)) (hrec65 : ∀ v0 (σ : S5), KL s0 σ → Kd (KL s0) (rec65 v0 σ)) (v1 : Int32) (σ : S5) (h : KL s0 σ) : Kd (KL s0) (f_X2_numberVariables_B65 rec65 v1 σ) := by
  unfold f_X2_numberVariables_B65
  repeat' first
    | assumption
    | with_reducible exact kd_none
    | with_reducible apply kd_some
    | with_reducible apply kd_ite
    | with_reducible apply kd_gd
    | with_reducible apply kd_bd
    | with_reducible apply KL_pA _ _ _ _ (by decide)
    | with_reducible apply kl_f_X6_owns
    | with_reducible apply kl_f_X2_numberVariables_b144
    | with_reducible apply hrec65
    | intro _ _ _
theorem kl_f_X2_numberVariables_L65 {s0 : S5} : ∀ (n : Nat) v0 (σ : S5), KL s0 σ → Kd (KL s0) (f_X2_numberVariables_L65 n v0 σ)
  | 0, _, _, _ => kd_none
  | n + 1, v0, σ, h => by
    unfold f_X2_numberVariables_L65
    exact kl_f_X2_numberVariables_B65 _ (kl_f_X2_numberVariables_L65 n) v0 σ h
theorem kl_f_X2_numberVariables_B2 {s0 : S5} (rec2 : Int32 → S5 → Option (Unit × S5)) (hrec2 : ∀ v0 (σ : S5), KL s0 σ → Kd (KL s0) (rec2 v0 σ)) (v1 : Int32) (σ : S5) (h : KL s0 σ) : Kd (KL s0) (f_X2_numberVariables_B2 rec2 v1 σ) := by
  unfold f_X2_numberVariables_B2
  repeat' first
    | assumption
    | with_reducible exact kd_none
    | with_reducible apply kd_some
    | with_reducible apply kd_ite
    | with_reducible apply kd_gd
    | with_reducible apply kd_bd
    | with_reducible apply KL_pA _ _ _ _ (by decide)
    | with_reducible apply kl_f_X2_numberVariables_L65
    | with_reducible apply hrec2
    | intro _ _ _
theorem kl_f_X2_numberVariables_L2 {s0 : S5} : ∀ (n : Nat) v0 (σ : S5), KL s0 σ → Kd (KL s0) (f_X2_numberVariables_L2 n v0 σ)
  | 0, _, _, _ => kd_none
  | n + 1, v0, σ, h => by
    unfold f_X2_numberVariables_L2
    exact kl_f_X2_numberVariables_B2 _ (kl_f_X2_numberVariables_L2 n) v0 σ h
theorem kl_f_X2_numberVariables {s0 : S5}  (σ : S5) (h : KL s0 σ) : Kd (KL s0) (f_X2_numberVariables  σ) := by
  unfold f_X2_numberVariables
  repeat' first
    | assumption
    | with_reducible exact kd_none
    | with_reducible apply kd_some
    | with_reducible apply kd_ite
    | with_reducible apply kd_bd
    | with_reducible apply kl_f_X2_numberVariables_L2
    | intro _ _ _
theorem kl_f_X2_numberIn {s0 : S5} (a1 : Int32) (a2 : Int32) (σ : S5) (h : KL s0 σ) : Kd (KL s0) (f_X2_numberIn a1 a2 σ) := by
  unfold f_X2_numberIn
  repeat' first
    | assumption
    | with_reducible exact kd_none
    | with_reducible apply kd_some
    | with_reducible apply kd_ite
    | with_reducible apply kd_gd
    | with_reducible apply kd_bd
    | with_reducible apply kl_f_X2_freeIndex
    | intro _ _ _
theorem kl_f_X2_plantUses_b96 {s0 : S5} (rec2 : Int32 → S5 → Option (Unit × S5)) (hrec2 : ∀ v0 (σ : S5), KL s0 σ → Kd (KL s0) (rec2 v0 σ)) (v1 : Int32) (σ : S5) (h : KL s0 σ) : Kd (KL s0) (f_X2_plantUses_b96 rec2 v1 σ) := by
  unfold f_X2_plantUses_b96
  repeat' first
    | assumption
    | with_reducible exact kd_none
    | with_reducible apply kd_some
    | with_reducible apply kd_ite
    | with_reducible apply kd_bd
    | with_reducible apply hrec2
    | intro _ _ _
theorem kl_f_X2_plantUses_B2 {s0 : S5} (rec2 : Int32 → S5 → Option (Unit × S5)) (hrec2 : ∀ v0 (σ : S5), KL s0 σ → Kd (KL s0) (rec2 v0 σ)) (v1 : Int32) (σ : S5) (h : KL s0 σ) : Kd (KL s0) (f_X2_plantUses_B2 rec2 v1 σ) := by
  unfold f_X2_plantUses_B2
  repeat' first
    | assumption
    | with_reducible exact kd_none
    | with_reducible apply kd_some
    | with_reducible apply kd_ite
    | with_reducible apply kd_gd
    | with_reducible apply kd_bd
    | with_reducible apply kl_f_X9_change
    | with_reducible apply kl_f_X2_numberIn
    | with_reducible apply kl_f_X2_plantUses_b96
    | with_reducible apply hrec2
    | intro _ _ _
theorem kl_f_X2_plantUses_L2 {s0 : S5} : ∀ (n : Nat) v0 (σ : S5), KL s0 σ → Kd (KL s0) (f_X2_plantUses_L2 n v0 σ)
  | 0, _, _, _ => kd_none
  | n + 1, v0, σ, h => by
    unfold f_X2_plantUses_L2
    exact kl_f_X2_plantUses_B2 _ (kl_f_X2_plantUses_L2 n) v0 σ h
theorem kl_f_X2_plantUses {s0 : S5}  (σ : S5) (h : KL s0 σ) : Kd (KL s0) (f_X2_plantUses  σ) := by
  unfold f_X2_plantUses
  repeat' first
    | assumption
    | with_reducible exact kd_none
    | with_reducible apply kd_some
    | with_reducible apply kd_ite
    | with_reducible apply kd_bd
    | with_reducible apply kl_f_X2_plantUses_L2
    | intro _ _ _
theorem kl_f_X2_plantLeaf {s0 : S5} (a1 : Int32) (a2 : Int32) (σ : S5) (h : KL s0 σ) : Kd (KL s0) (f_X2_plantLeaf a1 a2 σ) := by
  unfold f_X2_plantLeaf
  repeat' first
    | assumption
    | with_reducible exact kd_none
    | with_reducible apply kd_some
    | with_reducible apply kd_ite
    | with_reducible apply kd_bd
    | with_reducible apply kl_f_X9_addLeaf
    | with_reducible apply kl_f_X9_measureLeaf
    | intro _ _ _
theorem kl_f_X2_plantLifted_B111 {s0 : S5} (rec111 : Int32 → Int32 → Int32 → Int32 → S5 → Option (Unit × S5)) (hrec111 : ∀ v0 v1 v2 v3 (σ : S5), KL s0 σ → Kd (KL s0) (rec111 v0 v1 v2 v3 σ)) (v3 : Int32) (v4 : Int32) (v5 : Int32) (v6 : Int32) (σ : S5) (h : KL s0 σ) : Kd (KL s0) (f_X2_plantLifted_B111 rec111 v3 v4 v5 v6 σ) := by
  unfold f_X2_plantLifted_B111
  repeat' first
    | assumption
    | with_reducible exact kd_none
    | with_reducible apply kd_some
    | with_reducible apply kd_ite
    | with_reducible apply kd_gd
    | with_reducible apply kd_bd
    | with_reducible apply KL_pA _ _ _ _ (by decide)
    | with_reducible apply kl_f_X2_numberIn
    | with_reducible apply kl_f_X2_plantLeaf
    | with_reducible apply hrec111
    | intro _ _ _
theorem kl_f_X2_plantLifted_L111 {s0 : S5} : ∀ (n : Nat) v0 v1 v2 v3 (σ : S5), KL s0 σ → Kd (KL s0) (f_X2_plantLifted_L111 n v0 v1 v2 v3 σ)
  | 0, _, _, _, _, _, _ => kd_none
  | n + 1, v0, v1, v2, v3, σ, h => by
    unfold f_X2_plantLifted_L111
    exact kl_f_X2_plantLifted_B111 _ (kl_f_X2_plantLifted_L111 n) v0 v1 v2 v3 σ h
theorem kl_f_X2_plantLifted {s0 : S5} (a1 : Int32) (a2 : Int32) (σ : S5) (h : KL s0 σ) : Kd (KL s0) (f_X2_plantLifted a1 a2 σ) := by
  unfold f_X2_plantLifted
  repeat' first
    | assumption
    | with_reducible exact kd_none
    | with_reducible apply kd_some
    | with_reducible apply kd_ite
    | with_reducible apply kd_gd
    | with_reducible apply kd_bd
    | with_reducible apply KL_pA _ _ _ _ (by decide)
    | with_reducible apply kl_f_X9_change
    | with_reducible apply kl_f_X2_plantLeaf
    | with_reducible apply kl_f_X2_plantLifted_L111
    | intro _ _ _
theorem kl_f_X2_plantNode {s0 : S5} (a1 : Int32) (σ : S5) (h : KL s0 σ) : Kd (KL s0) (f_X2_plantNode a1 σ) := by
  unfold f_X2_plantNode
  repeat' first
    | assumption
    | with_reducible exact kd_none
    | with_reducible apply kd_some
    | with_reducible apply kd_ite
    | with_reducible apply kd_gd
    | with_reducible apply kd_bd
    | with_reducible apply KL_pA _ _ _ _ (by decide)
    | with_reducible apply kl_f_X2_plantLifted
    | intro _ _ _
theorem kl_f_X2_plantNodes_b89 {s0 : S5} (rec10 : Int32 → Int32 → S5 → Option (Unit × S5)) (hrec10 : ∀ v0 v1 (σ : S5), KL s0 σ → Kd (KL s0) (rec10 v0 v1 σ)) (v1 : Int32) (v2 : Int32) (σ : S5) (h : KL s0 σ) : Kd (KL s0) (f_X2_plantNodes_b89 rec10 v1 v2 σ) := by
  unfold f_X2_plantNodes_b89
  repeat' first
    | assumption
    | with_reducible exact kd_none
    | with_reducible apply kd_some
    | with_reducible apply kd_ite
    | with_reducible apply kd_bd
    | with_reducible apply hrec10
    | intro _ _ _
theorem kl_f_X2_plantNodes_b86 {s0 : S5} (rec10 : Int32 → Int32 → S5 → Option (Unit × S5)) (hrec10 : ∀ v0 v1 (σ : S5), KL s0 σ → Kd (KL s0) (rec10 v0 v1 σ)) (v1 : Int32) (v2 : Int32) (u0 : Int32) (u1 : Int32) (σ : S5) (h : KL s0 σ) : Kd (KL s0) (f_X2_plantNodes_b86 rec10 v1 v2 u0 u1 σ) := by
  unfold f_X2_plantNodes_b86
  repeat' first
    | assumption
    | with_reducible exact kd_none
    | with_reducible apply kd_some
    | with_reducible apply kd_ite
    | with_reducible apply kd_bd
    | with_reducible apply kl_f_X9_measure
    | with_reducible apply kl_f_X2_plantNodes_b89
    | with_reducible apply hrec10
    | intro _ _ _
theorem kl_f_X2_plantNodes_B10 {s0 : S5} (rec10 : Int32 → Int32 → S5 → Option (Unit × S5)) (hrec10 : ∀ v0 v1 (σ : S5), KL s0 σ → Kd (KL s0) (rec10 v0 v1 σ)) (v1 : Int32) (v2 : Int32) (σ : S5) (h : KL s0 σ) : Kd (KL s0) (f_X2_plantNodes_B10 rec10 v1 v2 σ) := by
  unfold f_X2_plantNodes_B10
  repeat' first
    | assumption
    | with_reducible exact kd_none
    | with_reducible apply kd_some
    | with_reducible apply kd_ite
    | with_reducible apply kd_gd
    | with_reducible apply kd_bd
    | with_reducible apply kl_f_X9_measureLeaf
    | with_reducible apply kl_f_X2_plantNode
    | with_reducible apply kl_f_X2_plantNodes_b89
    | with_reducible apply kl_f_X2_plantNodes_b86
    | with_reducible apply hrec10
    | intro _ _ _
theorem kl_f_X2_plantNodes_L10 {s0 : S5} : ∀ (n : Nat) v0 v1 (σ : S5), KL s0 σ → Kd (KL s0) (f_X2_plantNodes_L10 n v0 v1 σ)
  | 0, _, _, _, _ => kd_none
  | n + 1, v0, v1, σ, h => by
    unfold f_X2_plantNodes_L10
    exact kl_f_X2_plantNodes_B10 _ (kl_f_X2_plantNodes_L10 n) v0 v1 σ h
theorem kl_f_X2_plantNodes {s0 : S5}  (σ : S5) (h : KL s0 σ) : Kd (KL s0) (f_X2_plantNodes  σ) := by
  unfold f_X2_plantNodes
  repeat' first
    | assumption
    | with_reducible exact kd_none
    | with_reducible apply kd_some
    | with_reducible apply kd_ite
    | with_reducible apply kd_bd
    | with_reducible apply kl_f_X2_plantNodes_L10
    | intro _ _ _
theorem kl_f_X2_keepMeasures_b116 {s0 : S5} (rec2 : Int32 → S5 → Option (Unit × S5)) (hrec2 : ∀ v0 (σ : S5), KL s0 σ → Kd (KL s0) (rec2 v0 σ)) (v1 : Int32) (σ : S5) (h : KL s0 σ) : Kd (KL s0) (f_X2_keepMeasures_b116 rec2 v1 σ) := by
  unfold f_X2_keepMeasures_b116
  repeat' first
    | assumption
    | with_reducible exact kd_none
    | with_reducible apply kd_some
    | with_reducible apply kd_ite
    | with_reducible apply kd_bd
    | with_reducible apply hrec2
    | intro _ _ _
theorem kl_f_X2_keepMeasures_b93 {s0 : S5} (rec2 : Int32 → S5 → Option (Unit × S5)) (hrec2 : ∀ v0 (σ : S5), KL s0 σ → Kd (KL s0) (rec2 v0 σ)) (v1 : Int32) (σ : S5) (h : KL s0 σ) : Kd (KL s0) (f_X2_keepMeasures_b93 rec2 v1 σ) := by
  unfold f_X2_keepMeasures_b93
  repeat' first
    | assumption
    | with_reducible exact kd_none
    | with_reducible apply kd_some
    | with_reducible apply kd_ite
    | with_reducible apply kd_gd
    | with_reducible apply kd_bd
    | with_reducible apply kl_f_X2_refuse
    | with_reducible apply kl_f_X2_keepMeasures_b116
    | with_reducible apply hrec2
    | intro _ _ _
theorem kl_f_X2_keepMeasures_B2 {s0 : S5} (rec2 : Int32 → S5 → Option (Unit × S5)) (hrec2 : ∀ v0 (σ : S5), KL s0 σ → Kd (KL s0) (rec2 v0 σ)) (v1 : Int32) (σ : S5) (h : KL s0 σ) : Kd (KL s0) (f_X2_keepMeasures_B2 rec2 v1 σ) := by
  unfold f_X2_keepMeasures_B2
  repeat' first
    | assumption
    | with_reducible exact kd_none
    | with_reducible apply kd_some
    | with_reducible apply kd_ite
    | with_reducible apply kd_gd
    | with_reducible apply kd_bd
    | with_reducible apply KL_pA _ _ _ _ (by decide)
    | with_reducible apply kl_f_X2_keepMeasures_b116
    | with_reducible apply kl_f_X2_keepMeasures_b93
    | with_reducible apply hrec2
    | intro _ _ _
theorem kl_f_X2_keepMeasures_L2 {s0 : S5} : ∀ (n : Nat) v0 (σ : S5), KL s0 σ → Kd (KL s0) (f_X2_keepMeasures_L2 n v0 σ)
  | 0, _, _, _ => kd_none
  | n + 1, v0, σ, h => by
    unfold f_X2_keepMeasures_L2
    exact kl_f_X2_keepMeasures_B2 _ (kl_f_X2_keepMeasures_L2 n) v0 σ h
theorem kl_f_X2_keepMeasures {s0 : S5}  (σ : S5) (h : KL s0 σ) : Kd (KL s0) (f_X2_keepMeasures  σ) := by
  unfold f_X2_keepMeasures
  repeat' first
    | assumption
    | with_reducible exact kd_none
    | with_reducible apply kd_some
    | with_reducible apply kd_ite
    | with_reducible apply kd_bd
    | with_reducible apply kl_f_X2_keepMeasures_L2
    | intro _ _ _
theorem kl_f_X2_lift_b44 {s0 : S5}  (σ : S5) (h : KL s0 σ) : Kd (KL s0) (f_X2_lift_b44  σ) := by
  unfold f_X2_lift_b44
  repeat' first
    | assumption
    | with_reducible exact kd_none
    | with_reducible apply kd_some
    | with_reducible apply kd_ite
    | with_reducible apply kd_bd
    | with_reducible apply kl_f_X2_numberVariables
    | with_reducible apply kl_f_X2_plantUses
    | with_reducible apply kl_f_X2_plantNodes
    | with_reducible apply kl_f_X2_keepMeasures
    | intro _ _ _
theorem kl_f_X2_lift_b33 {s0 : S5}  (σ : S5) (h : KL s0 σ) : Kd (KL s0) (f_X2_lift_b33  σ) := by
  unfold f_X2_lift_b33
  repeat' first
    | assumption
    | with_reducible exact kd_none
    | with_reducible apply kd_some
    | with_reducible apply kd_ite
    | with_reducible apply kd_bd
    | with_reducible apply kl_f_X2_findMain
    | with_reducible apply kl_f_X2_lift_b44
    | intro _ _ _
theorem kl_f_X2_lift {s0 : S5}  (σ : S5) (h : KL s0 σ) : Kd (KL s0) (f_X2_lift  σ) := by
  unfold f_X2_lift
  repeat' first
    | assumption
    | with_reducible exact kd_none
    | with_reducible apply kd_some
    | with_reducible apply kd_ite
    | with_reducible apply kd_bd
    | with_reducible apply KL_pI _ _ _ (by decide)
    | with_reducible apply kl_f_X2_findFree
    | with_reducible apply kl_f_X2_numberFunctions
    | with_reducible apply kl_f_X2_resolveUses
    | with_reducible apply kl_f_X2_refuseManyParameters
    | with_reducible apply kl_f_X2_lift_b33
    | intro _ _ _
/-- what lifting never writes, the other -/
def KM (σ τ : S5) : Prop := (∀ j, (j < 7 ∨ (9 ≤ j ∧ j ≤ 21) ∨ 29 ≤ j) → gI τ j = gI σ j) ∧ (∀ j, gJ τ j = gJ σ j) ∧ (∀ j, (j < 7 ∨ (9 ≤ j ∧ j ≤ 10) ∨ (13 ≤ j ∧ j ≤ 18) ∨ 49 ≤ j) → gA τ j = gA σ j) ∧ (∀ j, (j < 4 ∨ 6 ≤ j) → gB τ j = gB σ j) ∧ τ.2.2.2.2 = σ.2.2.2.2
theorem KM.rf (σ : S5) : KM σ σ := ⟨fun _ _ => rfl, fun _ => rfl, fun _ _ => rfl, fun _ _ => rfl, rfl⟩
theorem KM_pI {s0 : S5} (σ : S5) (k : Nat) (v : Int32) (hk : ¬ ((k < 7 ∨ (9 ≤ k ∧ k ≤ 21) ∨ 29 ≤ k))) (h : KM s0 σ) : KM s0 (pI σ k v) := ⟨fun j hj => by rw [gI_pI, if_neg (fun e => hk (by rw [← e]; exact hj))]; exact h.1 j hj, h.2.1, h.2.2.1, h.2.2.2.1, h.2.2.2.2⟩
theorem KM_pA {s0 : S5} (σ : S5) (k : Nat) (i v : Int32) (hk : ¬ ((k < 7 ∨ (9 ≤ k ∧ k ≤ 10) ∨ (13 ≤ k ∧ k ≤ 18) ∨ 49 ≤ k))) (h : KM s0 σ) : KM s0 (pA σ k i v) := ⟨h.1, h.2.1, fun j hj => (gA_pA_ne (fun e => hk (by rw [← e]; exact hj))).trans (h.2.2.1 j hj), h.2.2.2.1, h.2.2.2.2⟩
theorem KM_pB {s0 : S5} (σ : S5) (k : Nat) (i : Int32) (v : Int64) (hk : ¬ ((k < 4 ∨ 6 ≤ k))) (h : KM s0 σ) : KM s0 (pB σ k i v) := ⟨h.1, h.2.1, h.2.2.1, fun j hj => (gB_pB_ne (fun e => hk (by rw [← e]; exact hj))).trans (h.2.2.2.1 j hj), h.2.2.2.2⟩
theorem km_f_X12_pack_b59 {s0 : S5} (v4 : Int32) (u0 : Int64) (σ : S5) (h : KM s0 σ) : Kd (KM s0) (f_X12_pack_b59 v4 u0 σ) := by
  unfold f_X12_pack_b59
  repeat' first
    | assumption
    | with_reducible exact kd_none
    | with_reducible apply kd_some
    | with_reducible apply kd_ite
    | with_reducible apply kd_bd
    | intro _ _ _
theorem km_f_X12_pack_b40 {s0 : S5} (v3 : Int32) (v4 : Int32) (u0 : Int64) (σ : S5) (h : KM s0 σ) : Kd (KM s0) (f_X12_pack_b40 v3 v4 u0 σ) := by
  unfold f_X12_pack_b40
  repeat' first
    | assumption
    | with_reducible exact kd_none
    | with_reducible apply kd_some
    | with_reducible apply kd_ite
    | with_reducible apply kd_bd
    | with_reducible apply km_f_X12_pack_b59
    | intro _ _ _
theorem km_f_X12_pack_b21 {s0 : S5} (v2 : Int32) (v3 : Int32) (v4 : Int32) (u0 : Int64) (σ : S5) (h : KM s0 σ) : Kd (KM s0) (f_X12_pack_b21 v2 v3 v4 u0 σ) := by
  unfold f_X12_pack_b21
  repeat' first
    | assumption
    | with_reducible exact kd_none
    | with_reducible apply kd_some
    | with_reducible apply kd_ite
    | with_reducible apply kd_bd
    | with_reducible apply km_f_X12_pack_b40
    | intro _ _ _
theorem km_f_X12_pack {s0 : S5} (a0 : Int32) (a1 : Int32) (a2 : Int32) (a3 : Int32) (a4 : Int32) (σ : S5) (h : KM s0 σ) : Kd (KM s0) (f_X12_pack a0 a1 a2 a3 a4 σ) := by
  unfold f_X12_pack
  repeat' first
    | assumption
    | with_reducible exact kd_none
    | with_reducible apply kd_some
    | with_reducible apply kd_ite
    | with_reducible apply kd_bd
    | with_reducible apply km_f_X12_pack_b21
    | intro _ _ _
theorem km_f_X12_fail {s0 : S5} (a1 : Int32) (a2 : Int32) (σ : S5) (h : KM s0 σ) : Kd (KM s0) (f_X12_fail a1 a2 σ) := by
  unfold f_X12_fail
  repeat' first
    | assumption
    | with_reducible exact kd_none
    | with_reducible apply kd_some
    | with_reducible apply kd_ite
    | with_reducible apply kd_bd
    | with_reducible apply KM_pI _ _ _ (by decide)
    | intro _ _ _
theorem km_f_X12_newVariable {s0 : S5} (a1 : Int64) (σ : S5) (h : KM s0 σ) : Kd (KM s0) (f_X12_newVariable a1 σ) := by
  unfold f_X12_newVariable
  repeat' first
    | assumption
    | with_reducible exact kd_none
    | with_reducible apply kd_some
    | with_reducible apply kd_ite
    | with_reducible apply kd_gd
    | with_reducible apply kd_bd
    | with_reducible apply KM_pI _ _ _ (by decide)
    | with_reducible apply KM_pA _ _ _ _ (by decide)
    | with_reducible apply KM_pB _ _ _ _ (by decide)
    | intro _ _ _
theorem km_f_X12_giveNames_B12 {s0 : S5} (rec12 : Int32 → Int32 → S5 → Option (Unit × S5)) (hrec12 : ∀ v0 v1 (σ : S5), KM s0 σ → Kd (KM s0) (rec12 v0 v1 σ)) (v1 : Int32) (v2 : Int32) (σ : S5) (h : KM s0 σ) : Kd (KM s0) (f_X12_giveNames_B12 rec12 v1 v2 σ) := by
  unfold f_X12_giveNames_B12
  repeat' first
    | assumption
    | with_reducible exact kd_none
    | with_reducible apply kd_some
    | with_reducible apply kd_ite
    | with_reducible apply kd_gd
    | with_reducible apply kd_bd
    | with_reducible apply km_f_X12_newVariable
    | with_reducible apply hrec12
    | intro _ _ _
theorem km_f_X12_giveNames_L12 {s0 : S5} : ∀ (n : Nat) v0 v1 (σ : S5), KM s0 σ → Kd (KM s0) (f_X12_giveNames_L12 n v0 v1 σ)
  | 0, _, _, _, _ => kd_none
  | n + 1, v0, v1, σ, h => by
    unfold f_X12_giveNames_L12
    exact km_f_X12_giveNames_B12 _ (km_f_X12_giveNames_L12 n) v0 v1 σ h
theorem km_f_X12_giveNames {s0 : S5} (a1 : Int32) (σ : S5) (h : KM s0 σ) : Kd (KM s0) (f_X12_giveNames a1 σ) := by
  unfold f_X12_giveNames
  repeat' first
    | assumption
    | with_reducible exact kd_none
    | with_reducible apply kd_some
    | with_reducible apply kd_ite
    | with_reducible apply kd_gd
    | with_reducible apply kd_bd
    | with_reducible apply KM_pA _ _ _ _ (by decide)
    | with_reducible apply km_f_X12_giveNames_L12
    | intro _ _ _
theorem km_f_X12_numberAll_B107 {s0 : S5} (rec107 : Int32 → S5 → Option (Unit × S5)) (hrec107 : ∀ v0 (σ : S5), KM s0 σ → Kd (KM s0) (rec107 v0 σ)) (v1 : Int32) (σ : S5) (h : KM s0 σ) : Kd (KM s0) (f_X12_numberAll_B107 rec107 v1 σ) := by
  unfold f_X12_numberAll_B107
  repeat' first
    | assumption
    | with_reducible exact kd_none
    | with_reducible apply kd_some
    | with_reducible apply kd_ite
    | with_reducible apply kd_gd
    | with_reducible apply kd_bd
    | with_reducible apply KM_pA _ _ _ _ (by decide)
    | with_reducible apply hrec107
    | intro _ _ _
theorem km_f_X12_numberAll_L107 {s0 : S5} : ∀ (n : Nat) v0 (σ : S5), KM s0 σ → Kd (KM s0) (f_X12_numberAll_L107 n v0 σ)
  | 0, _, _, _ => kd_none
  | n + 1, v0, σ, h => by
    unfold f_X12_numberAll_L107
    exact km_f_X12_numberAll_B107 _ (km_f_X12_numberAll_L107 n) v0 σ h
theorem km_f_X12_numberAll_b99 {s0 : S5} (rec10 : Int32 → S5 → Option (Unit × S5)) (hrec10 : ∀ v0 (σ : S5), KM s0 σ → Kd (KM s0) (rec10 v0 σ)) (v1 : Int32) (σ : S5) (h : KM s0 σ) : Kd (KM s0) (f_X12_numberAll_b99 rec10 v1 σ) := by
  unfold f_X12_numberAll_b99
  repeat' first
    | assumption
    | with_reducible exact kd_none
    | with_reducible apply kd_some
    | with_reducible apply kd_ite
    | with_reducible apply kd_bd
    | with_reducible apply hrec10
    | intro _ _ _
theorem km_f_X12_numberAll_b54 {s0 : S5} (rec10 : Int32 → S5 → Option (Unit × S5)) (hrec10 : ∀ v0 (σ : S5), KM s0 σ → Kd (KM s0) (rec10 v0 σ)) (v1 : Int32) (σ : S5) (h : KM s0 σ) : Kd (KM s0) (f_X12_numberAll_b54 rec10 v1 σ) := by
  unfold f_X12_numberAll_b54
  repeat' first
    | assumption
    | with_reducible exact kd_none
    | with_reducible apply kd_some
    | with_reducible apply kd_ite
    | with_reducible apply kd_gd
    | with_reducible apply kd_bd
    | with_reducible apply KM_pI _ _ _ (by decide)
    | with_reducible apply KM_pA _ _ _ _ (by decide)
    | with_reducible apply km_f_X12_numberAll_b99
    | with_reducible apply hrec10
    | intro _ _ _
theorem km_f_X12_numberAll_B10 {s0 : S5} (rec10 : Int32 → S5 → Option (Unit × S5)) (hrec10 : ∀ v0 (σ : S5), KM s0 σ → Kd (KM s0) (rec10 v0 σ)) (v1 : Int32) (σ : S5) (h : KM s0 σ) : Kd (KM s0) (f_X12_numberAll_B10 rec10 v1 σ) := by
  unfold f_X12_numberAll_B10
  repeat' first
    | assumption
    | with_reducible exact kd_none
    | with_reducible apply kd_some
    | with_reducible apply kd_ite
    | with_reducible apply kd_gd
    | with_reducible apply kd_bd
    | with_reducible apply KM_pA _ _ _ _ (by decide)
    | with_reducible apply km_f_X12_numberAll_L107
    | with_reducible apply km_f_X12_numberAll_b99
    | with_reducible apply km_f_X12_numberAll_b54
    | with_reducible apply hrec10
    | intro _ _ _
theorem km_f_X12_numberAll_L10 {s0 : S5} : ∀ (n : Nat) v0 (σ : S5), KM s0 σ → Kd (KM s0) (f_X12_numberAll_L10 n v0 σ)
  | 0, _, _, _ => kd_none
  | n + 1, v0, σ, h => by
    unfold f_X12_numberAll_L10
    exact km_f_X12_numberAll_B10 _ (km_f_X12_numberAll_L10 n) v0 σ h
theorem km_f_X12_numberAll {s0 : S5}  (σ : S5) (h : KM s0 σ) : Kd (KM s0) (f_X12_numberAll  σ) := by
  unfold f_X12_numberAll
  repeat' first
    | assumption
    | with_reducible exact kd_none
    | with_reducible apply kd_some
    | with_reducible apply kd_ite
    | with_reducible apply kd_bd
    | with_reducible apply KM_pI _ _ _ (by decide)
    | with_reducible apply km_f_X12_numberAll_L10
    | intro _ _ _
theorem km_f_X12_addFree_b41 {s0 : S5} (rec5 : Int32 → Int32 → Int32 → Int32 → S5 → Option (Unit × S5)) (hrec5 : ∀ v0 v1 v2 v3 (σ : S5), KM s0 σ → Kd (KM s0) (rec5 v0 v1 v2 v3 σ)) (v1 : Int32) (v2 : Int32) (v4 : Int32) (u0 : Int32) (σ : S5) (h : KM s0 σ) : Kd (KM s0) (f_X12_addFree_b41 rec5 v1 v2 v4 u0 σ) := by
  unfold f_X12_addFree_b41
  repeat' first
    | assumption
    | with_reducible exact kd_none
    | with_reducible apply kd_some
    | with_reducible apply kd_ite
    | with_reducible apply kd_bd
    | with_reducible apply hrec5
    | intro _ _ _
theorem km_f_X12_addFree_b36 {s0 : S5} (rec5 : Int32 → Int32 → Int32 → Int32 → S5 → Option (Unit × S5)) (hrec5 : ∀ v0 v1 v2 v3 (σ : S5), KM s0 σ → Kd (KM s0) (rec5 v0 v1 v2 v3 σ)) (v1 : Int32) (v2 : Int32) (v4 : Int32) (σ : S5) (h : KM s0 σ) : Kd (KM s0) (f_X12_addFree_b36 rec5 v1 v2 v4 σ) := by
  unfold f_X12_addFree_b36
  repeat' first
    | assumption
    | with_reducible exact kd_none
    | with_reducible apply kd_some
    | with_reducible apply kd_ite
    | with_reducible apply kd_bd
    | with_reducible apply km_f_X12_addFree_b41
    | with_reducible apply hrec5
    | intro _ _ _
theorem km_f_X12_addFree_B5 {s0 : S5} (rec5 : Int32 → Int32 → Int32 → Int32 → S5 → Option (Unit × S5)) (hrec5 : ∀ v0 v1 v2 v3 (σ : S5), KM s0 σ → Kd (KM s0) (rec5 v0 v1 v2 v3 σ)) (v1 : Int32) (v2 : Int32) (v3 : Int32) (v4 : Int32) (σ : S5) (h : KM s0 σ) : Kd (KM s0) (f_X12_addFree_B5 rec5 v1 v2 v3 v4 σ) := by
  unfold f_X12_addFree_B5
  repeat' first
    | assumption
    | with_reducible exact kd_none
    | with_reducible apply kd_some
    | with_reducible apply kd_ite
    | with_reducible apply kd_gd
    | with_reducible apply kd_bd
    | with_reducible apply KM_pA _ _ _ _ (by decide)
    | with_reducible apply km_f_X12_addFree_b41
    | with_reducible apply km_f_X12_addFree_b36
    | with_reducible apply hrec5
    | intro _ _ _
theorem km_f_X12_addFree_L5 {s0 : S5} : ∀ (n : Nat) v0 v1 v2 v3 (σ : S5), KM s0 σ → Kd (KM s0) (f_X12_addFree_L5 n v0 v1 v2 v3 σ)
  | 0, _, _, _, _, _, _ => kd_none
  | n + 1, v0, v1, v2, v3, σ, h => by
    unfold f_X12_addFree_L5
    exact km_f_X12_addFree_B5 _ (km_f_X12_addFree_L5 n) v0 v1 v2 v3 σ h
theorem km_f_X12_addFree {s0 : S5} (a1 : Int32) (a2 : Int32) (σ : S5) (h : KM s0 σ) : Kd (KM s0) (f_X12_addFree a1 a2 σ) := by
  unfold f_X12_addFree
  repeat' first
    | assumption
    | with_reducible exact kd_none
    | with_reducible apply kd_some
    | with_reducible apply kd_ite
    | with_reducible apply kd_bd
    | with_reducible apply km_f_X12_addFree_L5
    | intro _ _ _
theorem km_f_X12_use_b133 {s0 : S5} (v1 : Int32) (v3 : Int32) (σ : S5) (h : KM s0 σ) : Kd (KM s0) (f_X12_use_b133 v1 v3 σ) := by
  unfold f_X12_use_b133
  repeat' first
    | assumption
    | with_reducible exact kd_none
    | with_reducible apply kd_some
    | with_reducible apply kd_ite
    | with_reducible apply kd_gd
    | with_reducible apply kd_bd
    | with_reducible apply KM_pA _ _ _ _ (by decide)
    | with_reducible apply km_f_X12_fail
    | intro _ _ _
theorem km_f_X12_use_B103 {s0 : S5} (rec103 : Int32 → Int32 → S5 → Option (Unit × S5)) (hrec103 : ∀ v0 v1 (σ : S5), KM s0 σ → Kd (KM s0) (rec103 v0 v1 σ)) (v1 : Int32) (v3 : Int32) (σ : S5) (h : KM s0 σ) : Kd (KM s0) (f_X12_use_B103 rec103 v1 v3 σ) := by
  unfold f_X12_use_B103
  repeat' first
    | assumption
    | with_reducible exact kd_none
    | with_reducible apply kd_some
    | with_reducible apply kd_ite
    | with_reducible apply kd_gd
    | with_reducible apply kd_bd
    | with_reducible apply km_f_X12_use_b133
    | with_reducible apply hrec103
    | intro _ _ _
theorem km_f_X12_use_L103 {s0 : S5} : ∀ (n : Nat) v0 v1 (σ : S5), KM s0 σ → Kd (KM s0) (f_X12_use_L103 n v0 v1 σ)
  | 0, _, _, _, _ => kd_none
  | n + 1, v0, v1, σ, h => by
    unfold f_X12_use_L103
    exact km_f_X12_use_B103 _ (km_f_X12_use_L103 n) v0 v1 σ h
theorem km_f_X12_use_B66 {s0 : S5} (rec66 : Int32 → Int32 → S5 → Option (Unit × S5)) (hrec66 : ∀ v0 v1 (σ : S5), KM s0 σ → Kd (KM s0) (rec66 v0 v1 σ)) (v3 : Int32) (v4 : Int32) (σ : S5) (h : KM s0 σ) : Kd (KM s0) (f_X12_use_B66 rec66 v3 v4 σ) := by
  unfold f_X12_use_B66
  repeat' first
    | assumption
    | with_reducible exact kd_none
    | with_reducible apply kd_some
    | with_reducible apply kd_ite
    | with_reducible apply kd_gd
    | with_reducible apply kd_bd
    | with_reducible apply km_f_X12_addFree
    | with_reducible apply hrec66
    | intro _ _ _
theorem km_f_X12_use_L66 {s0 : S5} : ∀ (n : Nat) v0 v1 (σ : S5), KM s0 σ → Kd (KM s0) (f_X12_use_L66 n v0 v1 σ)
  | 0, _, _, _, _ => kd_none
  | n + 1, v0, v1, σ, h => by
    unfold f_X12_use_L66
    exact km_f_X12_use_B66 _ (km_f_X12_use_L66 n) v0 v1 σ h
theorem km_f_X12_use_b33 {s0 : S5} (v1 : Int32) (v2 : Int32) (σ : S5) (h : KM s0 σ) : Kd (KM s0) (f_X12_use_b33 v1 v2 σ) := by
  unfold f_X12_use_b33
  repeat' first
    | assumption
    | with_reducible exact kd_none
    | with_reducible apply kd_some
    | with_reducible apply kd_ite
    | with_reducible apply kd_gd
    | with_reducible apply kd_bd
    | with_reducible apply KM_pA _ _ _ _ (by decide)
    | with_reducible apply km_f_X12_use_L103
    | with_reducible apply km_f_X12_use_L66
    | intro _ _ _
theorem km_f_X12_use_B7 {s0 : S5} (rec7 : Int32 → Int32 → S5 → Option (Unit × S5)) (hrec7 : ∀ v0 v1 (σ : S5), KM s0 σ → Kd (KM s0) (rec7 v0 v1 σ)) (v1 : Int32) (v2 : Int32) (σ : S5) (h : KM s0 σ) : Kd (KM s0) (f_X12_use_B7 rec7 v1 v2 σ) := by
  unfold f_X12_use_B7
  repeat' first
    | assumption
    | with_reducible exact kd_none
    | with_reducible apply kd_some
    | with_reducible apply kd_ite
    | with_reducible apply kd_gd
    | with_reducible apply kd_bd
    | with_reducible apply km_f_X12_use_b33
    | with_reducible apply hrec7
    | intro _ _ _
theorem km_f_X12_use_L7 {s0 : S5} : ∀ (n : Nat) v0 v1 (σ : S5), KM s0 σ → Kd (KM s0) (f_X12_use_L7 n v0 v1 σ)
  | 0, _, _, _, _ => kd_none
  | n + 1, v0, v1, σ, h => by
    unfold f_X12_use_L7
    exact km_f_X12_use_B7 _ (km_f_X12_use_L7 n) v0 v1 σ h
theorem km_f_X12_use {s0 : S5} (a1 : Int32) (σ : S5) (h : KM s0 σ) : Kd (KM s0) (f_X12_use a1 σ) := by
  unfold f_X12_use
  repeat' first
    | assumption
    | with_reducible exact kd_none
    | with_reducible apply kd_some
    | with_reducible apply kd_ite
    | with_reducible apply kd_bd
    | with_reducible apply km_f_X12_use_L7
    | intro _ _ _
theorem km_f_X12_comeInto_B60 {s0 : S5} (rec60 : Int32 → S5 → Option (Unit × S5)) (hrec60 : ∀ v0 (σ : S5), KM s0 σ → Kd (KM s0) (rec60 v0 σ)) (v2 : Int32) (σ : S5) (h : KM s0 σ) : Kd (KM s0) (f_X12_comeInto_B60 rec60 v2 σ) := by
  unfold f_X12_comeInto_B60
  repeat' first
    | assumption
    | with_reducible exact kd_none
    | with_reducible apply kd_some
    | with_reducible apply kd_ite
    | with_reducible apply kd_gd
    | with_reducible apply kd_bd
    | with_reducible apply km_f_X12_newVariable
    | with_reducible apply hrec60
    | intro _ _ _
theorem km_f_X12_comeInto_L60 {s0 : S5} : ∀ (n : Nat) v0 (σ : S5), KM s0 σ → Kd (KM s0) (f_X12_comeInto_L60 n v0 σ)
  | 0, _, _, _ => kd_none
  | n + 1, v0, σ, h => by
    unfold f_X12_comeInto_L60
    exact km_f_X12_comeInto_B60 _ (km_f_X12_comeInto_L60 n) v0 σ h
theorem km_f_X12_comeInto_b34 {s0 : S5} (v1 : Int32) (σ : S5) (h : KM s0 σ) : Kd (KM s0) (f_X12_comeInto_b34 v1 σ) := by
  unfold f_X12_comeInto_b34
  repeat' first
    | assumption
    | with_reducible exact kd_none
    | with_reducible apply kd_some
    | with_reducible apply kd_ite
    | with_reducible apply kd_gd
    | with_reducible apply kd_bd
    | with_reducible apply KM_pA _ _ _ _ (by decide)
    | with_reducible apply km_f_X12_giveNames
    | with_reducible apply km_f_X12_use
    | with_reducible apply km_f_X12_comeInto_L60
    | intro _ _ _
theorem km_f_X12_comeInto {s0 : S5} (a1 : Int32) (σ : S5) (h : KM s0 σ) : Kd (KM s0) (f_X12_comeInto a1 σ) := by
  unfold f_X12_comeInto
  repeat' first
    | assumption
    | with_reducible exact kd_none
    | with_reducible apply kd_some
    | with_reducible apply kd_ite
    | with_reducible apply kd_gd
    | with_reducible apply kd_bd
    | with_reducible apply KM_pI _ _ _ (by decide)
    | with_reducible apply KM_pA _ _ _ _ (by decide)
    | with_reducible apply km_f_X12_comeInto_b34
    | intro _ _ _
theorem km_f_X12_goOutOf_B35 {s0 : S5} (rec35 : Int32 → S5 → Option (Unit × S5)) (hrec35 : ∀ v0 (σ : S5), KM s0 σ → Kd (KM s0) (rec35 v0 σ)) (v2 : Int32) (σ : S5) (h : KM s0 σ) : Kd (KM s0) (f_X12_goOutOf_B35 rec35 v2 σ) := by
  unfold f_X12_goOutOf_B35
  repeat' first
    | assumption
    | with_reducible exact kd_none
    | with_reducible apply kd_some
    | with_reducible apply kd_ite
    | with_reducible apply kd_gd
    | with_reducible apply kd_bd
    | with_reducible apply KM_pI _ _ _ (by decide)
    | with_reducible apply hrec35
    | intro _ _ _
theorem km_f_X12_goOutOf_L35 {s0 : S5} : ∀ (n : Nat) v0 (σ : S5), KM s0 σ → Kd (KM s0) (f_X12_goOutOf_L35 n v0 σ)
  | 0, _, _, _ => kd_none
  | n + 1, v0, σ, h => by
    unfold f_X12_goOutOf_L35
    exact km_f_X12_goOutOf_B35 _ (km_f_X12_goOutOf_L35 n) v0 σ h
theorem km_f_X12_goOutOf_b19 {s0 : S5} (v1 : Int32) (σ : S5) (h : KM s0 σ) : Kd (KM s0) (f_X12_goOutOf_b19 v1 σ) := by
  unfold f_X12_goOutOf_b19
  repeat' first
    | assumption
    | with_reducible exact kd_none
    | with_reducible apply kd_some
    | with_reducible apply kd_ite
    | with_reducible apply kd_gd
    | with_reducible apply kd_bd
    | with_reducible apply KM_pI _ _ _ (by decide)
    | with_reducible apply km_f_X12_goOutOf_L35
    | intro _ _ _
theorem km_f_X12_goOutOf {s0 : S5} (a1 : Int32) (σ : S5) (h : KM s0 σ) : Kd (KM s0) (f_X12_goOutOf a1 σ) := by
  unfold f_X12_goOutOf
  repeat' first
    | assumption
    | with_reducible exact kd_none
    | with_reducible apply kd_some
    | with_reducible apply kd_ite
    | with_reducible apply kd_gd
    | with_reducible apply kd_bd
    | with_reducible apply KM_pI _ _ _ (by decide)
    | with_reducible apply km_f_X12_goOutOf_b19
    | intro _ _ _
theorem km_f_X12_childAt_b193 {s0 : S5} (v3 : Int32) (σ : S5) (h : KM s0 σ) : Kd (KM s0) (f_X12_childAt_b193 v3 σ) := by
  unfold f_X12_childAt_b193
  repeat' first
    | assumption
    | with_reducible exact kd_none
    | with_reducible apply kd_some
    | with_reducible apply kd_ite
    | with_reducible apply kd_bd
    | intro _ _ _
theorem km_f_X12_childAt_b109 {s0 : S5} (v1 : Int32) (v3 : Int32) (u0 : Int32) (σ : S5) (h : KM s0 σ) : Kd (KM s0) (f_X12_childAt_b109 v1 v3 u0 σ) := by
  unfold f_X12_childAt_b109
  repeat' first
    | assumption
    | with_reducible exact kd_none
    | with_reducible apply kd_some
    | with_reducible apply kd_ite
    | with_reducible apply kd_gd
    | with_reducible apply kd_bd
    | intro _ _ _
theorem km_f_X12_childAt_b108 {s0 : S5} (v1 : Int32) (v3 : Int32) (σ : S5) (h : KM s0 σ) : Kd (KM s0) (f_X12_childAt_b108 v1 v3 σ) := by
  unfold f_X12_childAt_b108
  repeat' first
    | assumption
    | with_reducible exact kd_none
    | with_reducible apply kd_some
    | with_reducible apply kd_ite
    | with_reducible apply kd_bd
    | with_reducible apply km_f_X12_childAt_b109
    | intro _ _ _
theorem km_f_X12_childAt {s0 : S5} (a1 : Int32) (a2 : Int32) (a3 : Int32) (σ : S5) (h : KM s0 σ) : Kd (KM s0) (f_X12_childAt a1 a2 a3 σ) := by
  unfold f_X12_childAt
  repeat' first
    | assumption
    | with_reducible exact kd_none
    | with_reducible apply kd_some
    | with_reducible apply kd_ite
    | with_reducible apply kd_gd
    | with_reducible apply kd_bd
    | with_reducible apply km_f_X12_childAt_b193
    | with_reducible apply km_f_X12_childAt_b109
    | with_reducible apply km_f_X12_childAt_b108
    | intro _ _ _
theorem km_f_X12_hasRow_b21 {s0 : S5}  (σ : S5) (h : KM s0 σ) : Kd (KM s0) (f_X12_hasRow_b21  σ) := by
  unfold f_X12_hasRow_b21
  repeat' first
    | assumption
    | with_reducible exact kd_none
    | with_reducible apply kd_some
    | with_reducible apply kd_ite
    | with_reducible apply kd_bd
    | intro _ _ _
theorem km_f_X12_hasRow {s0 : S5} (a0 : Int32) (σ : S5) (h : KM s0 σ) : Kd (KM s0) (f_X12_hasRow a0 σ) := by
  unfold f_X12_hasRow
  repeat' first
    | assumption
    | with_reducible exact kd_none
    | with_reducible apply kd_some
    | with_reducible apply kd_ite
    | with_reducible apply kd_bd
    | with_reducible apply km_f_X12_hasRow_b21
    | intro _ _ _
theorem km_f_X12_nextChild_b102 {s0 : S5} (v1 : Int32) (v2 : Int32) (v4 : Int32) (v5 : Int32) (v6 : Int32) (u0 : Int32) (u1 : Int32) (σ : S5) (h : KM s0 σ) : Kd (KM s0) (f_X12_nextChild_b102 v1 v2 v4 v5 v6 u0 u1 σ) := by
  unfold f_X12_nextChild_b102
  repeat' first
    | assumption
    | with_reducible exact kd_none
    | with_reducible apply kd_some
    | with_reducible apply kd_ite
    | with_reducible apply kd_gd
    | with_reducible apply kd_bd
    | with_reducible apply KM_pA _ _ _ _ (by decide)
    | with_reducible apply km_f_X12_hasRow
    | intro _ _ _
theorem km_f_X12_nextChild_b99 {s0 : S5} (v1 : Int32) (v2 : Int32) (v3 : Int32) (v4 : Int32) (v5 : Int32) (v6 : Int32) (u0 : Int32) (σ : S5) (h : KM s0 σ) : Kd (KM s0) (f_X12_nextChild_b99 v1 v2 v3 v4 v5 v6 u0 σ) := by
  unfold f_X12_nextChild_b99
  repeat' first
    | assumption
    | with_reducible exact kd_none
    | with_reducible apply kd_some
    | with_reducible apply kd_ite
    | with_reducible apply kd_bd
    | with_reducible apply km_f_X12_nextChild_b102
    | intro _ _ _
theorem km_f_X12_nextChild_b73 {s0 : S5} (v1 : Int32) (v2 : Int32) (v3 : Int32) (v4 : Int32) (v5 : Int32) (u0 : Int32) (σ : S5) (h : KM s0 σ) : Kd (KM s0) (f_X12_nextChild_b73 v1 v2 v3 v4 v5 u0 σ) := by
  unfold f_X12_nextChild_b73
  repeat' first
    | assumption
    | with_reducible exact kd_none
    | with_reducible apply kd_some
    | with_reducible apply kd_ite
    | with_reducible apply kd_gd
    | with_reducible apply kd_bd
    | with_reducible apply km_f_X12_nextChild_b102
    | with_reducible apply km_f_X12_nextChild_b99
    | intro _ _ _
theorem km_f_X12_nextChild_b72 {s0 : S5} (v1 : Int32) (v2 : Int32) (v3 : Int32) (v4 : Int32) (v5 : Int32) (σ : S5) (h : KM s0 σ) : Kd (KM s0) (f_X12_nextChild_b72 v1 v2 v3 v4 v5 σ) := by
  unfold f_X12_nextChild_b72
  repeat' first
    | assumption
    | with_reducible exact kd_none
    | with_reducible apply kd_some
    | with_reducible apply kd_ite
    | with_reducible apply kd_bd
    | with_reducible apply km_f_X12_nextChild_b73
    | intro _ _ _
theorem km_f_X12_nextChild {s0 : S5} (a1 : Int32) (σ : S5) (h : KM s0 σ) : Kd (KM s0) (f_X12_nextChild a1 σ) := by
  unfold f_X12_nextChild
  repeat' first
    | assumption
    | with_reducible exact kd_none
    | with_reducible apply kd_some
    | with_reducible apply kd_ite
    | with_reducible apply kd_gd
    | with_reducible apply kd_bd
    | with_reducible apply km_f_X12_childAt
    | with_reducible apply km_f_X12_nextChild_b73
    | with_reducible apply km_f_X12_nextChild_b72
    | intro _ _ _
theorem km_f_X12_beginAt_b41 {s0 : S5} (u0 : Int32) (u1 : Int32) (σ : S5) (h : KM s0 σ) : Kd (KM s0) (f_X12_beginAt_b41 u0 u1 σ) := by
  unfold f_X12_beginAt_b41
  repeat' first
    | assumption
    | with_reducible exact kd_none
    | with_reducible apply kd_some
    | with_reducible apply kd_ite
    | with_reducible apply kd_gd
    | with_reducible apply kd_bd
    | with_reducible apply KM_pA _ _ _ _ (by decide)
    | intro _ _ _
theorem km_f_X12_beginAt {s0 : S5} (a1 : Int32) (a2 : Int32) (σ : S5) (h : KM s0 σ) : Kd (KM s0) (f_X12_beginAt a1 a2 σ) := by
  unfold f_X12_beginAt
  repeat' first
    | assumption
    | with_reducible exact kd_none
    | with_reducible apply kd_some
    | with_reducible apply kd_ite
    | with_reducible apply kd_gd
    | with_reducible apply kd_bd
    | with_reducible apply KM_pA _ _ _ _ (by decide)
    | with_reducible apply km_f_X12_hasRow
    | with_reducible apply km_f_X12_beginAt_b41
    | intro _ _ _
theorem km_f_X12_find_b101 {s0 : S5} (rec12 : Int32 → S5 → Option (Unit × S5)) (hrec12 : ∀ v0 (σ : S5), KM s0 σ → Kd (KM s0) (rec12 v0 σ)) (rec55 : Int32 → Int32 → S5 → Option (Unit × S5)) (hrec55 : ∀ v0 v1 (σ : S5), KM s0 σ → Kd (KM s0) (rec55 v0 v1 σ)) (v1 : Int32) (v2 : Int32) (σ : S5) (h : KM s0 σ) : Kd (KM s0) (f_X12_find_b101 rec12 rec55 v1 v2 σ) := by
  unfold f_X12_find_b101
  repeat' first
    | assumption
    | with_reducible exact kd_none
    | with_reducible apply kd_some
    | with_reducible apply kd_ite
    | with_reducible apply kd_bd
    | with_reducible apply hrec12
    | with_reducible apply hrec55
    | intro _ _ _
theorem km_f_X12_find_B55 {s0 : S5} (rec12 : Int32 → S5 → Option (Unit × S5)) (hrec12 : ∀ v0 (σ : S5), KM s0 σ → Kd (KM s0) (rec12 v0 σ)) (rec55 : Int32 → Int32 → S5 → Option (Unit × S5)) (hrec55 : ∀ v0 v1 (σ : S5), KM s0 σ → Kd (KM s0) (rec55 v0 v1 σ)) (v1 : Int32) (v2 : Int32) (σ : S5) (h : KM s0 σ) : Kd (KM s0) (f_X12_find_B55 rec12 rec55 v1 v2 σ) := by
  unfold f_X12_find_B55
  repeat' first
    | assumption
    | with_reducible exact kd_none
    | with_reducible apply kd_some
    | with_reducible apply kd_ite
    | with_reducible apply kd_gd
    | with_reducible apply kd_bd
    | with_reducible apply km_f_X12_comeInto
    | with_reducible apply km_f_X12_goOutOf
    | with_reducible apply km_f_X12_nextChild
    | with_reducible apply km_f_X12_beginAt
    | with_reducible apply km_f_X12_find_b101
    | with_reducible apply hrec12
    | with_reducible apply hrec55
    | intro _ _ _
theorem km_f_X12_find_L55 {s0 : S5} (rec12 : Int32 → S5 → Option (Unit × S5)) (hrec12 : ∀ v0 (σ : S5), KM s0 σ → Kd (KM s0) (rec12 v0 σ)) : ∀ (n : Nat) v0 v1 (σ : S5), KM s0 σ → Kd (KM s0) (f_X12_find_L55 rec12 n v0 v1 σ)
  | 0, _, _, _, _ => kd_none
  | n + 1, v0, v1, σ, h => by
    unfold f_X12_find_L55
    exact km_f_X12_find_B55 rec12 hrec12 _ (km_f_X12_find_L55 rec12 hrec12 n) v0 v1 σ h
theorem km_f_X12_find_B12 {s0 : S5} (rec12 : Int32 → S5 → Option (Unit × S5)) (hrec12 : ∀ v0 (σ : S5), KM s0 σ → Kd (KM s0) (rec12 v0 σ)) (v1 : Int32) (σ : S5) (h : KM s0 σ) : Kd (KM s0) (f_X12_find_B12 rec12 v1 σ) := by
  unfold f_X12_find_B12
  repeat' first
    | assumption
    | with_reducible exact kd_none
    | with_reducible apply kd_some
    | with_reducible apply kd_ite
    | with_reducible apply kd_gd
    | with_reducible apply kd_bd
    | with_reducible apply KM_pI _ _ _ (by decide)
    | with_reducible apply KM_pA _ _ _ _ (by decide)
    | with_reducible apply km_f_X12_comeInto
    | with_reducible apply km_f_X12_beginAt
    | with_reducible apply km_f_X12_find_L55
    | with_reducible apply hrec12
    | intro _ _ _
theorem km_f_X12_find_L12 {s0 : S5} : ∀ (n : Nat) v0 (σ : S5), KM s0 σ → Kd (KM s0) (f_X12_find_L12 n v0 σ)
  | 0, _, _, _ => kd_none
  | n + 1, v0, σ, h => by
    unfold f_X12_find_L12
    exact km_f_X12_find_B12 _ (km_f_X12_find_L12 n) v0 σ h
theorem km_f_X12_find {s0 : S5}  (σ : S5) (h : KM s0 σ) : Kd (KM s0) (f_X12_find  σ) := by
  unfold f_X12_find
  repeat' first
    | assumption
    | with_reducible exact kd_none
    | with_reducible apply kd_some
    | with_reducible apply kd_ite
    | with_reducible apply kd_bd
    | with_reducible apply KM_pI _ _ _ (by decide)
    | with_reducible apply km_f_X12_find_L12
    | intro _ _ _
theorem km_f_X12_mainFunction_b39 {s0 : S5} (rec4 : Int32 → Int32 → S5 → Option (Int32 × S5)) (hrec4 : ∀ v0 v1 (σ : S5), KM s0 σ → Kd (KM s0) (rec4 v0 v1 σ)) (v2 : Int32) (u0 : Int32) (σ : S5) (h : KM s0 σ) : Kd (KM s0) (f_X12_mainFunction_b39 rec4 v2 u0 σ) := by
  unfold f_X12_mainFunction_b39
  repeat' first
    | assumption
    | with_reducible exact kd_none
    | with_reducible apply kd_some
    | with_reducible apply kd_ite
    | with_reducible apply kd_bd
    | with_reducible apply hrec4
    | intro _ _ _
theorem km_f_X12_mainFunction_B4 {s0 : S5} (rec4 : Int32 → Int32 → S5 → Option (Int32 × S5)) (hrec4 : ∀ v0 v1 (σ : S5), KM s0 σ → Kd (KM s0) (rec4 v0 v1 σ)) (v1 : Int32) (v2 : Int32) (σ : S5) (h : KM s0 σ) : Kd (KM s0) (f_X12_mainFunction_B4 rec4 v1 v2 σ) := by
  unfold f_X12_mainFunction_B4
  repeat' first
    | assumption
    | with_reducible exact kd_none
    | with_reducible apply kd_some
    | with_reducible apply kd_ite
    | with_reducible apply kd_gd
    | with_reducible apply kd_bd
    | with_reducible apply km_f_X12_pack
    | with_reducible apply km_f_X12_mainFunction_b39
    | with_reducible apply hrec4
    | intro _ _ _
theorem km_f_X12_mainFunction_L4 {s0 : S5} : ∀ (n : Nat) v0 v1 (σ : S5), KM s0 σ → Kd (KM s0) (f_X12_mainFunction_L4 n v0 v1 σ)
  | 0, _, _, _, _ => kd_none
  | n + 1, v0, v1, σ, h => by
    unfold f_X12_mainFunction_L4
    exact km_f_X12_mainFunction_B4 _ (km_f_X12_mainFunction_L4 n) v0 v1 σ h
theorem km_f_X12_mainFunction {s0 : S5}  (σ : S5) (h : KM s0 σ) : Kd (KM s0) (f_X12_mainFunction  σ) := by
  unfold f_X12_mainFunction
  repeat' first
    | assumption
    | with_reducible exact kd_none
    | with_reducible apply kd_some
    | with_reducible apply kd_ite
    | with_reducible apply kd_bd
    | with_reducible apply km_f_X12_mainFunction_L4
    | intro _ _ _
theorem km_f_X12_judge_b77 {s0 : S5}  (σ : S5) (h : KM s0 σ) : Kd (KM s0) (f_X12_judge_b77  σ) := by
  unfold f_X12_judge_b77
  repeat' first
    | assumption
    | with_reducible exact kd_none
    | with_reducible apply kd_some
    | with_reducible apply kd_ite
    | with_reducible apply kd_bd
    | with_reducible apply km_f_X12_fail
    | intro _ _ _
theorem km_f_X12_judge_b48 {s0 : S5} (rec5 : Int32 → S5 → Option (Unit × S5)) (hrec5 : ∀ v0 (σ : S5), KM s0 σ → Kd (KM s0) (rec5 v0 σ)) (v1 : Int32) (σ : S5) (h : KM s0 σ) : Kd (KM s0) (f_X12_judge_b48 rec5 v1 σ) := by
  unfold f_X12_judge_b48
  repeat' first
    | assumption
    | with_reducible exact kd_none
    | with_reducible apply kd_some
    | with_reducible apply kd_ite
    | with_reducible apply kd_bd
    | with_reducible apply hrec5
    | intro _ _ _
theorem km_f_X12_judge_B5 {s0 : S5} (rec5 : Int32 → S5 → Option (Unit × S5)) (hrec5 : ∀ v0 (σ : S5), KM s0 σ → Kd (KM s0) (rec5 v0 σ)) (v1 : Int32) (σ : S5) (h : KM s0 σ) : Kd (KM s0) (f_X12_judge_B5 rec5 v1 σ) := by
  unfold f_X12_judge_B5
  repeat' first
    | assumption
    | with_reducible exact kd_none
    | with_reducible apply kd_some
    | with_reducible apply kd_ite
    | with_reducible apply kd_gd
    | with_reducible apply kd_bd
    | with_reducible apply km_f_X12_fail
    | with_reducible apply km_f_X12_mainFunction
    | with_reducible apply km_f_X12_judge_b77
    | with_reducible apply km_f_X12_judge_b48
    | with_reducible apply hrec5
    | intro _ _ _
theorem km_f_X12_judge_L5 {s0 : S5} : ∀ (n : Nat) v0 (σ : S5), KM s0 σ → Kd (KM s0) (f_X12_judge_L5 n v0 σ)
  | 0, _, _, _ => kd_none
  | n + 1, v0, σ, h => by
    unfold f_X12_judge_L5
    exact km_f_X12_judge_B5 _ (km_f_X12_judge_L5 n) v0 σ h
theorem km_f_X12_judge {s0 : S5}  (σ : S5) (h : KM s0 σ) : Kd (KM s0) (f_X12_judge  σ) := by
  unfold f_X12_judge
  repeat' first
    | assumption
    | with_reducible exact kd_none
    | with_reducible apply kd_some
    | with_reducible apply kd_ite
    | with_reducible apply kd_bd
    | with_reducible apply km_f_X12_judge_L5
    | intro _ _ _
theorem km_f_X12_lift_b169 {s0 : S5} (rec108 : Int32 → Int32 → Int32 → Int64 → Int32 → S5 → Option (Int32 × S5)) (hrec108 : ∀ v0 v1 v2 v3 v4 (σ : S5), KM s0 σ → Kd (KM s0) (rec108 v0 v1 v2 v3 v4 σ)) (v3 : Int32) (v4 : Int32) (v6 : Int64) (v8 : Int32) (v9 : Int32) (u0 : Int32) (σ : S5) (h : KM s0 σ) : Kd (KM s0) (f_X12_lift_b169 rec108 v3 v4 v6 v8 v9 u0 σ) := by
  unfold f_X12_lift_b169
  repeat' first
    | assumption
    | with_reducible exact kd_none
    | with_reducible apply kd_some
    | with_reducible apply kd_ite
    | with_reducible apply kd_gd
    | with_reducible apply kd_bd
    | with_reducible apply hrec108
    | intro _ _ _
theorem km_f_X12_lift_B108 {s0 : S5} (rec108 : Int32 → Int32 → Int32 → Int64 → Int32 → S5 → Option (Int32 × S5)) (hrec108 : ∀ v0 v1 v2 v3 v4 (σ : S5), KM s0 σ → Kd (KM s0) (rec108 v0 v1 v2 v3 v4 σ)) (v3 : Int32) (v4 : Int32) (v5 : Int32) (v6 : Int64) (v8 : Int32) (σ : S5) (h : KM s0 σ) : Kd (KM s0) (f_X12_lift_B108 rec108 v3 v4 v5 v6 v8 σ) := by
  unfold f_X12_lift_B108
  repeat' first
    | assumption
    | with_reducible exact kd_none
    | with_reducible apply kd_some
    | with_reducible apply kd_ite
    | with_reducible apply kd_gd
    | with_reducible apply kd_bd
    | with_reducible apply KM_pI _ _ _ (by decide)
    | with_reducible apply KM_pA _ _ _ _ (by decide)
    | with_reducible apply KM_pB _ _ _ _ (by decide)
    | with_reducible apply km_f_X12_lift_b169
    | with_reducible apply hrec108
    | intro _ _ _
theorem km_f_X12_lift_L108 {s0 : S5} : ∀ (n : Nat) v0 v1 v2 v3 v4 (σ : S5), KM s0 σ → Kd (KM s0) (f_X12_lift_L108 n v0 v1 v2 v3 v4 σ)
  | 0, _, _, _, _, _, _, _ => kd_none
  | n + 1, v0, v1, v2, v3, v4, σ, h => by
    unfold f_X12_lift_L108
    exact km_f_X12_lift_B108 _ (km_f_X12_lift_L108 n) v0 v1 v2 v3 v4 σ h
theorem km_f_X12_lift_b103 {s0 : S5} (v3 : Int32) (v4 : Int32) (v5 : Int32) (u0 : Int64) (σ : S5) (h : KM s0 σ) : Kd (KM s0) (f_X12_lift_b103 v3 v4 v5 u0 σ) := by
  unfold f_X12_lift_b103
  repeat' first
    | assumption
    | with_reducible exact kd_none
    | with_reducible apply kd_some
    | with_reducible apply kd_ite
    | with_reducible apply kd_bd
    | with_reducible apply km_f_X12_lift_L108
    | intro _ _ _
theorem km_f_X12_lift {s0 : S5} (a1 : Int32) (a2 : Int32) (a3 : Int32) (σ : S5) (h : KM s0 σ) : Kd (KM s0) (f_X12_lift a1 a2 a3 σ) := by
  unfold f_X12_lift
  repeat' first
    | assumption
    | with_reducible exact kd_none
    | with_reducible apply kd_some
    | with_reducible apply kd_ite
    | with_reducible apply kd_gd
    | with_reducible apply kd_bd
    | with_reducible apply KM_pI _ _ _ (by decide)
    | with_reducible apply KM_pA _ _ _ _ (by decide)
    | with_reducible apply km_f_X12_lift_b103
    | intro _ _ _
theorem km_f_X12_child {s0 : S5} (a1 : Int32) (a2 : Int32) (σ : S5) (h : KM s0 σ) : Kd (KM s0) (f_X12_child a1 a2 σ) := by
  unfold f_X12_child
  repeat' first
    | assumption
    | with_reducible exact kd_none
    | with_reducible apply kd_some
    | with_reducible apply kd_ite
    | with_reducible apply kd_gd
    | with_reducible apply kd_bd
    | intro _ _ _
theorem km_f_X12_local_B26 {s0 : S5} (rec26 : Int32 → Int32 → Int32 → S5 → Option (Int32 × S5)) (hrec26 : ∀ v0 v1 v2 (σ : S5), KM s0 σ → Kd (KM s0) (rec26 v0 v1 v2 σ)) (v1 : Int32) (v2 : Int32) (v3 : Int32) (σ : S5) (h : KM s0 σ) : Kd (KM s0) (f_X12_local_B26 rec26 v1 v2 v3 σ) := by
  unfold f_X12_local_B26
  repeat' first
    | assumption
    | with_reducible exact kd_none
    | with_reducible apply kd_some
    | with_reducible apply kd_ite
    | with_reducible apply kd_gd
    | with_reducible apply kd_bd
    | with_reducible apply hrec26
    | intro _ _ _
theorem km_f_X12_local_L26 {s0 : S5} : ∀ (n : Nat) v0 v1 v2 (σ : S5), KM s0 σ → Kd (KM s0) (f_X12_local_L26 n v0 v1 v2 σ)
  | 0, _, _, _, _, _ => kd_none
  | n + 1, v0, v1, v2, σ, h => by
    unfold f_X12_local_L26
    exact km_f_X12_local_B26 _ (km_f_X12_local_L26 n) v0 v1 v2 σ h
theorem km_f_X12_local {s0 : S5} (a1 : Int32) (a2 : Int32) (σ : S5) (h : KM s0 σ) : Kd (KM s0) (f_X12_local a1 a2 σ) := by
  unfold f_X12_local
  repeat' first
    | assumption
    | with_reducible exact kd_none
    | with_reducible apply kd_some
    | with_reducible apply kd_ite
    | with_reducible apply kd_gd
    | with_reducible apply kd_bd
    | with_reducible apply km_f_X12_local_L26
    | intro _ _ _
theorem km_f_X12_liftFunction_B11 {s0 : S5} (rec11 : Int32 → Int32 → Int32 → S5 → Option (Unit × S5)) (hrec11 : ∀ v0 v1 v2 (σ : S5), KM s0 σ → Kd (KM s0) (rec11 v0 v1 v2 σ)) (v1 : Int32) (v2 : Int32) (v3 : Int32) (σ : S5) (h : KM s0 σ) : Kd (KM s0) (f_X12_liftFunction_B11 rec11 v1 v2 v3 σ) := by
  unfold f_X12_liftFunction_B11
  repeat' first
    | assumption
    | with_reducible exact kd_none
    | with_reducible apply kd_some
    | with_reducible apply kd_ite
    | with_reducible apply kd_gd
    | with_reducible apply kd_bd
    | with_reducible apply km_f_X12_lift
    | with_reducible apply km_f_X12_local
    | with_reducible apply hrec11
    | intro _ _ _
theorem km_f_X12_liftFunction_L11 {s0 : S5} : ∀ (n : Nat) v0 v1 v2 (σ : S5), KM s0 σ → Kd (KM s0) (f_X12_liftFunction_L11 n v0 v1 v2 σ)
  | 0, _, _, _, _, _ => kd_none
  | n + 1, v0, v1, v2, σ, h => by
    unfold f_X12_liftFunction_L11
    exact km_f_X12_liftFunction_B11 _ (km_f_X12_liftFunction_L11 n) v0 v1 v2 σ h
theorem km_f_X12_liftFunction {s0 : S5} (a1 : Int32) (a2 : Int32) (σ : S5) (h : KM s0 σ) : Kd (KM s0) (f_X12_liftFunction a1 a2 σ) := by
  unfold f_X12_liftFunction
  repeat' first
    | assumption
    | with_reducible exact kd_none
    | with_reducible apply kd_some
    | with_reducible apply kd_ite
    | with_reducible apply kd_bd
    | with_reducible apply km_f_X12_lift
    | with_reducible apply km_f_X12_liftFunction_L11
    | intro _ _ _
theorem km_f_X12_rowCount_B9 {s0 : S5} (rec9 : Int32 → Int32 → S5 → Option (Int32 × S5)) (hrec9 : ∀ v0 v1 (σ : S5), KM s0 σ → Kd (KM s0) (rec9 v0 v1 σ)) (v2 : Int32) (v3 : Int32) (σ : S5) (h : KM s0 σ) : Kd (KM s0) (f_X12_rowCount_B9 rec9 v2 v3 σ) := by
  unfold f_X12_rowCount_B9
  repeat' first
    | assumption
    | with_reducible exact kd_none
    | with_reducible apply kd_some
    | with_reducible apply kd_ite
    | with_reducible apply kd_gd
    | with_reducible apply kd_bd
    | with_reducible apply hrec9
    | intro _ _ _
theorem km_f_X12_rowCount_L9 {s0 : S5} : ∀ (n : Nat) v0 v1 (σ : S5), KM s0 σ → Kd (KM s0) (f_X12_rowCount_L9 n v0 v1 σ)
  | 0, _, _, _, _ => kd_none
  | n + 1, v0, v1, σ, h => by
    unfold f_X12_rowCount_L9
    exact km_f_X12_rowCount_B9 _ (km_f_X12_rowCount_L9 n) v0 v1 σ h
theorem km_f_X12_rowCount {s0 : S5} (a1 : Int32) (σ : S5) (h : KM s0 σ) : Kd (KM s0) (f_X12_rowCount a1 σ) := by
  unfold f_X12_rowCount
  repeat' first
    | assumption
    | with_reducible exact kd_none
    | with_reducible apply kd_some
    | with_reducible apply kd_ite
    | with_reducible apply kd_gd
    | with_reducible apply kd_bd
    | with_reducible apply km_f_X12_rowCount_L9
    | intro _ _ _
theorem km_f_X12_bits {s0 : S5} (a0 : Int32) (a1 : Int32) (σ : S5) (h : KM s0 σ) : Kd (KM s0) (f_X12_bits a0 a1 σ) := by
  unfold f_X12_bits
  repeat' first
    | assumption
    | with_reducible exact kd_none
    | with_reducible apply kd_some
    | with_reducible apply kd_ite
    | with_reducible apply kd_bd
    | intro _ _ _
theorem km_f_X12_closePart_b271 {s0 : S5} (rec178 : Int32 → Int32 → Int32 → Int32 → S5 → Option (Unit × S5)) (hrec178 : ∀ v0 v1 v2 v3 (σ : S5), KM s0 σ → Kd (KM s0) (rec178 v0 v1 v2 v3 σ)) (v1 : Int32) (v4 : Int32) (v5 : Int32) (v6 : Int32) (v7 : Int32) (u0 : Int32) (u1 : Int32) (σ : S5) (h : KM s0 σ) : Kd (KM s0) (f_X12_closePart_b271 rec178 v1 v4 v5 v6 v7 u0 u1 σ) := by
  unfold f_X12_closePart_b271
  repeat' first
    | assumption
    | with_reducible exact kd_none
    | with_reducible apply kd_some
    | with_reducible apply kd_ite
    | with_reducible apply kd_gd
    | with_reducible apply kd_bd
    | with_reducible apply KM_pA _ _ _ _ (by decide)
    | with_reducible apply KM_pB _ _ _ _ (by decide)
    | with_reducible apply km_f_X12_child
    | with_reducible apply km_f_X12_bits
    | with_reducible apply hrec178
    | intro _ _ _
theorem km_f_X12_closePart_B178 {s0 : S5} (rec178 : Int32 → Int32 → Int32 → Int32 → S5 → Option (Unit × S5)) (hrec178 : ∀ v0 v1 v2 v3 (σ : S5), KM s0 σ → Kd (KM s0) (rec178 v0 v1 v2 v3 σ)) (v1 : Int32) (v4 : Int32) (v5 : Int32) (v6 : Int32) (σ : S5) (h : KM s0 σ) : Kd (KM s0) (f_X12_closePart_B178 rec178 v1 v4 v5 v6 σ) := by
  unfold f_X12_closePart_B178
  repeat' first
    | assumption
    | with_reducible exact kd_none
    | with_reducible apply kd_some
    | with_reducible apply kd_ite
    | with_reducible apply kd_gd
    | with_reducible apply kd_bd
    | with_reducible apply KM_pA _ _ _ _ (by decide)
    | with_reducible apply km_f_X12_local
    | with_reducible apply km_f_X12_closePart_b271
    | with_reducible apply hrec178
    | intro _ _ _
theorem km_f_X12_closePart_L178 {s0 : S5} : ∀ (n : Nat) v0 v1 v2 v3 (σ : S5), KM s0 σ → Kd (KM s0) (f_X12_closePart_L178 n v0 v1 v2 v3 σ)
  | 0, _, _, _, _, _, _ => kd_none
  | n + 1, v0, v1, v2, v3, σ, h => by
    unfold f_X12_closePart_L178
    exact km_f_X12_closePart_B178 _ (km_f_X12_closePart_L178 n) v0 v1 v2 v3 σ h
theorem km_f_X12_closePart {s0 : S5} (a1 : Int32) (a2 : Int32) (σ : S5) (h : KM s0 σ) : Kd (KM s0) (f_X12_closePart a1 a2 σ) := by
  unfold f_X12_closePart
  repeat' first
    | assumption
    | with_reducible exact kd_none
    | with_reducible apply kd_some
    | with_reducible apply kd_ite
    | with_reducible apply kd_gd
    | with_reducible apply kd_bd
    | with_reducible apply KM_pA _ _ _ _ (by decide)
    | with_reducible apply KM_pB _ _ _ _ (by decide)
    | with_reducible apply km_f_X12_lift
    | with_reducible apply km_f_X12_child
    | with_reducible apply km_f_X12_local
    | with_reducible apply km_f_X12_rowCount
    | with_reducible apply km_f_X12_bits
    | with_reducible apply km_f_X12_closePart_L178
    | intro _ _ _
theorem km_f_X12_liftAll_b248 {s0 : S5} (v1 : Int32) (σ : S5) (h : KM s0 σ) : Kd (KM s0) (f_X12_liftAll_b248 v1 σ) := by
  unfold f_X12_liftAll_b248
  repeat' first
    | assumption
    | with_reducible exact kd_none
    | with_reducible apply kd_some
    | with_reducible apply kd_ite
    | with_reducible apply kd_gd
    | with_reducible apply kd_bd
    | with_reducible apply km_f_X12_fail
    | intro _ _ _
theorem km_f_X12_liftAll_B198 {s0 : S5} (rec17 : Int32 → S5 → Option (Unit × S5)) (hrec17 : ∀ v0 (σ : S5), KM s0 σ → Kd (KM s0) (rec17 v0 σ)) (rec198 : Int32 → Int32 → S5 → Option (Unit × S5)) (hrec198 : ∀ v0 v1 (σ : S5), KM s0 σ → Kd (KM s0) (rec198 v0 v1 σ)) (v1 : Int32) (v4 : Int32) (σ : S5) (h : KM s0 σ) : Kd (KM s0) (f_X12_liftAll_B198 rec17 rec198 v1 v4 σ) := by
  unfold f_X12_liftAll_B198
  repeat' first
    | assumption
    | with_reducible exact kd_none
    | with_reducible apply kd_some
    | with_reducible apply kd_ite
    | with_reducible apply kd_gd
    | with_reducible apply kd_bd
    | with_reducible apply KM_pA _ _ _ _ (by decide)
    | with_reducible apply km_f_X12_liftAll_b248
    | with_reducible apply hrec17
    | with_reducible apply hrec198
    | intro _ _ _
theorem km_f_X12_liftAll_L198 {s0 : S5} (rec17 : Int32 → S5 → Option (Unit × S5)) (hrec17 : ∀ v0 (σ : S5), KM s0 σ → Kd (KM s0) (rec17 v0 σ)) : ∀ (n : Nat) v0 v1 (σ : S5), KM s0 σ → Kd (KM s0) (f_X12_liftAll_L198 rec17 n v0 v1 σ)
  | 0, _, _, _, _ => kd_none
  | n + 1, v0, v1, σ, h => by
    unfold f_X12_liftAll_L198
    exact km_f_X12_liftAll_B198 rec17 hrec17 _ (km_f_X12_liftAll_L198 rec17 hrec17 n) v0 v1 σ h
theorem km_f_X12_liftAll_b162 {s0 : S5} (rec17 : Int32 → S5 → Option (Unit × S5)) (hrec17 : ∀ v0 (σ : S5), KM s0 σ → Kd (KM s0) (rec17 v0 σ)) (rec88 : Int32 → Int32 → S5 → Option (Unit × S5)) (hrec88 : ∀ v0 v1 (σ : S5), KM s0 σ → Kd (KM s0) (rec88 v0 v1 σ)) (v1 : Int32) (v3 : Int32) (σ : S5) (h : KM s0 σ) : Kd (KM s0) (f_X12_liftAll_b162 rec17 rec88 v1 v3 σ) := by
  unfold f_X12_liftAll_b162
  repeat' first
    | assumption
    | with_reducible exact kd_none
    | with_reducible apply kd_some
    | with_reducible apply kd_ite
    | with_reducible apply kd_bd
    | with_reducible apply hrec17
    | with_reducible apply hrec88
    | intro _ _ _
theorem km_f_X12_liftAll_B88 {s0 : S5} (rec17 : Int32 → S5 → Option (Unit × S5)) (hrec17 : ∀ v0 (σ : S5), KM s0 σ → Kd (KM s0) (rec17 v0 σ)) (rec88 : Int32 → Int32 → S5 → Option (Unit × S5)) (hrec88 : ∀ v0 v1 (σ : S5), KM s0 σ → Kd (KM s0) (rec88 v0 v1 σ)) (v1 : Int32) (v3 : Int32) (σ : S5) (h : KM s0 σ) : Kd (KM s0) (f_X12_liftAll_B88 rec17 rec88 v1 v3 σ) := by
  unfold f_X12_liftAll_B88
  repeat' first
    | assumption
    | with_reducible exact kd_none
    | with_reducible apply kd_some
    | with_reducible apply kd_ite
    | with_reducible apply kd_gd
    | with_reducible apply kd_bd
    | with_reducible apply KM_pI _ _ _ (by decide)
    | with_reducible apply KM_pA _ _ _ _ (by decide)
    | with_reducible apply km_f_X12_nextChild
    | with_reducible apply km_f_X12_beginAt
    | with_reducible apply km_f_X12_liftFunction
    | with_reducible apply km_f_X12_closePart
    | with_reducible apply km_f_X12_liftAll_L198
    | with_reducible apply km_f_X12_liftAll_b162
    | with_reducible apply hrec17
    | with_reducible apply hrec88
    | intro _ _ _
theorem km_f_X12_liftAll_L88 {s0 : S5} (rec17 : Int32 → S5 → Option (Unit × S5)) (hrec17 : ∀ v0 (σ : S5), KM s0 σ → Kd (KM s0) (rec17 v0 σ)) : ∀ (n : Nat) v0 v1 (σ : S5), KM s0 σ → Kd (KM s0) (f_X12_liftAll_L88 rec17 n v0 v1 σ)
  | 0, _, _, _, _ => kd_none
  | n + 1, v0, v1, σ, h => by
    unfold f_X12_liftAll_L88
    exact km_f_X12_liftAll_B88 rec17 hrec17 _ (km_f_X12_liftAll_L88 rec17 hrec17 n) v0 v1 σ h
theorem km_f_X12_liftAll_B17 {s0 : S5} (rec17 : Int32 → S5 → Option (Unit × S5)) (hrec17 : ∀ v0 (σ : S5), KM s0 σ → Kd (KM s0) (rec17 v0 σ)) (v1 : Int32) (σ : S5) (h : KM s0 σ) : Kd (KM s0) (f_X12_liftAll_B17 rec17 v1 σ) := by
  unfold f_X12_liftAll_B17
  repeat' first
    | assumption
    | with_reducible exact kd_none
    | with_reducible apply kd_some
    | with_reducible apply kd_ite
    | with_reducible apply kd_gd
    | with_reducible apply kd_bd
    | with_reducible apply KM_pA _ _ _ _ (by decide)
    | with_reducible apply km_f_X12_beginAt
    | with_reducible apply km_f_X12_liftAll_L88
    | with_reducible apply hrec17
    | intro _ _ _
theorem km_f_X12_liftAll_L17 {s0 : S5} : ∀ (n : Nat) v0 (σ : S5), KM s0 σ → Kd (KM s0) (f_X12_liftAll_L17 n v0 σ)
  | 0, _, _, _ => kd_none
  | n + 1, v0, σ, h => by
    unfold f_X12_liftAll_L17
    exact km_f_X12_liftAll_B17 _ (km_f_X12_liftAll_L17 n) v0 σ h
theorem km_f_X12_liftAll {s0 : S5}  (σ : S5) (h : KM s0 σ) : Kd (KM s0) (f_X12_liftAll  σ) := by
  unfold f_X12_liftAll
  repeat' first
    | assumption
    | with_reducible exact kd_none
    | with_reducible apply kd_some
    | with_reducible apply kd_ite
    | with_reducible apply kd_bd
    | with_reducible apply KM_pI _ _ _ (by decide)
    | with_reducible apply km_f_X12_liftAll_L17
    | intro _ _ _
