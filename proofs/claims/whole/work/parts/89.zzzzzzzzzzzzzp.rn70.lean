/-- there is a fault, or main has no parameters -/
def MZs (σ : S5) : Prop := ¬ gI σ 20 = 0 ∨ xA σ 3 (gI σ 7) ≤ 0
theorem MZs_pI (σ : S5) (k : Nat) (v : Int32) (hk : ¬ (7 = k ∨ 20 = k)) (h : MZs σ) : MZs (pI σ k v) := by
  unfold MZs
  rw [gI_pI, if_neg (fun e => hk (Or.inr e)), gI_pI, if_neg (fun e => hk (Or.inl e))]
  exact h
theorem MZs_pJ {σ : S5} {k : Nat} {v : Int64} (h : MZs σ) : MZs (pJ σ k v) := h
theorem MZs_pN {σ : S5} {k v : Nat} (h : MZs σ) : MZs (pN σ k v) := h
theorem MZs_pA (σ : S5) (k : Nat) (i v : Int32) (hk : ¬ 3 = k) (h : MZs σ) : MZs (pA σ k i v) := h.elim Or.inl (fun w => Or.inr (by
  show gA (pA σ k i v) 3 _ ≤ 0
  rw [gA_pA_ne hk]
  exact w))
theorem MZs_pB {σ : S5} {k : Nat} {i : Int32} {v : Int64} (h : MZs σ) : MZs (pB σ k i v) := h
theorem kmz_f_X9_span (a0 : Int32) (a1 : Int32) (σ : S5) (h : MZs σ) : Kd MZs (f_X9_span a0 a1 σ) := by
  unfold f_X9_span
  repeat' first
    | assumption
    | with_reducible exact kd_none
    | with_reducible apply kd_some
    | with_reducible apply kd_ite
    | with_reducible apply kd_bd
    | intro _ _ _
theorem kmz_f_X9_isPart_b12  (σ : S5) (h : MZs σ) : Kd MZs (f_X9_isPart_b12  σ) := by
  unfold f_X9_isPart_b12
  repeat' first
    | assumption
    | with_reducible exact kd_none
    | with_reducible apply kd_some
    | with_reducible apply kd_ite
    | with_reducible apply kd_bd
    | intro _ _ _
theorem kmz_f_X9_isPart (a0 : Int32) (σ : S5) (h : MZs σ) : Kd MZs (f_X9_isPart a0 σ) := by
  unfold f_X9_isPart
  repeat' first
    | assumption
    | with_reducible exact kd_none
    | with_reducible apply kd_some
    | with_reducible apply kd_ite
    | with_reducible apply kd_bd
    | with_reducible apply kmz_f_X9_isPart_b12
    | intro _ _ _
theorem kmz_f_X9_add (a1 : Int32) (a2 : Int32) (a3 : Int32) (a4 : Int32) (σ : S5) (h : MZs σ) : Kd MZs (f_X9_add a1 a2 a3 a4 σ) := by
  unfold f_X9_add
  repeat' first
    | assumption
    | with_reducible exact kd_none
    | with_reducible apply kd_some
    | with_reducible apply kd_ite
    | with_reducible apply kd_gd
    | with_reducible apply kd_bd
    | with_reducible apply MZs_pI _ _ _ (by decide)
    | with_reducible apply MZs_pA _ _ _ _ (by decide)
    | intro _ _ _
theorem kmz_f_X9_addLeaf (a1 : Int32) (a2 : Int32) (σ : S5) (h : MZs σ) : Kd MZs (f_X9_addLeaf a1 a2 σ) := by
  unfold f_X9_addLeaf
  repeat' first
    | assumption
    | with_reducible exact kd_none
    | with_reducible apply kd_some
    | with_reducible apply kd_ite
    | with_reducible apply kd_bd
    | with_reducible apply kmz_f_X9_add
    | intro _ _ _
theorem kmz_f_X9_change (a1 : Int32) (a2 : Int32) (a3 : Int32) (σ : S5) (h : MZs σ) : Kd MZs (f_X9_change a1 a2 a3 σ) := by
  unfold f_X9_change
  repeat' first
    | assumption
    | with_reducible exact kd_none
    | with_reducible apply kd_some
    | with_reducible apply kd_ite
    | with_reducible apply kd_gd
    | with_reducible apply kd_bd
    | with_reducible apply MZs_pA _ _ _ _ (by decide)
    | intro _ _ _
theorem kmz_f_X9_measureLeaf_b49 (u0 : Int64) (u1 : Int32) (σ : S5) (h : MZs σ) : Kd MZs (f_X9_measureLeaf_b49 u0 u1 σ) := by
  unfold f_X9_measureLeaf_b49
  repeat' first
    | assumption
    | with_reducible exact kd_none
    | with_reducible apply kd_some
    | with_reducible apply kd_ite
    | with_reducible apply kd_gd
    | with_reducible apply kd_bd
    | with_reducible apply MZs_pB
    | intro _ _ _
theorem kmz_f_X9_measureLeaf_b48 (u0 : Int32) (σ : S5) (h : MZs σ) : Kd MZs (f_X9_measureLeaf_b48 u0 σ) := by
  unfold f_X9_measureLeaf_b48
  repeat' first
    | assumption
    | with_reducible exact kd_none
    | with_reducible apply kd_some
    | with_reducible apply kd_ite
    | with_reducible apply kd_bd
    | with_reducible apply kmz_f_X9_measureLeaf_b49
    | intro _ _ _
theorem kmz_f_X9_measureLeaf (a1 : Int32) (σ : S5) (h : MZs σ) : Kd MZs (f_X9_measureLeaf a1 σ) := by
  unfold f_X9_measureLeaf
  repeat' first
    | assumption
    | with_reducible exact kd_none
    | with_reducible apply kd_some
    | with_reducible apply kd_ite
    | with_reducible apply kd_gd
    | with_reducible apply kd_bd
    | with_reducible apply MZs_pA _ _ _ _ (by decide)
    | with_reducible apply kmz_f_X9_measureLeaf_b49
    | with_reducible apply kmz_f_X9_measureLeaf_b48
    | intro _ _ _
theorem kmz_f_X9_measure_b158 (v1 : Int32) (v3 : Int32) (v4 : Int32) (v5 : Int64) (v7 : Int64) (u0 : Int32) (σ : S5) (h : MZs σ) : Kd MZs (f_X9_measure_b158 v1 v3 v4 v5 v7 u0 σ) := by
  unfold f_X9_measure_b158
  repeat' first
    | assumption
    | with_reducible exact kd_none
    | with_reducible apply kd_some
    | with_reducible apply kd_ite
    | with_reducible apply kd_gd
    | with_reducible apply kd_bd
    | with_reducible apply MZs_pA _ _ _ _ (by decide)
    | with_reducible apply MZs_pB
    | intro _ _ _
theorem kmz_f_X9_measure_b141 (v1 : Int32) (v3 : Int32) (v4 : Int32) (v5 : Int64) (v7 : Int64) (σ : S5) (h : MZs σ) : Kd MZs (f_X9_measure_b141 v1 v3 v4 v5 v7 σ) := by
  unfold f_X9_measure_b141
  repeat' first
    | assumption
    | with_reducible exact kd_none
    | with_reducible apply kd_some
    | with_reducible apply kd_ite
    | with_reducible apply kd_gd
    | with_reducible apply kd_bd
    | with_reducible apply kmz_f_X9_isPart
    | with_reducible apply kmz_f_X9_measure_b158
    | intro _ _ _
theorem kmz_f_X9_measure_b118 (v1 : Int32) (v2 : Int32) (v3 : Int32) (v4 : Int32) (v5 : Int64) (v7 : Int64) (σ : S5) (h : MZs σ) : Kd MZs (f_X9_measure_b118 v1 v2 v3 v4 v5 v7 σ) := by
  unfold f_X9_measure_b118
  repeat' first
    | assumption
    | with_reducible exact kd_none
    | with_reducible apply kd_some
    | with_reducible apply kd_ite
    | with_reducible apply kd_gd
    | with_reducible apply kd_bd
    | with_reducible apply kmz_f_X9_span
    | with_reducible apply kmz_f_X9_measure_b141
    | intro _ _ _
theorem kmz_f_X9_measure_b100 (rec22 : Int32 → Int32 → Int32 → Int32 → Int64 → Int64 → Int32 → Int32 → S5 → Option (Unit × S5)) (hrec22 : ∀ v0 v1 v2 v3 v4 v5 v6 v7 (σ : S5), MZs σ → Kd MZs (rec22 v0 v1 v2 v3 v4 v5 v6 v7 σ)) (v1 : Int32) (v2 : Int32) (v3 : Int32) (v4 : Int32) (v5 : Int64) (v9 : Int32) (v10 : Int32) (u0 : Int64) (u1 : Int64) (σ : S5) (h : MZs σ) : Kd MZs (f_X9_measure_b100 rec22 v1 v2 v3 v4 v5 v9 v10 u0 u1 σ) := by
  unfold f_X9_measure_b100
  repeat' first
    | assumption
    | with_reducible exact kd_none
    | with_reducible apply kd_some
    | with_reducible apply kd_ite
    | with_reducible apply kd_gd
    | with_reducible apply kd_bd
    | with_reducible apply hrec22
    | intro _ _ _
theorem kmz_f_X9_measure_B22 (rec22 : Int32 → Int32 → Int32 → Int32 → Int64 → Int64 → Int32 → Int32 → S5 → Option (Unit × S5)) (hrec22 : ∀ v0 v1 v2 v3 v4 v5 v6 v7 (σ : S5), MZs σ → Kd MZs (rec22 v0 v1 v2 v3 v4 v5 v6 v7 σ)) (v1 : Int32) (v2 : Int32) (v3 : Int32) (v4 : Int32) (v5 : Int64) (v7 : Int64) (v9 : Int32) (v10 : Int32) (σ : S5) (h : MZs σ) : Kd MZs (f_X9_measure_B22 rec22 v1 v2 v3 v4 v5 v7 v9 v10 σ) := by
  unfold f_X9_measure_B22
  repeat' first
    | assumption
    | with_reducible exact kd_none
    | with_reducible apply kd_some
    | with_reducible apply kd_ite
    | with_reducible apply kd_gd
    | with_reducible apply kd_bd
    | with_reducible apply kmz_f_X9_span
    | with_reducible apply kmz_f_X9_measure_b118
    | with_reducible apply kmz_f_X9_measure_b100
    | with_reducible apply hrec22
    | intro _ _ _
theorem kmz_f_X9_measure_L22 : ∀ (n : Nat) v0 v1 v2 v3 v4 v5 v6 v7 (σ : S5), MZs σ → Kd MZs (f_X9_measure_L22 n v0 v1 v2 v3 v4 v5 v6 v7 σ)
  | 0, _, _, _, _, _, _, _, _, _, _ => kd_none
  | n + 1, v0, v1, v2, v3, v4, v5, v6, v7, σ, h => by
    unfold f_X9_measure_L22
    exact kmz_f_X9_measure_B22 _ (kmz_f_X9_measure_L22 n) v0 v1 v2 v3 v4 v5 v6 v7 σ h
theorem kmz_f_X9_measure (a1 : Int32) (a2 : Int32) (σ : S5) (h : MZs σ) : Kd MZs (f_X9_measure a1 a2 σ) := by
  unfold f_X9_measure
  repeat' first
    | assumption
    | with_reducible exact kd_none
    | with_reducible apply kd_some
    | with_reducible apply kd_ite
    | with_reducible apply kd_gd
    | with_reducible apply kd_bd
    | with_reducible apply kmz_f_X9_measure_L22
    | intro _ _ _
theorem kmz_f_X6_owns (a1 : Int32) (σ : S5) (h : MZs σ) : Kd MZs (f_X6_owns a1 σ) := by
  unfold f_X6_owns
  repeat' first
    | assumption
    | with_reducible exact kd_none
    | with_reducible apply kd_some
    | with_reducible apply kd_ite
    | with_reducible apply kd_gd
    | with_reducible apply kd_bd
    | intro _ _ _
theorem kmz_f_X2_refuse (a1 a2 : Int32) (h0 : 0 < a1) (σ : S5) (h : MZs σ) : Kd MZs (f_X2_refuse a1 a2 σ) := by
  unfold f_X2_refuse
  refine kd_ite (kd_some (Or.inl ?_)) (kd_some h)
  rw [gI_pI, if_neg (by decide), gI_pI, if_pos rfl]
  intro w
  rw [w] at h0
  exact absurd h0 (by decide)
theorem kmz_f_X2_freeIndex_B2 (rec2 : Int32 → Int32 → Int32 → S5 → Option (Int32 × S5)) (hrec2 : ∀ v0 v1 v2 (σ : S5), MZs σ → Kd MZs (rec2 v0 v1 v2 σ)) (v1 : Int32) (v2 : Int32) (v3 : Int32) (σ : S5) (h : MZs σ) : Kd MZs (f_X2_freeIndex_B2 rec2 v1 v2 v3 σ) := by
  unfold f_X2_freeIndex_B2
  repeat' first
    | assumption
    | with_reducible exact kd_none
    | with_reducible apply kd_some
    | with_reducible apply kd_ite
    | with_reducible apply kd_gd
    | with_reducible apply kd_bd
    | with_reducible apply hrec2
    | intro _ _ _
theorem kmz_f_X2_freeIndex_L2 : ∀ (n : Nat) v0 v1 v2 (σ : S5), MZs σ → Kd MZs (f_X2_freeIndex_L2 n v0 v1 v2 σ)
  | 0, _, _, _, _, _ => kd_none
  | n + 1, v0, v1, v2, σ, h => by
    unfold f_X2_freeIndex_L2
    exact kmz_f_X2_freeIndex_B2 _ (kmz_f_X2_freeIndex_L2 n) v0 v1 v2 σ h
theorem kmz_f_X2_freeIndex (a1 : Int32) (a2 : Int32) (σ : S5) (h : MZs σ) : Kd MZs (f_X2_freeIndex a1 a2 σ) := by
  unfold f_X2_freeIndex
  repeat' first
    | assumption
    | with_reducible exact kd_none
    | with_reducible apply kd_some
    | with_reducible apply kd_ite
    | with_reducible apply kd_bd
    | with_reducible apply kmz_f_X2_freeIndex_L2
    | intro _ _ _
theorem kmz_f_X2_numberVariables_b144 (rec65 : Int32 → S5 → Option (Unit × S5)) (hrec65 : ∀ v0 (σ : S5), MZs σ → Kd MZs (rec65 v0 σ)) (v1 : Int32) (σ : S5) (h : MZs σ) : Kd MZs (f_X2_numberVariables_b144 rec65 v1 σ) := by
  unfold f_X2_numberVariables_b144
  repeat' first
    | assumption
    | with_reducible exact kd_none
    | with_reducible apply kd_some
    | with_reducible apply kd_ite
    | with_reducible apply kd_bd
    | with_reducible apply hrec65
    | intro _ _ _
theorem kmz_f_X2_numberVariables_B65 (rec65 : Int32 → S5 → Option (Unit × S5)) (hrec65 : ∀ v0 (σ : S5), MZs σ → Kd MZs (rec65 v0 σ)) (v1 : Int32) (σ : S5) (h : MZs σ) : Kd MZs (f_X2_numberVariables_B65 rec65 v1 σ) := by
  unfold f_X2_numberVariables_B65
  repeat' first
    | assumption
    | with_reducible exact kd_none
    | with_reducible apply kd_some
    | with_reducible apply kd_ite
    | with_reducible apply kd_gd
    | with_reducible apply kd_bd
    | with_reducible apply MZs_pA _ _ _ _ (by decide)
    | with_reducible apply kmz_f_X6_owns
    | with_reducible apply kmz_f_X2_numberVariables_b144
    | with_reducible apply hrec65
    | intro _ _ _
theorem kmz_f_X2_numberVariables_L65 : ∀ (n : Nat) v0 (σ : S5), MZs σ → Kd MZs (f_X2_numberVariables_L65 n v0 σ)
  | 0, _, _, _ => kd_none
  | n + 1, v0, σ, h => by
    unfold f_X2_numberVariables_L65
    exact kmz_f_X2_numberVariables_B65 _ (kmz_f_X2_numberVariables_L65 n) v0 σ h
theorem kmz_f_X2_numberVariables_B2 (rec2 : Int32 → S5 → Option (Unit × S5)) (hrec2 : ∀ v0 (σ : S5), MZs σ → Kd MZs (rec2 v0 σ)) (v1 : Int32) (σ : S5) (h : MZs σ) : Kd MZs (f_X2_numberVariables_B2 rec2 v1 σ) := by
  unfold f_X2_numberVariables_B2
  repeat' first
    | assumption
    | with_reducible exact kd_none
    | with_reducible apply kd_some
    | with_reducible apply kd_ite
    | with_reducible apply kd_gd
    | with_reducible apply kd_bd
    | with_reducible apply MZs_pA _ _ _ _ (by decide)
    | with_reducible apply kmz_f_X2_numberVariables_L65
    | with_reducible apply hrec2
    | intro _ _ _
theorem kmz_f_X2_numberVariables_L2 : ∀ (n : Nat) v0 (σ : S5), MZs σ → Kd MZs (f_X2_numberVariables_L2 n v0 σ)
  | 0, _, _, _ => kd_none
  | n + 1, v0, σ, h => by
    unfold f_X2_numberVariables_L2
    exact kmz_f_X2_numberVariables_B2 _ (kmz_f_X2_numberVariables_L2 n) v0 σ h
theorem kmz_f_X2_numberVariables  (σ : S5) (h : MZs σ) : Kd MZs (f_X2_numberVariables  σ) := by
  unfold f_X2_numberVariables
  repeat' first
    | assumption
    | with_reducible exact kd_none
    | with_reducible apply kd_some
    | with_reducible apply kd_ite
    | with_reducible apply kd_bd
    | with_reducible apply kmz_f_X2_numberVariables_L2
    | intro _ _ _
theorem kmz_f_X2_numberIn (a1 : Int32) (a2 : Int32) (σ : S5) (h : MZs σ) : Kd MZs (f_X2_numberIn a1 a2 σ) := by
  unfold f_X2_numberIn
  repeat' first
    | assumption
    | with_reducible exact kd_none
    | with_reducible apply kd_some
    | with_reducible apply kd_ite
    | with_reducible apply kd_gd
    | with_reducible apply kd_bd
    | with_reducible apply kmz_f_X2_freeIndex
    | intro _ _ _
theorem kmz_f_X2_plantUses_b96 (rec2 : Int32 → S5 → Option (Unit × S5)) (hrec2 : ∀ v0 (σ : S5), MZs σ → Kd MZs (rec2 v0 σ)) (v1 : Int32) (σ : S5) (h : MZs σ) : Kd MZs (f_X2_plantUses_b96 rec2 v1 σ) := by
  unfold f_X2_plantUses_b96
  repeat' first
    | assumption
    | with_reducible exact kd_none
    | with_reducible apply kd_some
    | with_reducible apply kd_ite
    | with_reducible apply kd_bd
    | with_reducible apply hrec2
    | intro _ _ _
theorem kmz_f_X2_plantUses_B2 (rec2 : Int32 → S5 → Option (Unit × S5)) (hrec2 : ∀ v0 (σ : S5), MZs σ → Kd MZs (rec2 v0 σ)) (v1 : Int32) (σ : S5) (h : MZs σ) : Kd MZs (f_X2_plantUses_B2 rec2 v1 σ) := by
  unfold f_X2_plantUses_B2
  repeat' first
    | assumption
    | with_reducible exact kd_none
    | with_reducible apply kd_some
    | with_reducible apply kd_ite
    | with_reducible apply kd_gd
    | with_reducible apply kd_bd
    | with_reducible apply kmz_f_X9_change
    | with_reducible apply kmz_f_X2_numberIn
    | with_reducible apply kmz_f_X2_plantUses_b96
    | with_reducible apply hrec2
    | intro _ _ _
theorem kmz_f_X2_plantUses_L2 : ∀ (n : Nat) v0 (σ : S5), MZs σ → Kd MZs (f_X2_plantUses_L2 n v0 σ)
  | 0, _, _, _ => kd_none
  | n + 1, v0, σ, h => by
    unfold f_X2_plantUses_L2
    exact kmz_f_X2_plantUses_B2 _ (kmz_f_X2_plantUses_L2 n) v0 σ h
theorem kmz_f_X2_plantUses  (σ : S5) (h : MZs σ) : Kd MZs (f_X2_plantUses  σ) := by
  unfold f_X2_plantUses
  repeat' first
    | assumption
    | with_reducible exact kd_none
    | with_reducible apply kd_some
    | with_reducible apply kd_ite
    | with_reducible apply kd_bd
    | with_reducible apply kmz_f_X2_plantUses_L2
    | intro _ _ _
theorem kmz_f_X2_plantLeaf (a1 : Int32) (a2 : Int32) (σ : S5) (h : MZs σ) : Kd MZs (f_X2_plantLeaf a1 a2 σ) := by
  unfold f_X2_plantLeaf
  repeat' first
    | assumption
    | with_reducible exact kd_none
    | with_reducible apply kd_some
    | with_reducible apply kd_ite
    | with_reducible apply kd_bd
    | with_reducible apply kmz_f_X9_addLeaf
    | with_reducible apply kmz_f_X9_measureLeaf
    | intro _ _ _
theorem kmz_f_X2_plantLifted_B111 (rec111 : Int32 → Int32 → Int32 → Int32 → S5 → Option (Unit × S5)) (hrec111 : ∀ v0 v1 v2 v3 (σ : S5), MZs σ → Kd MZs (rec111 v0 v1 v2 v3 σ)) (v3 : Int32) (v4 : Int32) (v5 : Int32) (v6 : Int32) (σ : S5) (h : MZs σ) : Kd MZs (f_X2_plantLifted_B111 rec111 v3 v4 v5 v6 σ) := by
  unfold f_X2_plantLifted_B111
  repeat' first
    | assumption
    | with_reducible exact kd_none
    | with_reducible apply kd_some
    | with_reducible apply kd_ite
    | with_reducible apply kd_gd
    | with_reducible apply kd_bd
    | with_reducible apply MZs_pA _ _ _ _ (by decide)
    | with_reducible apply kmz_f_X2_numberIn
    | with_reducible apply kmz_f_X2_plantLeaf
    | with_reducible apply hrec111
    | intro _ _ _
theorem kmz_f_X2_plantLifted_L111 : ∀ (n : Nat) v0 v1 v2 v3 (σ : S5), MZs σ → Kd MZs (f_X2_plantLifted_L111 n v0 v1 v2 v3 σ)
  | 0, _, _, _, _, _, _ => kd_none
  | n + 1, v0, v1, v2, v3, σ, h => by
    unfold f_X2_plantLifted_L111
    exact kmz_f_X2_plantLifted_B111 _ (kmz_f_X2_plantLifted_L111 n) v0 v1 v2 v3 σ h
theorem kmz_f_X2_plantLifted (a1 : Int32) (a2 : Int32) (σ : S5) (h : MZs σ) : Kd MZs (f_X2_plantLifted a1 a2 σ) := by
  unfold f_X2_plantLifted
  repeat' first
    | assumption
    | with_reducible exact kd_none
    | with_reducible apply kd_some
    | with_reducible apply kd_ite
    | with_reducible apply kd_gd
    | with_reducible apply kd_bd
    | with_reducible apply MZs_pA _ _ _ _ (by decide)
    | with_reducible apply kmz_f_X9_change
    | with_reducible apply kmz_f_X2_plantLeaf
    | with_reducible apply kmz_f_X2_plantLifted_L111
    | intro _ _ _
theorem kmz_f_X2_plantNode (a1 : Int32) (σ : S5) (h : MZs σ) : Kd MZs (f_X2_plantNode a1 σ) := by
  unfold f_X2_plantNode
  repeat' first
    | assumption
    | with_reducible exact kd_none
    | with_reducible apply kd_some
    | with_reducible apply kd_ite
    | with_reducible apply kd_gd
    | with_reducible apply kd_bd
    | with_reducible apply MZs_pA _ _ _ _ (by decide)
    | with_reducible apply kmz_f_X2_plantLifted
    | intro _ _ _
theorem kmz_f_X2_plantNodes_b89 (rec10 : Int32 → Int32 → S5 → Option (Unit × S5)) (hrec10 : ∀ v0 v1 (σ : S5), MZs σ → Kd MZs (rec10 v0 v1 σ)) (v1 : Int32) (v2 : Int32) (σ : S5) (h : MZs σ) : Kd MZs (f_X2_plantNodes_b89 rec10 v1 v2 σ) := by
  unfold f_X2_plantNodes_b89
  repeat' first
    | assumption
    | with_reducible exact kd_none
    | with_reducible apply kd_some
    | with_reducible apply kd_ite
    | with_reducible apply kd_bd
    | with_reducible apply hrec10
    | intro _ _ _
theorem kmz_f_X2_plantNodes_b86 (rec10 : Int32 → Int32 → S5 → Option (Unit × S5)) (hrec10 : ∀ v0 v1 (σ : S5), MZs σ → Kd MZs (rec10 v0 v1 σ)) (v1 : Int32) (v2 : Int32) (u0 : Int32) (u1 : Int32) (σ : S5) (h : MZs σ) : Kd MZs (f_X2_plantNodes_b86 rec10 v1 v2 u0 u1 σ) := by
  unfold f_X2_plantNodes_b86
  repeat' first
    | assumption
    | with_reducible exact kd_none
    | with_reducible apply kd_some
    | with_reducible apply kd_ite
    | with_reducible apply kd_bd
    | with_reducible apply kmz_f_X9_measure
    | with_reducible apply kmz_f_X2_plantNodes_b89
    | with_reducible apply hrec10
    | intro _ _ _
theorem kmz_f_X2_plantNodes_B10 (rec10 : Int32 → Int32 → S5 → Option (Unit × S5)) (hrec10 : ∀ v0 v1 (σ : S5), MZs σ → Kd MZs (rec10 v0 v1 σ)) (v1 : Int32) (v2 : Int32) (σ : S5) (h : MZs σ) : Kd MZs (f_X2_plantNodes_B10 rec10 v1 v2 σ) := by
  unfold f_X2_plantNodes_B10
  repeat' first
    | assumption
    | with_reducible exact kd_none
    | with_reducible apply kd_some
    | with_reducible apply kd_ite
    | with_reducible apply kd_gd
    | with_reducible apply kd_bd
    | with_reducible apply kmz_f_X9_measureLeaf
    | with_reducible apply kmz_f_X2_plantNode
    | with_reducible apply kmz_f_X2_plantNodes_b89
    | with_reducible apply kmz_f_X2_plantNodes_b86
    | with_reducible apply hrec10
    | intro _ _ _
theorem kmz_f_X2_plantNodes_L10 : ∀ (n : Nat) v0 v1 (σ : S5), MZs σ → Kd MZs (f_X2_plantNodes_L10 n v0 v1 σ)
  | 0, _, _, _, _ => kd_none
  | n + 1, v0, v1, σ, h => by
    unfold f_X2_plantNodes_L10
    exact kmz_f_X2_plantNodes_B10 _ (kmz_f_X2_plantNodes_L10 n) v0 v1 σ h
theorem kmz_f_X2_plantNodes  (σ : S5) (h : MZs σ) : Kd MZs (f_X2_plantNodes  σ) := by
  unfold f_X2_plantNodes
  repeat' first
    | assumption
    | with_reducible exact kd_none
    | with_reducible apply kd_some
    | with_reducible apply kd_ite
    | with_reducible apply kd_bd
    | with_reducible apply kmz_f_X2_plantNodes_L10
    | intro _ _ _
theorem kmz_f_X2_keepMeasures_b116 (rec2 : Int32 → S5 → Option (Unit × S5)) (hrec2 : ∀ v0 (σ : S5), MZs σ → Kd MZs (rec2 v0 σ)) (v1 : Int32) (σ : S5) (h : MZs σ) : Kd MZs (f_X2_keepMeasures_b116 rec2 v1 σ) := by
  unfold f_X2_keepMeasures_b116
  repeat' first
    | assumption
    | with_reducible exact kd_none
    | with_reducible apply kd_some
    | with_reducible apply kd_ite
    | with_reducible apply kd_bd
    | with_reducible apply hrec2
    | intro _ _ _
theorem kmz_f_X2_keepMeasures_b93 (rec2 : Int32 → S5 → Option (Unit × S5)) (hrec2 : ∀ v0 (σ : S5), MZs σ → Kd MZs (rec2 v0 σ)) (v1 : Int32) (σ : S5) (h : MZs σ) : Kd MZs (f_X2_keepMeasures_b93 rec2 v1 σ) := by
  unfold f_X2_keepMeasures_b93
  repeat' first
    | assumption
    | with_reducible exact kd_none
    | with_reducible apply kd_some
    | with_reducible apply kd_ite
    | with_reducible apply kd_gd
    | with_reducible apply kd_bd
    | with_reducible apply kmz_f_X2_refuse _ _ (by decide)
    | with_reducible apply kmz_f_X2_keepMeasures_b116
    | with_reducible apply hrec2
    | intro _ _ _
theorem kmz_f_X2_keepMeasures_B2 (rec2 : Int32 → S5 → Option (Unit × S5)) (hrec2 : ∀ v0 (σ : S5), MZs σ → Kd MZs (rec2 v0 σ)) (v1 : Int32) (σ : S5) (h : MZs σ) : Kd MZs (f_X2_keepMeasures_B2 rec2 v1 σ) := by
  unfold f_X2_keepMeasures_B2
  repeat' first
    | assumption
    | with_reducible exact kd_none
    | with_reducible apply kd_some
    | with_reducible apply kd_ite
    | with_reducible apply kd_gd
    | with_reducible apply kd_bd
    | with_reducible apply MZs_pA _ _ _ _ (by decide)
    | with_reducible apply kmz_f_X2_keepMeasures_b116
    | with_reducible apply kmz_f_X2_keepMeasures_b93
    | with_reducible apply hrec2
    | intro _ _ _
theorem kmz_f_X2_keepMeasures_L2 : ∀ (n : Nat) v0 (σ : S5), MZs σ → Kd MZs (f_X2_keepMeasures_L2 n v0 σ)
  | 0, _, _, _ => kd_none
  | n + 1, v0, σ, h => by
    unfold f_X2_keepMeasures_L2
    exact kmz_f_X2_keepMeasures_B2 _ (kmz_f_X2_keepMeasures_L2 n) v0 σ h
theorem kmz_f_X2_keepMeasures  (σ : S5) (h : MZs σ) : Kd MZs (f_X2_keepMeasures  σ) := by
  unfold f_X2_keepMeasures
  repeat' first
    | assumption
    | with_reducible exact kd_none
    | with_reducible apply kd_some
    | with_reducible apply kd_ite
    | with_reducible apply kd_bd
    | with_reducible apply kmz_f_X2_keepMeasures_L2
    | intro _ _ _
theorem kmz_f_X2_lift_b44  (σ : S5) (h : MZs σ) : Kd MZs (f_X2_lift_b44  σ) := by
  unfold f_X2_lift_b44
  repeat' first
    | assumption
    | with_reducible exact kd_none
    | with_reducible apply kd_some
    | with_reducible apply kd_ite
    | with_reducible apply kd_bd
    | with_reducible apply kmz_f_X2_numberVariables
    | with_reducible apply kmz_f_X2_plantUses
    | with_reducible apply kmz_f_X2_plantNodes
    | with_reducible apply kmz_f_X2_keepMeasures
    | intro _ _ _
theorem mz_main (σ : S5) : Kd MZs (f_X2_findMain σ) := by
  intro r τ e
  unfold f_X2_findMain at e
  obtain ⟨r1, τ1, e1, e2⟩ := bd_some e
  have hb : ∀ s r τ, f_X2_findMain_b46 s = some (r, τ) → MZs τ := fun s r τ e => by
    unfold f_X2_findMain_b46 f_X2_refuse at e
    obtain ⟨r2, τ2, e3, e4⟩ := bd_some e
    injection e4 with e4
    injection e4 with _ e4
    subst e4
    by_cases c : gI s 20 = 0
    · rw [if_pos c] at e3
      injection e3 with e3
      injection e3 with _ e3
      refine Or.inl ?_
      rw [← e3, gI_pI, if_neg (by decide), gI_pI, if_pos rfl]
      decide
    · rw [if_neg c] at e3
      injection e3 with e3
      injection e3 with _ e3
      rw [← e3]
      exact Or.inl c
  by_cases c : r1 = -1
  · rw [if_pos c] at e2
    exact hb _ _ _ e2
  · rw [if_neg c] at e2
    have e3 := (gd_some e2).2
    by_cases c2 : xA τ1 3 r1 ≤ 0
    · rw [if_pos c2] at e3
      injection e3 with e3
      injection e3 with _ e3
      refine Or.inr ?_
      rw [← e3, gI_pI, if_pos rfl]
      exact c2
    · rw [if_neg c2] at e3
      exact hb _ _ _ e3
theorem mz_lift (σ : S5) : Kd MZs (f_X2_lift σ) := by
  have h33 : ∀ s, Kd MZs (f_X2_lift_b33 s) := fun s => by
    unfold f_X2_lift_b33
    exact kd_ite2 (fun _ => kd_bd (mz_main s) (fun _ τ q => kmz_f_X2_lift_b44 τ q)) (fun c => kmz_f_X2_lift_b44 s (Or.inl c))
  unfold f_X2_lift
  exact kd_any (fun _ _ => kd_any (fun _ _ => kd_ite (kd_any (fun _ _ => kd_any (fun _ _ => h33 _))) (h33 _)))
