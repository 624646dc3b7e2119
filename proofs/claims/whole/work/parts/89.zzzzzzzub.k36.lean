/-- the needs of the lifted lets are empty -/
def N6 (μ : S5) : Prop := ∀ x, x < (gI μ 26).toNatClampNeg → gA μ 36 x = 0
theorem N6_of {σ τ : S5} (h : N6 σ) (h1 : gI τ 26 = gI σ 26) (h2 : gA τ 36 = gA σ 36) : N6 τ := fun x hx => by
  rw [h1] at hx
  rw [h2]
  exact h x hx
theorem N6_pI (σ : S5) (k : Nat) (v : Int32) (hk : ¬ 26 = k) (h : N6 σ) : N6 (pI σ k v) := N6_of h (by rw [gI_pI, if_neg hk]) rfl
theorem N6_pJ {σ : S5} {k : Nat} {v : Int64} (h : N6 σ) : N6 (pJ σ k v) := N6_of h rfl rfl
theorem N6_pA (σ : S5) (k : Nat) (i v : Int32) (hk : ¬ 36 = k) (h : N6 σ) : N6 (pA σ k i v) := N6_of h rfl (gA_ne _ _ _ hk)
theorem N6_pB {σ : S5} {k : Nat} {i : Int32} {v : Int64} (h : N6 σ) : N6 (pB σ k i v) := N6_of h rfl rfl
theorem kd_g7 {α : Type} {P : S5 → Prop} {i : Int32} {x : Option (α × S5)} (hx : 0 ≤ i → i < 7000 → Kd P x) : Kd P (gd i 7000 x) := fun r τ e => by
  obtain ⟨h1, h2⟩ := gd_some e
  have h0 : ¬ i < 0 := fun w => h1 (Or.inl w)
  have h7 : ¬ 7000 ≤ i.toNatClampNeg := fun w => h1 (Or.inr w)
  refine hx (i_le0 h0) ?_ r τ h2
  have hs := nI_tn (i_le0 h0)
  rw [hs]
  exact (nI_lt31 (b := 7000) (by omega) (by omega)).mpr (by omega)
theorem N6_new (σ : S5) (a1 a2 a3 : Int32) (h : N6 σ) (h0 : 0 ≤ gI σ 26) (h7 : gI σ 26 < 7000) : N6 (pI (pI (pA (pA (pA (pA (pA (pA (pI σ 26 ((gI σ 26) + 1)) 31 (gI σ 26) a1) 32 (gI σ 26) a2) 33 (gI σ 26) (gI σ 27)) 34 (gI σ 26) a3) 35 (gI σ 26) 0) 36 (gI σ 26) (vp_nar .boolean 0)) 27 ((gI σ 27) + a3)) 28 ((gI σ 28) - a3)) := by
  refine N6_pI _ _ _ (by decide) (N6_pI _ _ _ (by decide) ?_)
  intro x hx
  have hx' : x < (gI σ 26 + 1).toNatClampNeg := hx
  rw [tn_s h0 h7] at hx'
  rw [gA_pA]
  by_cases hc : x = (gI σ 26).toNatClampNeg
  · rw [if_pos ⟨rfl, hc⟩]
    decide
  · rw [if_neg (fun z => hc z.2), gA_ne _ _ _ (by decide), gA_ne _ _ _ (by decide), gA_ne _ _ _ (by decide), gA_ne _ _ _ (by decide), gA_ne _ _ _ (by decide)]
    exact h x (by omega)
theorem k6_f_X12_fail (a1 : Int32) (a2 : Int32) (σ : S5) (h : N6 σ) : Kd N6 (f_X12_fail a1 a2 σ) := by
  unfold f_X12_fail
  repeat' first
    | assumption
    | with_reducible exact kd_none
    | with_reducible apply kd_some
    | with_reducible apply kd_ite
    | with_reducible apply kd_bd
    | with_reducible apply N6_pI _ _ _ (by decide)
    | intro _ _ _
theorem k6_f_X12_childAt_b193 (v3 : Int32) (σ : S5) (h : N6 σ) : Kd N6 (f_X12_childAt_b193 v3 σ) := by
  unfold f_X12_childAt_b193
  repeat' first
    | assumption
    | with_reducible exact kd_none
    | with_reducible apply kd_some
    | with_reducible apply kd_ite
    | with_reducible apply kd_bd
    | intro _ _ _
theorem k6_f_X12_childAt_b109 (v1 : Int32) (v3 : Int32) (u0 : Int32) (σ : S5) (h : N6 σ) : Kd N6 (f_X12_childAt_b109 v1 v3 u0 σ) := by
  unfold f_X12_childAt_b109
  repeat' first
    | assumption
    | with_reducible exact kd_none
    | with_reducible apply kd_some
    | with_reducible apply kd_ite
    | with_reducible apply kd_gd
    | with_reducible apply kd_bd
    | intro _ _ _
theorem k6_f_X12_childAt_b108 (v1 : Int32) (v3 : Int32) (σ : S5) (h : N6 σ) : Kd N6 (f_X12_childAt_b108 v1 v3 σ) := by
  unfold f_X12_childAt_b108
  repeat' first
    | assumption
    | with_reducible exact kd_none
    | with_reducible apply kd_some
    | with_reducible apply kd_ite
    | with_reducible apply kd_bd
    | with_reducible apply k6_f_X12_childAt_b109
    | intro _ _ _
theorem k6_f_X12_childAt (a1 : Int32) (a2 : Int32) (a3 : Int32) (σ : S5) (h : N6 σ) : Kd N6 (f_X12_childAt a1 a2 a3 σ) := by
  unfold f_X12_childAt
  repeat' first
    | assumption
    | with_reducible exact kd_none
    | with_reducible apply kd_some
    | with_reducible apply kd_ite
    | with_reducible apply kd_gd
    | with_reducible apply kd_bd
    | with_reducible apply k6_f_X12_childAt_b193
    | with_reducible apply k6_f_X12_childAt_b109
    | with_reducible apply k6_f_X12_childAt_b108
    | intro _ _ _
theorem k6_f_X12_hasRow_b21  (σ : S5) (h : N6 σ) : Kd N6 (f_X12_hasRow_b21  σ) := by
  unfold f_X12_hasRow_b21
  repeat' first
    | assumption
    | with_reducible exact kd_none
    | with_reducible apply kd_some
    | with_reducible apply kd_ite
    | with_reducible apply kd_bd
    | intro _ _ _
theorem k6_f_X12_hasRow (a0 : Int32) (σ : S5) (h : N6 σ) : Kd N6 (f_X12_hasRow a0 σ) := by
  unfold f_X12_hasRow
  repeat' first
    | assumption
    | with_reducible exact kd_none
    | with_reducible apply kd_some
    | with_reducible apply kd_ite
    | with_reducible apply kd_bd
    | with_reducible apply k6_f_X12_hasRow_b21
    | intro _ _ _
theorem k6_f_X12_nextChild_b102 (v1 : Int32) (v2 : Int32) (v4 : Int32) (v5 : Int32) (v6 : Int32) (u0 : Int32) (u1 : Int32) (σ : S5) (h : N6 σ) : Kd N6 (f_X12_nextChild_b102 v1 v2 v4 v5 v6 u0 u1 σ) := by
  unfold f_X12_nextChild_b102
  repeat' first
    | assumption
    | with_reducible exact kd_none
    | with_reducible apply kd_some
    | with_reducible apply kd_ite
    | with_reducible apply kd_gd
    | with_reducible apply kd_bd
    | with_reducible apply N6_pA _ _ _ _ (by decide)
    | with_reducible apply k6_f_X12_hasRow
    | intro _ _ _
theorem k6_f_X12_nextChild_b99 (v1 : Int32) (v2 : Int32) (v3 : Int32) (v4 : Int32) (v5 : Int32) (v6 : Int32) (u0 : Int32) (σ : S5) (h : N6 σ) : Kd N6 (f_X12_nextChild_b99 v1 v2 v3 v4 v5 v6 u0 σ) := by
  unfold f_X12_nextChild_b99
  repeat' first
    | assumption
    | with_reducible exact kd_none
    | with_reducible apply kd_some
    | with_reducible apply kd_ite
    | with_reducible apply kd_bd
    | with_reducible apply k6_f_X12_nextChild_b102
    | intro _ _ _
theorem k6_f_X12_nextChild_b73 (v1 : Int32) (v2 : Int32) (v3 : Int32) (v4 : Int32) (v5 : Int32) (u0 : Int32) (σ : S5) (h : N6 σ) : Kd N6 (f_X12_nextChild_b73 v1 v2 v3 v4 v5 u0 σ) := by
  unfold f_X12_nextChild_b73
  repeat' first
    | assumption
    | with_reducible exact kd_none
    | with_reducible apply kd_some
    | with_reducible apply kd_ite
    | with_reducible apply kd_gd
    | with_reducible apply kd_bd
    | with_reducible apply k6_f_X12_nextChild_b102
    | with_reducible apply k6_f_X12_nextChild_b99
    | intro _ _ _
theorem k6_f_X12_nextChild_b72 (v1 : Int32) (v2 : Int32) (v3 : Int32) (v4 : Int32) (v5 : Int32) (σ : S5) (h : N6 σ) : Kd N6 (f_X12_nextChild_b72 v1 v2 v3 v4 v5 σ) := by
  unfold f_X12_nextChild_b72
  repeat' first
    | assumption
    | with_reducible exact kd_none
    | with_reducible apply kd_some
    | with_reducible apply kd_ite
    | with_reducible apply kd_bd
    | with_reducible apply k6_f_X12_nextChild_b73
    | intro _ _ _
theorem k6_f_X12_nextChild (a1 : Int32) (σ : S5) (h : N6 σ) : Kd N6 (f_X12_nextChild a1 σ) := by
  unfold f_X12_nextChild
  repeat' first
    | assumption
    | with_reducible exact kd_none
    | with_reducible apply kd_some
    | with_reducible apply kd_ite
    | with_reducible apply kd_gd
    | with_reducible apply kd_bd
    | with_reducible apply k6_f_X12_childAt
    | with_reducible apply k6_f_X12_nextChild_b73
    | with_reducible apply k6_f_X12_nextChild_b72
    | intro _ _ _
theorem k6_f_X12_beginAt_b41 (u0 : Int32) (u1 : Int32) (σ : S5) (h : N6 σ) : Kd N6 (f_X12_beginAt_b41 u0 u1 σ) := by
  unfold f_X12_beginAt_b41
  repeat' first
    | assumption
    | with_reducible exact kd_none
    | with_reducible apply kd_some
    | with_reducible apply kd_ite
    | with_reducible apply kd_gd
    | with_reducible apply kd_bd
    | with_reducible apply N6_pA _ _ _ _ (by decide)
    | intro _ _ _
theorem k6_f_X12_beginAt (a1 : Int32) (a2 : Int32) (σ : S5) (h : N6 σ) : Kd N6 (f_X12_beginAt a1 a2 σ) := by
  unfold f_X12_beginAt
  repeat' first
    | assumption
    | with_reducible exact kd_none
    | with_reducible apply kd_some
    | with_reducible apply kd_ite
    | with_reducible apply kd_gd
    | with_reducible apply kd_bd
    | with_reducible apply N6_pA _ _ _ _ (by decide)
    | with_reducible apply k6_f_X12_hasRow
    | with_reducible apply k6_f_X12_beginAt_b41
    | intro _ _ _
theorem k6_f_X12_lift_b169 (rec108 : Int32 → Int32 → Int32 → Int64 → Int32 → S5 → Option (Int32 × S5)) (hrec108 : ∀ v0 v1 v2 v3 v4 (σ : S5), N6 σ → Kd N6 (rec108 v0 v1 v2 v3 v4 σ)) (v3 : Int32) (v4 : Int32) (v6 : Int64) (v8 : Int32) (v9 : Int32) (u0 : Int32) (σ : S5) (h : N6 σ) : Kd N6 (f_X12_lift_b169 rec108 v3 v4 v6 v8 v9 u0 σ) := by
  unfold f_X12_lift_b169
  repeat' first
    | assumption
    | with_reducible exact kd_none
    | with_reducible apply kd_some
    | with_reducible apply kd_ite
    | with_reducible apply kd_gd
    | with_reducible apply kd_bd
    | with_reducible apply hrec108
    | intro _ _ _
theorem k6_f_X12_lift_B108 (rec108 : Int32 → Int32 → Int32 → Int64 → Int32 → S5 → Option (Int32 × S5)) (hrec108 : ∀ v0 v1 v2 v3 v4 (σ : S5), N6 σ → Kd N6 (rec108 v0 v1 v2 v3 v4 σ)) (v3 : Int32) (v4 : Int32) (v5 : Int32) (v6 : Int64) (v8 : Int32) (σ : S5) (h : N6 σ) : Kd N6 (f_X12_lift_B108 rec108 v3 v4 v5 v6 v8 σ) := by
  unfold f_X12_lift_B108
  repeat' first
    | assumption
    | with_reducible exact kd_none
    | with_reducible apply kd_some
    | with_reducible apply kd_ite
    | with_reducible apply kd_gd
    | with_reducible apply kd_bd
    | with_reducible apply N6_pI _ _ _ (by decide)
    | with_reducible apply N6_pA _ _ _ _ (by decide)
    | with_reducible apply N6_pB
    | with_reducible apply k6_f_X12_lift_b169
    | with_reducible apply hrec108
    | intro _ _ _
theorem k6_f_X12_lift_L108 : ∀ (n : Nat) v0 v1 v2 v3 v4 (σ : S5), N6 σ → Kd N6 (f_X12_lift_L108 n v0 v1 v2 v3 v4 σ)
  | 0, _, _, _, _, _, _, _ => kd_none
  | n + 1, v0, v1, v2, v3, v4, σ, h => by
    unfold f_X12_lift_L108
    exact k6_f_X12_lift_B108 _ (k6_f_X12_lift_L108 n) v0 v1 v2 v3 v4 σ h
theorem k6_f_X12_lift_b103 (v3 : Int32) (v4 : Int32) (v5 : Int32) (u0 : Int64) (σ : S5) (h : N6 σ) : Kd N6 (f_X12_lift_b103 v3 v4 v5 u0 σ) := by
  unfold f_X12_lift_b103
  repeat' first
    | assumption
    | with_reducible exact kd_none
    | with_reducible apply kd_some
    | with_reducible apply kd_ite
    | with_reducible apply kd_bd
    | with_reducible apply k6_f_X12_lift_L108
    | intro _ _ _
theorem k6_f_X12_lift (a1 a2 a3 : Int32) (σ : S5) (h : N6 σ) : Kd N6 (f_X12_lift a1 a2 a3 σ) := by
  unfold f_X12_lift
  refine kd_g7 (fun h0 h7 => ?_)
  have hn : N6 (pI (pI (pA (pA (pA (pA (pA (pA (pI σ 26 ((gI σ 26) + 1)) 31 (gI σ 26) a1) 32 (gI σ 26) a2) 33 (gI σ 26) (gI σ 27)) 34 (gI σ 26) a3) 35 (gI σ 26) 0) 36 (gI σ 26) (vp_nar .boolean 0)) 27 ((gI σ 27) + a3)) 28 ((gI σ 28) - a3)) := N6_new _ _ _ _ h h0 h7
  exact kd_gd (kd_gd (kd_gd (kd_gd (kd_gd (kd_ite (k6_f_X12_lift_b103 _ _ _ _ _ hn) (k6_f_X12_lift_b103 _ _ _ _ _ hn))))))
theorem k6_f_X12_child (a1 : Int32) (a2 : Int32) (σ : S5) (h : N6 σ) : Kd N6 (f_X12_child a1 a2 σ) := by
  unfold f_X12_child
  repeat' first
    | assumption
    | with_reducible exact kd_none
    | with_reducible apply kd_some
    | with_reducible apply kd_ite
    | with_reducible apply kd_gd
    | with_reducible apply kd_bd
    | intro _ _ _
theorem k6_f_X12_local_B26 (rec26 : Int32 → Int32 → Int32 → S5 → Option (Int32 × S5)) (hrec26 : ∀ v0 v1 v2 (σ : S5), N6 σ → Kd N6 (rec26 v0 v1 v2 σ)) (v1 : Int32) (v2 : Int32) (v3 : Int32) (σ : S5) (h : N6 σ) : Kd N6 (f_X12_local_B26 rec26 v1 v2 v3 σ) := by
  unfold f_X12_local_B26
  repeat' first
    | assumption
    | with_reducible exact kd_none
    | with_reducible apply kd_some
    | with_reducible apply kd_ite
    | with_reducible apply kd_gd
    | with_reducible apply kd_bd
    | with_reducible apply hrec26
    | intro _ _ _
theorem k6_f_X12_local_L26 : ∀ (n : Nat) v0 v1 v2 (σ : S5), N6 σ → Kd N6 (f_X12_local_L26 n v0 v1 v2 σ)
  | 0, _, _, _, _, _ => kd_none
  | n + 1, v0, v1, v2, σ, h => by
    unfold f_X12_local_L26
    exact k6_f_X12_local_B26 _ (k6_f_X12_local_L26 n) v0 v1 v2 σ h
theorem k6_f_X12_local (a1 : Int32) (a2 : Int32) (σ : S5) (h : N6 σ) : Kd N6 (f_X12_local a1 a2 σ) := by
  unfold f_X12_local
  repeat' first
    | assumption
    | with_reducible exact kd_none
    | with_reducible apply kd_some
    | with_reducible apply kd_ite
    | with_reducible apply kd_gd
    | with_reducible apply kd_bd
    | with_reducible apply k6_f_X12_local_L26
    | intro _ _ _
theorem k6_f_X12_liftFunction_B11 (rec11 : Int32 → Int32 → Int32 → S5 → Option (Unit × S5)) (hrec11 : ∀ v0 v1 v2 (σ : S5), N6 σ → Kd N6 (rec11 v0 v1 v2 σ)) (v1 : Int32) (v2 : Int32) (v3 : Int32) (σ : S5) (h : N6 σ) : Kd N6 (f_X12_liftFunction_B11 rec11 v1 v2 v3 σ) := by
  unfold f_X12_liftFunction_B11
  repeat' first
    | assumption
    | with_reducible exact kd_none
    | with_reducible apply kd_some
    | with_reducible apply kd_ite
    | with_reducible apply kd_gd
    | with_reducible apply kd_bd
    | with_reducible apply k6_f_X12_lift
    | with_reducible apply k6_f_X12_local
    | with_reducible apply hrec11
    | intro _ _ _
theorem k6_f_X12_liftFunction_L11 : ∀ (n : Nat) v0 v1 v2 (σ : S5), N6 σ → Kd N6 (f_X12_liftFunction_L11 n v0 v1 v2 σ)
  | 0, _, _, _, _, _ => kd_none
  | n + 1, v0, v1, v2, σ, h => by
    unfold f_X12_liftFunction_L11
    exact k6_f_X12_liftFunction_B11 _ (k6_f_X12_liftFunction_L11 n) v0 v1 v2 σ h
theorem k6_f_X12_liftFunction (a1 : Int32) (a2 : Int32) (σ : S5) (h : N6 σ) : Kd N6 (f_X12_liftFunction a1 a2 σ) := by
  unfold f_X12_liftFunction
  repeat' first
    | assumption
    | with_reducible exact kd_none
    | with_reducible apply kd_some
    | with_reducible apply kd_ite
    | with_reducible apply kd_bd
    | with_reducible apply k6_f_X12_lift
    | with_reducible apply k6_f_X12_liftFunction_L11
    | intro _ _ _
theorem k6_f_X12_rowCount_B9 (rec9 : Int32 → Int32 → S5 → Option (Int32 × S5)) (hrec9 : ∀ v0 v1 (σ : S5), N6 σ → Kd N6 (rec9 v0 v1 σ)) (v2 : Int32) (v3 : Int32) (σ : S5) (h : N6 σ) : Kd N6 (f_X12_rowCount_B9 rec9 v2 v3 σ) := by
  unfold f_X12_rowCount_B9
  repeat' first
    | assumption
    | with_reducible exact kd_none
    | with_reducible apply kd_some
    | with_reducible apply kd_ite
    | with_reducible apply kd_gd
    | with_reducible apply kd_bd
    | with_reducible apply hrec9
    | intro _ _ _
theorem k6_f_X12_rowCount_L9 : ∀ (n : Nat) v0 v1 (σ : S5), N6 σ → Kd N6 (f_X12_rowCount_L9 n v0 v1 σ)
  | 0, _, _, _, _ => kd_none
  | n + 1, v0, v1, σ, h => by
    unfold f_X12_rowCount_L9
    exact k6_f_X12_rowCount_B9 _ (k6_f_X12_rowCount_L9 n) v0 v1 σ h
theorem k6_f_X12_rowCount (a1 : Int32) (σ : S5) (h : N6 σ) : Kd N6 (f_X12_rowCount a1 σ) := by
  unfold f_X12_rowCount
  repeat' first
    | assumption
    | with_reducible exact kd_none
    | with_reducible apply kd_some
    | with_reducible apply kd_ite
    | with_reducible apply kd_gd
    | with_reducible apply kd_bd
    | with_reducible apply k6_f_X12_rowCount_L9
    | intro _ _ _
theorem k6_f_X12_bits (a0 : Int32) (a1 : Int32) (σ : S5) (h : N6 σ) : Kd N6 (f_X12_bits a0 a1 σ) := by
  unfold f_X12_bits
  repeat' first
    | assumption
    | with_reducible exact kd_none
    | with_reducible apply kd_some
    | with_reducible apply kd_ite
    | with_reducible apply kd_bd
    | intro _ _ _
theorem k6_f_X12_closePart_b271 (rec178 : Int32 → Int32 → Int32 → Int32 → S5 → Option (Unit × S5)) (hrec178 : ∀ v0 v1 v2 v3 (σ : S5), N6 σ → Kd N6 (rec178 v0 v1 v2 v3 σ)) (v1 : Int32) (v4 : Int32) (v5 : Int32) (v6 : Int32) (v7 : Int32) (u0 : Int32) (u1 : Int32) (σ : S5) (h : N6 σ) : Kd N6 (f_X12_closePart_b271 rec178 v1 v4 v5 v6 v7 u0 u1 σ) := by
  unfold f_X12_closePart_b271
  repeat' first
    | assumption
    | with_reducible exact kd_none
    | with_reducible apply kd_some
    | with_reducible apply kd_ite
    | with_reducible apply kd_gd
    | with_reducible apply kd_bd
    | with_reducible apply N6_pA _ _ _ _ (by decide)
    | with_reducible apply N6_pB
    | with_reducible apply k6_f_X12_child
    | with_reducible apply k6_f_X12_bits
    | with_reducible apply hrec178
    | intro _ _ _
theorem k6_f_X12_closePart_B178 (rec178 : Int32 → Int32 → Int32 → Int32 → S5 → Option (Unit × S5)) (hrec178 : ∀ v0 v1 v2 v3 (σ : S5), N6 σ → Kd N6 (rec178 v0 v1 v2 v3 σ)) (v1 : Int32) (v4 : Int32) (v5 : Int32) (v6 : Int32) (σ : S5) (h : N6 σ) : Kd N6 (f_X12_closePart_B178 rec178 v1 v4 v5 v6 σ) := by
  unfold f_X12_closePart_B178
  repeat' first
    | assumption
    | with_reducible exact kd_none
    | with_reducible apply kd_some
    | with_reducible apply kd_ite
    | with_reducible apply kd_gd
    | with_reducible apply kd_bd
    | with_reducible apply N6_pA _ _ _ _ (by decide)
    | with_reducible apply k6_f_X12_local
    | with_reducible apply k6_f_X12_closePart_b271
    | with_reducible apply hrec178
    | intro _ _ _
theorem k6_f_X12_closePart_L178 : ∀ (n : Nat) v0 v1 v2 v3 (σ : S5), N6 σ → Kd N6 (f_X12_closePart_L178 n v0 v1 v2 v3 σ)
  | 0, _, _, _, _, _, _ => kd_none
  | n + 1, v0, v1, v2, v3, σ, h => by
    unfold f_X12_closePart_L178
    exact k6_f_X12_closePart_B178 _ (k6_f_X12_closePart_L178 n) v0 v1 v2 v3 σ h
theorem k6_f_X12_closePart (a1 : Int32) (a2 : Int32) (σ : S5) (h : N6 σ) : Kd N6 (f_X12_closePart a1 a2 σ) := by
  unfold f_X12_closePart
  repeat' first
    | assumption
    | with_reducible exact kd_none
    | with_reducible apply kd_some
    | with_reducible apply kd_ite
    | with_reducible apply kd_gd
    | with_reducible apply kd_bd
    | with_reducible apply N6_pA _ _ _ _ (by decide)
    | with_reducible apply N6_pB
    | with_reducible apply k6_f_X12_lift
    | with_reducible apply k6_f_X12_child
    | with_reducible apply k6_f_X12_local
    | with_reducible apply k6_f_X12_rowCount
    | with_reducible apply k6_f_X12_bits
    | with_reducible apply k6_f_X12_closePart_L178
    | intro _ _ _
theorem k6_f_X12_liftAll_b248 (v1 : Int32) (σ : S5) (h : N6 σ) : Kd N6 (f_X12_liftAll_b248 v1 σ) := by
  unfold f_X12_liftAll_b248
  repeat' first
    | assumption
    | with_reducible exact kd_none
    | with_reducible apply kd_some
    | with_reducible apply kd_ite
    | with_reducible apply kd_gd
    | with_reducible apply kd_bd
    | with_reducible apply k6_f_X12_fail
    | intro _ _ _
theorem k6_f_X12_liftAll_B198 (rec17 : Int32 → S5 → Option (Unit × S5)) (hrec17 : ∀ v0 (σ : S5), N6 σ → Kd N6 (rec17 v0 σ)) (rec198 : Int32 → Int32 → S5 → Option (Unit × S5)) (hrec198 : ∀ v0 v1 (σ : S5), N6 σ → Kd N6 (rec198 v0 v1 σ)) (v1 : Int32) (v4 : Int32) (σ : S5) (h : N6 σ) : Kd N6 (f_X12_liftAll_B198 rec17 rec198 v1 v4 σ) := by
  unfold f_X12_liftAll_B198
  repeat' first
    | assumption
    | with_reducible exact kd_none
    | with_reducible apply kd_some
    | with_reducible apply kd_ite
    | with_reducible apply kd_gd
    | with_reducible apply kd_bd
    | with_reducible apply N6_pA _ _ _ _ (by decide)
    | with_reducible apply k6_f_X12_liftAll_b248
    | with_reducible apply hrec17
    | with_reducible apply hrec198
    | intro _ _ _
theorem k6_f_X12_liftAll_L198 (rec17 : Int32 → S5 → Option (Unit × S5)) (hrec17 : ∀ v0 (σ : S5), N6 σ → Kd N6 (rec17 v0 σ)) : ∀ (n : Nat) v0 v1 (σ : S5), N6 σ → Kd N6 (f_X12_liftAll_L198 rec17 n v0 v1 σ)
  | 0, _, _, _, _ => kd_none
  | n + 1, v0, v1, σ, h => by
    unfold f_X12_liftAll_L198
    exact k6_f_X12_liftAll_B198 rec17 hrec17 _ (k6_f_X12_liftAll_L198 rec17 hrec17 n) v0 v1 σ h
theorem k6_f_X12_liftAll_b162 (rec17 : Int32 → S5 → Option (Unit × S5)) (hrec17 : ∀ v0 (σ : S5), N6 σ → Kd N6 (rec17 v0 σ)) (rec88 : Int32 → Int32 → S5 → Option (Unit × S5)) (hrec88 : ∀ v0 v1 (σ : S5), N6 σ → Kd N6 (rec88 v0 v1 σ)) (v1 : Int32) (v3 : Int32) (σ : S5) (h : N6 σ) : Kd N6 (f_X12_liftAll_b162 rec17 rec88 v1 v3 σ) := by
  unfold f_X12_liftAll_b162
  repeat' first
    | assumption
    | with_reducible exact kd_none
    | with_reducible apply kd_some
    | with_reducible apply kd_ite
    | with_reducible apply kd_bd
    | with_reducible apply hrec17
    | with_reducible apply hrec88
    | intro _ _ _
theorem k6_f_X12_liftAll_B88 (rec17 : Int32 → S5 → Option (Unit × S5)) (hrec17 : ∀ v0 (σ : S5), N6 σ → Kd N6 (rec17 v0 σ)) (rec88 : Int32 → Int32 → S5 → Option (Unit × S5)) (hrec88 : ∀ v0 v1 (σ : S5), N6 σ → Kd N6 (rec88 v0 v1 σ)) (v1 : Int32) (v3 : Int32) (σ : S5) (h : N6 σ) : Kd N6 (f_X12_liftAll_B88 rec17 rec88 v1 v3 σ) := by
  unfold f_X12_liftAll_B88
  repeat' first
    | assumption
    | with_reducible exact kd_none
    | with_reducible apply kd_some
    | with_reducible apply kd_ite
    | with_reducible apply kd_gd
    | with_reducible apply kd_bd
    | with_reducible apply N6_pI _ _ _ (by decide)
    | with_reducible apply N6_pA _ _ _ _ (by decide)
    | with_reducible apply k6_f_X12_nextChild
    | with_reducible apply k6_f_X12_beginAt
    | with_reducible apply k6_f_X12_liftFunction
    | with_reducible apply k6_f_X12_closePart
    | with_reducible apply k6_f_X12_liftAll_L198
    | with_reducible apply k6_f_X12_liftAll_b162
    | with_reducible apply hrec17
    | with_reducible apply hrec88
    | intro _ _ _
theorem k6_f_X12_liftAll_L88 (rec17 : Int32 → S5 → Option (Unit × S5)) (hrec17 : ∀ v0 (σ : S5), N6 σ → Kd N6 (rec17 v0 σ)) : ∀ (n : Nat) v0 v1 (σ : S5), N6 σ → Kd N6 (f_X12_liftAll_L88 rec17 n v0 v1 σ)
  | 0, _, _, _, _ => kd_none
  | n + 1, v0, v1, σ, h => by
    unfold f_X12_liftAll_L88
    exact k6_f_X12_liftAll_B88 rec17 hrec17 _ (k6_f_X12_liftAll_L88 rec17 hrec17 n) v0 v1 σ h
theorem k6_f_X12_liftAll_B17 (rec17 : Int32 → S5 → Option (Unit × S5)) (hrec17 : ∀ v0 (σ : S5), N6 σ → Kd N6 (rec17 v0 σ)) (v1 : Int32) (σ : S5) (h : N6 σ) : Kd N6 (f_X12_liftAll_B17 rec17 v1 σ) := by
  unfold f_X12_liftAll_B17
  repeat' first
    | assumption
    | with_reducible exact kd_none
    | with_reducible apply kd_some
    | with_reducible apply kd_ite
    | with_reducible apply kd_gd
    | with_reducible apply kd_bd
    | with_reducible apply N6_pA _ _ _ _ (by decide)
    | with_reducible apply k6_f_X12_beginAt
    | with_reducible apply k6_f_X12_liftAll_L88
    | with_reducible apply hrec17
    | intro _ _ _
theorem k6_f_X12_liftAll_L17 : ∀ (n : Nat) v0 (σ : S5), N6 σ → Kd N6 (f_X12_liftAll_L17 n v0 σ)
  | 0, _, _, _ => kd_none
  | n + 1, v0, σ, h => by
    unfold f_X12_liftAll_L17
    exact k6_f_X12_liftAll_B17 _ (k6_f_X12_liftAll_L17 n) v0 σ h
theorem k6_f_X12_liftAll (σ : S5) : Kd N6 (f_X12_liftAll σ) := by
  unfold f_X12_liftAll
  exact k6_f_X12_liftAll_L17 _ _ _ (N6_pI _ _ _ (by decide) (N6_pI _ _ _ (by decide) (fun x hx => absurd hx (by rw [gI_pI, if_pos rfl]; exact Nat.not_lt_zero _))))
