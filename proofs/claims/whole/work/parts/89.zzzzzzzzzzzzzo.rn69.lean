/-- the first two constructors have no fields -/
def Cz2 (σ : S5) : Prop := 2 ≤ gI σ 4 ∧ gA σ 2 0 = 0 ∧ gA σ 2 1 = 0
theorem Cz2_pI (σ : S5) (k : Nat) (v : Int32) (hk : ¬ 4 = k) (h : Cz2 σ) : Cz2 (pI σ k v) := by
  unfold Cz2
  rw [gI_pI, if_neg hk]
  exact h
theorem Cz2_pJ {σ : S5} {k : Nat} {v : Int64} (h : Cz2 σ) : Cz2 (pJ σ k v) := h
theorem Cz2_pN {σ : S5} {k v : Nat} (h : Cz2 σ) : Cz2 (pN σ k v) := h
theorem Cz2_pA (σ : S5) (k : Nat) (i v : Int32) (hk : ¬ 2 = k) (h : Cz2 σ) : Cz2 (pA σ k i v) := ⟨h.1, by rw [gA_pA_ne hk]; exact h.2.1, by rw [gA_pA_ne hk]; exact h.2.2⟩
theorem Cz2_pB {σ : S5} {k : Nat} {i : Int32} {v : Int64} (h : Cz2 σ) : Cz2 (pB σ k i v) := h
theorem kcz_f_X8_clear_text  (σ : S5) (h : Cz2 σ) : Kd Cz2 (f_X8_clear_text  σ) := by
  unfold f_X8_clear_text
  repeat' first
    | assumption
    | with_reducible exact kd_none
    | with_reducible apply kd_some
    | with_reducible apply kd_ite
    | with_reducible apply kd_bd
    | with_reducible apply Cz2_pI _ _ _ (by decide)
    | intro _ _ _
theorem kcz_f_X8_add_text (a1 : Int32) (σ : S5) (h : Cz2 σ) : Kd Cz2 (f_X8_add_text a1 σ) := by
  unfold f_X8_add_text
  repeat' first
    | assumption
    | with_reducible exact kd_none
    | with_reducible apply kd_some
    | with_reducible apply kd_ite
    | with_reducible apply kd_gd
    | with_reducible apply kd_bd
    | with_reducible apply Cz2_pI _ _ _ (by decide)
    | with_reducible apply Cz2_pA _ _ _ _ (by decide)
    | intro _ _ _
theorem kcz_f_X8_clear_draft  (σ : S5) (h : Cz2 σ) : Kd Cz2 (f_X8_clear_draft  σ) := by
  unfold f_X8_clear_draft
  repeat' first
    | assumption
    | with_reducible exact kd_none
    | with_reducible apply kd_some
    | with_reducible apply kd_ite
    | with_reducible apply kd_bd
    | with_reducible apply Cz2_pI _ _ _ (by decide)
    | intro _ _ _
theorem kcz_f_X8_add_draft (a1 : Int32) (σ : S5) (h : Cz2 σ) : Kd Cz2 (f_X8_add_draft a1 σ) := by
  unfold f_X8_add_draft
  repeat' first
    | assumption
    | with_reducible exact kd_none
    | with_reducible apply kd_some
    | with_reducible apply kd_ite
    | with_reducible apply kd_gd
    | with_reducible apply kd_bd
    | with_reducible apply Cz2_pI _ _ _ (by decide)
    | with_reducible apply Cz2_pA _ _ _ _ (by decide)
    | intro _ _ _
theorem kcz_f_X8_addNumber_draft_B29 (rec29 : Int32 → Int32 → S5 → Option (Unit × S5)) (hrec29 : ∀ v0 v1 (σ : S5), Cz2 σ → Kd Cz2 (rec29 v0 v1 σ)) (v1 : Int32) (v2 : Int32) (σ : S5) (h : Cz2 σ) : Kd Cz2 (f_X8_addNumber_draft_B29 rec29 v1 v2 σ) := by
  unfold f_X8_addNumber_draft_B29
  repeat' first
    | assumption
    | with_reducible exact kd_none
    | with_reducible apply kd_some
    | with_reducible apply kd_ite
    | with_reducible apply kd_gz
    | with_reducible apply kd_bd
    | with_reducible apply kcz_f_X8_add_draft
    | with_reducible apply hrec29
    | intro _ _ _
theorem kcz_f_X8_addNumber_draft_L29 : ∀ (n : Nat) v0 v1 (σ : S5), Cz2 σ → Kd Cz2 (f_X8_addNumber_draft_L29 n v0 v1 σ)
  | 0, _, _, _, _ => kd_none
  | n + 1, v0, v1, σ, h => by
    unfold f_X8_addNumber_draft_L29
    exact kcz_f_X8_addNumber_draft_B29 _ (kcz_f_X8_addNumber_draft_L29 n) v0 v1 σ h
theorem kcz_f_X8_addNumber_draft_B4 (rec4 : Int32 → Int32 → Int32 → S5 → Option (Unit × S5)) (hrec4 : ∀ v0 v1 v2 (σ : S5), Cz2 σ → Kd Cz2 (rec4 v0 v1 v2 σ)) (v1 : Int32) (v2 : Int32) (v3 : Int32) (σ : S5) (h : Cz2 σ) : Kd Cz2 (f_X8_addNumber_draft_B4 rec4 v1 v2 v3 σ) := by
  unfold f_X8_addNumber_draft_B4
  repeat' first
    | assumption
    | with_reducible exact kd_none
    | with_reducible apply kd_some
    | with_reducible apply kd_ite
    | with_reducible apply kd_gz
    | with_reducible apply kd_bd
    | with_reducible apply kcz_f_X8_addNumber_draft_L29
    | with_reducible apply hrec4
    | intro _ _ _
theorem kcz_f_X8_addNumber_draft_L4 : ∀ (n : Nat) v0 v1 v2 (σ : S5), Cz2 σ → Kd Cz2 (f_X8_addNumber_draft_L4 n v0 v1 v2 σ)
  | 0, _, _, _, _, _ => kd_none
  | n + 1, v0, v1, v2, σ, h => by
    unfold f_X8_addNumber_draft_L4
    exact kcz_f_X8_addNumber_draft_B4 _ (kcz_f_X8_addNumber_draft_L4 n) v0 v1 v2 σ h
theorem kcz_f_X8_addNumber_draft (a1 : Int32) (σ : S5) (h : Cz2 σ) : Kd Cz2 (f_X8_addNumber_draft a1 σ) := by
  unfold f_X8_addNumber_draft
  repeat' first
    | assumption
    | with_reducible exact kd_none
    | with_reducible apply kd_some
    | with_reducible apply kd_ite
    | with_reducible apply kd_bd
    | with_reducible apply kcz_f_X8_addNumber_draft_L4
    | intro _ _ _
theorem kcz_f_X8_addName_draft_b28 (rec3 : Int64 → Int32 → S5 → Option (Unit × S5)) (hrec3 : ∀ v0 v1 (σ : S5), Cz2 σ → Kd Cz2 (rec3 v0 v1 σ)) (v1 : Int64) (v3 : Int32) (σ : S5) (h : Cz2 σ) : Kd Cz2 (f_X8_addName_draft_b28 rec3 v1 v3 σ) := by
  unfold f_X8_addName_draft_b28
  repeat' first
    | assumption
    | with_reducible exact kd_none
    | with_reducible apply kd_some
    | with_reducible apply kd_ite
    | with_reducible apply kd_bd
    | with_reducible apply hrec3
    | intro _ _ _
theorem kcz_f_X8_addName_draft_B3 (rec3 : Int64 → Int32 → S5 → Option (Unit × S5)) (hrec3 : ∀ v0 v1 (σ : S5), Cz2 σ → Kd Cz2 (rec3 v0 v1 σ)) (v1 : Int64) (v3 : Int32) (σ : S5) (h : Cz2 σ) : Kd Cz2 (f_X8_addName_draft_B3 rec3 v1 v3 σ) := by
  unfold f_X8_addName_draft_B3
  repeat' first
    | assumption
    | with_reducible exact kd_none
    | with_reducible apply kd_some
    | with_reducible apply kd_ite
    | with_reducible apply kd_bd
    | with_reducible apply kcz_f_X8_add_draft
    | with_reducible apply kcz_f_X8_addName_draft_b28
    | with_reducible apply hrec3
    | intro _ _ _
theorem kcz_f_X8_addName_draft_L3 : ∀ (n : Nat) v0 v1 (σ : S5), Cz2 σ → Kd Cz2 (f_X8_addName_draft_L3 n v0 v1 σ)
  | 0, _, _, _, _ => kd_none
  | n + 1, v0, v1, σ, h => by
    unfold f_X8_addName_draft_L3
    exact kcz_f_X8_addName_draft_B3 _ (kcz_f_X8_addName_draft_L3 n) v0 v1 σ h
theorem kcz_f_X8_addName_draft (a1 : Int64) (σ : S5) (h : Cz2 σ) : Kd Cz2 (f_X8_addName_draft a1 σ) := by
  unfold f_X8_addName_draft
  repeat' first
    | assumption
    | with_reducible exact kd_none
    | with_reducible apply kd_some
    | with_reducible apply kd_ite
    | with_reducible apply kd_bd
    | with_reducible apply kcz_f_X8_addName_draft_L3
    | intro _ _ _
theorem kcz_f_X8_signAt_text (a1 : Int32) (σ : S5) (h : Cz2 σ) : Kd Cz2 (f_X8_signAt_text a1 σ) := by
  unfold f_X8_signAt_text
  repeat' first
    | assumption
    | with_reducible exact kd_none
    | with_reducible apply kd_some
    | with_reducible apply kd_ite
    | with_reducible apply kd_gd
    | with_reducible apply kd_bd
    | intro _ _ _
theorem kcz_f_J0_coder_7d493 (zi : Nat) (σ : S5) (h : Cz2 σ) : Kd Cz2 (f_J0_coder_7d493 zi σ) := by
  unfold f_J0_coder_7d493
  repeat' first
    | assumption
    | with_reducible exact kd_none
    | with_reducible apply kd_some
    | with_reducible apply kd_ite
    | with_reducible apply kd_gs
    | with_reducible apply kd_bd
    | intro _ _ _
theorem kcz_f_J0_isLatin1_aae02 (zi : Nat) (σ : S5) (h : Cz2 σ) : Kd Cz2 (f_J0_isLatin1_aae02 zi σ) := by
  unfold f_J0_isLatin1_aae02
  repeat' first
    | assumption
    | with_reducible exact kd_none
    | with_reducible apply kd_some
    | with_reducible apply kd_ite
    | with_reducible apply kd_gs
    | with_reducible apply kd_bd
    | intro _ _ _
theorem kcz_f_J0_length_8abf5 (zi : Nat) (σ : S5) (h : Cz2 σ) : Kd Cz2 (f_J0_length_8abf5 zi σ) := by
  unfold f_J0_length_8abf5
  repeat' first
    | assumption
    | with_reducible exact kd_none
    | with_reducible apply kd_some
    | with_reducible apply kd_ite
    | with_reducible apply kd_gs
    | with_reducible apply kd_bd
    | with_reducible apply kcz_f_J0_coder_7d493
    | intro _ _ _
theorem kcz_f_J3_checkIndex_8e157 (a0 : Int32) (a1 : Int32) (σ : S5) (h : Cz2 σ) : Kd Cz2 (f_J3_checkIndex_8e157 a0 a1 σ) := by
  unfold f_J3_checkIndex_8e157
  repeat' first
    | assumption
    | with_reducible exact kd_none
    | with_reducible apply kd_some
    | with_reducible apply kd_ite
    | with_reducible apply kd_bd
    | intro _ _ _
theorem kcz_f_J0_checkIndex_df160 (a0 : Int32) (a1 : Int32) (σ : S5) (h : Cz2 σ) : Kd Cz2 (f_J0_checkIndex_df160 a0 a1 σ) := by
  unfold f_J0_checkIndex_df160
  repeat' first
    | assumption
    | with_reducible exact kd_none
    | with_reducible apply kd_some
    | with_reducible apply kd_ite
    | with_reducible apply kd_bd
    | with_reducible apply kcz_f_J3_checkIndex_8e157
    | intro _ _ _
theorem kcz_f_J1_canEncode_9a6ad (a0 : Int32) (σ : S5) (h : Cz2 σ) : Kd Cz2 (f_J1_canEncode_9a6ad a0 σ) := by
  unfold f_J1_canEncode_9a6ad
  repeat' first
    | assumption
    | with_reducible exact kd_none
    | with_reducible apply kd_some
    | with_reducible apply kd_ite
    | with_reducible apply kd_bd
    | intro _ _ _
theorem kcz_f_J1_charAt_3b067 (zi : Nat) (a1 : Int32) (σ : S5) (h : Cz2 σ) : Kd Cz2 (f_J1_charAt_3b067 zi a1 σ) := by
  unfold f_J1_charAt_3b067
  repeat' first
    | assumption
    | with_reducible exact kd_none
    | with_reducible apply kd_some
    | with_reducible apply kd_ite
    | with_reducible apply kd_gd
    | with_reducible apply kd_gs
    | with_reducible apply kd_gc
    | with_reducible apply kd_bd
    | with_reducible apply kcz_f_J0_checkIndex_df160
    | intro _ _ _
theorem kcz_f_J1_indexOfChar_4cfef_B7 (rec7 : Nat → Int32 → Int32 → Int32 → S5 → Option (Int32 × S5)) (hrec7 : ∀ v0 v1 v2 v3 (σ : S5), Cz2 σ → Kd Cz2 (rec7 v0 v1 v2 v3 σ)) (zi : Nat) (v3 : Int32) (v4 : Int32) (v5 : Int32) (σ : S5) (h : Cz2 σ) : Kd Cz2 (f_J1_indexOfChar_4cfef_B7 rec7 zi v3 v4 v5 σ) := by
  unfold f_J1_indexOfChar_4cfef_B7
  repeat' first
    | assumption
    | with_reducible exact kd_none
    | with_reducible apply kd_some
    | with_reducible apply kd_ite
    | with_reducible apply kd_gd
    | with_reducible apply kd_gs
    | with_reducible apply kd_bd
    | with_reducible apply hrec7
    | intro _ _ _
theorem kcz_f_J1_indexOfChar_4cfef_L7 : ∀ (n : Nat) v0 v1 v2 v3 (σ : S5), Cz2 σ → Kd Cz2 (f_J1_indexOfChar_4cfef_L7 n v0 v1 v2 v3 σ)
  | 0, _, _, _, _, _, _ => kd_none
  | n + 1, v0, v1, v2, v3, σ, h => by
    unfold f_J1_indexOfChar_4cfef_L7
    exact kcz_f_J1_indexOfChar_4cfef_B7 _ (kcz_f_J1_indexOfChar_4cfef_L7 n) v0 v1 v2 v3 σ h
theorem kcz_f_J1_indexOfChar_4cfef (zi : Nat) (a1 : Int32) (a2 : Int32) (a3 : Int32) (σ : S5) (h : Cz2 σ) : Kd Cz2 (f_J1_indexOfChar_4cfef zi a1 a2 a3 σ) := by
  unfold f_J1_indexOfChar_4cfef
  repeat' first
    | assumption
    | with_reducible exact kd_none
    | with_reducible apply kd_some
    | with_reducible apply kd_ite
    | with_reducible apply kd_bd
    | with_reducible apply kcz_f_J1_indexOfChar_4cfef_L7
    | intro _ _ _
theorem kcz_f_J1_indexOf_4cfef (zi : Nat) (a1 : Int32) (a2 : Int32) (a3 : Int32) (σ : S5) (h : Cz2 σ) : Kd Cz2 (f_J1_indexOf_4cfef zi a1 a2 a3 σ) := by
  unfold f_J1_indexOf_4cfef
  repeat' first
    | assumption
    | with_reducible exact kd_none
    | with_reducible apply kd_some
    | with_reducible apply kd_ite
    | with_reducible apply kd_gs
    | with_reducible apply kd_bd
    | with_reducible apply kcz_f_J1_canEncode_9a6ad
    | with_reducible apply kcz_f_J1_indexOfChar_4cfef
    | intro _ _ _
theorem kcz_f_J0_charAt_5068e (zi : Nat) (a1 : Int32) (σ : S5) (h : Cz2 σ) : Kd Cz2 (f_J0_charAt_5068e zi a1 σ) := by
  unfold f_J0_charAt_5068e
  repeat' first
    | assumption
    | with_reducible exact kd_none
    | with_reducible apply kd_some
    | with_reducible apply kd_ite
    | with_reducible apply kd_gs
    | with_reducible apply kd_gc
    | with_reducible apply kd_bd
    | with_reducible apply kcz_f_J0_isLatin1_aae02
    | with_reducible apply kcz_f_J1_charAt_3b067
    | intro _ _ _
theorem kcz_f_J0_indexOf_7cf53 (zi : Nat) (a1 : Int32) (a2 : Int32) (σ : S5) (h : Cz2 σ) : Kd Cz2 (f_J0_indexOf_7cf53 zi a1 a2 σ) := by
  unfold f_J0_indexOf_7cf53
  repeat' first
    | assumption
    | with_reducible exact kd_none
    | with_reducible apply kd_some
    | with_reducible apply kd_ite
    | with_reducible apply kd_gs
    | with_reducible apply kd_bd
    | with_reducible apply kcz_f_J0_isLatin1_aae02
    | with_reducible apply kcz_f_J0_length_8abf5
    | with_reducible apply kcz_f_J1_indexOf_4cfef
    | intro _ _ _
theorem kcz_f_J0_indexOf_0f7a4 (zi : Nat) (a1 : Int32) (σ : S5) (h : Cz2 σ) : Kd Cz2 (f_J0_indexOf_0f7a4 zi a1 σ) := by
  unfold f_J0_indexOf_0f7a4
  repeat' first
    | assumption
    | with_reducible exact kd_none
    | with_reducible apply kd_some
    | with_reducible apply kd_ite
    | with_reducible apply kd_gs
    | with_reducible apply kd_bd
    | with_reducible apply kcz_f_J0_indexOf_7cf53
    | intro _ _ _
theorem kcz_f_X8_addText_draft_B2 (rec2 : Nat → Int32 → S5 → Option (Unit × S5)) (hrec2 : ∀ v0 v1 (σ : S5), Cz2 σ → Kd Cz2 (rec2 v0 v1 σ)) (zi : Nat) (v2 : Int32) (σ : S5) (h : Cz2 σ) : Kd Cz2 (f_X8_addText_draft_B2 rec2 zi v2 σ) := by
  unfold f_X8_addText_draft_B2
  repeat' first
    | assumption
    | with_reducible exact kd_none
    | with_reducible apply kd_some
    | with_reducible apply kd_ite
    | with_reducible apply kd_gs
    | with_reducible apply kd_bd
    | with_reducible apply kcz_f_X8_add_draft
    | with_reducible apply kcz_f_J0_length_8abf5
    | with_reducible apply kcz_f_J0_charAt_5068e
    | with_reducible apply hrec2
    | intro _ _ _
theorem kcz_f_X8_addText_draft_L2 : ∀ (n : Nat) v0 v1 (σ : S5), Cz2 σ → Kd Cz2 (f_X8_addText_draft_L2 n v0 v1 σ)
  | 0, _, _, _, _ => kd_none
  | n + 1, v0, v1, σ, h => by
    unfold f_X8_addText_draft_L2
    exact kcz_f_X8_addText_draft_B2 _ (kcz_f_X8_addText_draft_L2 n) v0 v1 σ h
theorem kcz_f_X8_addText_draft (zi : Nat) (σ : S5) (h : Cz2 σ) : Kd Cz2 (f_X8_addText_draft zi σ) := by
  unfold f_X8_addText_draft
  repeat' first
    | assumption
    | with_reducible exact kd_none
    | with_reducible apply kd_some
    | with_reducible apply kd_ite
    | with_reducible apply kd_bd
    | with_reducible apply kcz_f_X8_addText_draft_L2
    | intro _ _ _
theorem kcz_f_X10_isSmall (a0 : Int32) (σ : S5) (h : Cz2 σ) : Kd Cz2 (f_X10_isSmall a0 σ) := by
  unfold f_X10_isSmall
  repeat' first
    | assumption
    | with_reducible exact kd_none
    | with_reducible apply kd_some
    | with_reducible apply kd_ite
    | with_reducible apply kd_bd
    | intro _ _ _
theorem kcz_f_X10_isGreat (a0 : Int32) (σ : S5) (h : Cz2 σ) : Kd Cz2 (f_X10_isGreat a0 σ) := by
  unfold f_X10_isGreat
  repeat' first
    | assumption
    | with_reducible exact kd_none
    | with_reducible apply kd_some
    | with_reducible apply kd_ite
    | with_reducible apply kd_bd
    | intro _ _ _
theorem kcz_f_X10_isDigit (a0 : Int32) (σ : S5) (h : Cz2 σ) : Kd Cz2 (f_X10_isDigit a0 σ) := by
  unfold f_X10_isDigit
  repeat' first
    | assumption
    | with_reducible exact kd_none
    | with_reducible apply kd_some
    | with_reducible apply kd_ite
    | with_reducible apply kd_bd
    | intro _ _ _
theorem kcz_f_X10_stop  (σ : S5) (h : Cz2 σ) : Kd Cz2 (f_X10_stop  σ) := by
  unfold f_X10_stop
  repeat' first
    | assumption
    | with_reducible exact kd_none
    | with_reducible apply kd_some
    | with_reducible apply kd_ite
    | with_reducible apply kd_bd
    | with_reducible apply Cz2_pI _ _ _ (by decide)
    | intro _ _ _
theorem kcz_f_X10_passBlanks_b61 (rec2 : Int32 → S5 → Option (Unit × S5)) (hrec2 : ∀ v0 (σ : S5), Cz2 σ → Kd Cz2 (rec2 v0 σ)) (v1 : Int32) (σ : S5) (h : Cz2 σ) : Kd Cz2 (f_X10_passBlanks_b61 rec2 v1 σ) := by
  unfold f_X10_passBlanks_b61
  repeat' first
    | assumption
    | with_reducible exact kd_none
    | with_reducible apply kd_some
    | with_reducible apply kd_ite
    | with_reducible apply kd_bd
    | with_reducible apply Cz2_pI _ _ _ (by decide)
    | with_reducible apply hrec2
    | intro _ _ _
theorem kcz_f_X10_passBlanks_B2 (rec2 : Int32 → S5 → Option (Unit × S5)) (hrec2 : ∀ v0 (σ : S5), Cz2 σ → Kd Cz2 (rec2 v0 σ)) (v1 : Int32) (σ : S5) (h : Cz2 σ) : Kd Cz2 (f_X10_passBlanks_B2 rec2 v1 σ) := by
  unfold f_X10_passBlanks_B2
  repeat' first
    | assumption
    | with_reducible exact kd_none
    | with_reducible apply kd_some
    | with_reducible apply kd_ite
    | with_reducible apply kd_bd
    | with_reducible apply kcz_f_X8_signAt_text
    | with_reducible apply kcz_f_X10_passBlanks_b61
    | with_reducible apply hrec2
    | intro _ _ _
theorem kcz_f_X10_passBlanks_L2 : ∀ (n : Nat) v0 (σ : S5), Cz2 σ → Kd Cz2 (f_X10_passBlanks_L2 n v0 σ)
  | 0, _, _, _ => kd_none
  | n + 1, v0, σ, h => by
    unfold f_X10_passBlanks_L2
    exact kcz_f_X10_passBlanks_B2 _ (kcz_f_X10_passBlanks_L2 n) v0 σ h
theorem kcz_f_X10_passBlanks  (σ : S5) (h : Cz2 σ) : Kd Cz2 (f_X10_passBlanks  σ) := by
  unfold f_X10_passBlanks
  repeat' first
    | assumption
    | with_reducible exact kd_none
    | with_reducible apply kd_some
    | with_reducible apply kd_ite
    | with_reducible apply kd_bd
    | with_reducible apply kcz_f_X10_passBlanks_L2
    | intro _ _ _
theorem kcz_f_X10_kindOfName  (σ : S5) (h : Cz2 σ) : Kd Cz2 (f_X10_kindOfName  σ) := by
  unfold f_X10_kindOfName
  repeat' first
    | assumption
    | with_reducible exact kd_none
    | with_reducible apply kd_some
    | with_reducible apply kd_ite
    | with_reducible apply kd_bd
    | intro _ _ _
theorem kcz_f_X10_readName_b113 (u0 : Int32) (σ : S5) (h : Cz2 σ) : Kd Cz2 (f_X10_readName_b113 u0 σ) := by
  unfold f_X10_readName_b113
  repeat' first
    | assumption
    | with_reducible exact kd_none
    | with_reducible apply kd_some
    | with_reducible apply kd_ite
    | with_reducible apply kd_bd
    | with_reducible apply Cz2_pI _ _ _ (by decide)
    | intro _ _ _
theorem kcz_f_X10_readName_b83 (v1 : Int32) (v2 : Int32) (σ : S5) (h : Cz2 σ) : Kd Cz2 (f_X10_readName_b83 v1 v2 σ) := by
  unfold f_X10_readName_b83
  repeat' first
    | assumption
    | with_reducible exact kd_none
    | with_reducible apply kd_some
    | with_reducible apply kd_ite
    | with_reducible apply kd_bd
    | with_reducible apply Cz2_pI _ _ _ (by decide)
    | with_reducible apply kcz_f_X10_isGreat
    | with_reducible apply kcz_f_X10_kindOfName
    | with_reducible apply kcz_f_X10_readName_b113
    | intro _ _ _
theorem kcz_f_X10_readName_b41 (rec9 : Int32 → Int32 → Int32 → S5 → Option (Unit × S5)) (hrec9 : ∀ v0 v1 v2 (σ : S5), Cz2 σ → Kd Cz2 (rec9 v0 v1 v2 σ)) (v1 : Int32) (v2 : Int32) (v3 : Int32) (σ : S5) (h : Cz2 σ) : Kd Cz2 (f_X10_readName_b41 rec9 v1 v2 v3 σ) := by
  unfold f_X10_readName_b41
  repeat' first
    | assumption
    | with_reducible exact kd_none
    | with_reducible apply kd_some
    | with_reducible apply kd_ite
    | with_reducible apply kd_bd
    | with_reducible apply Cz2_pI _ _ _ (by decide)
    | with_reducible apply Cz2_pJ
    | with_reducible apply kcz_f_X8_signAt_text
    | with_reducible apply hrec9
    | intro _ _ _
theorem kcz_f_X10_readName_B9 (rec9 : Int32 → Int32 → Int32 → S5 → Option (Unit × S5)) (hrec9 : ∀ v0 v1 v2 (σ : S5), Cz2 σ → Kd Cz2 (rec9 v0 v1 v2 σ)) (v1 : Int32) (v2 : Int32) (v3 : Int32) (σ : S5) (h : Cz2 σ) : Kd Cz2 (f_X10_readName_B9 rec9 v1 v2 v3 σ) := by
  unfold f_X10_readName_B9
  repeat' first
    | assumption
    | with_reducible exact kd_none
    | with_reducible apply kd_some
    | with_reducible apply kd_ite
    | with_reducible apply kd_bd
    | with_reducible apply kcz_f_X10_isSmall
    | with_reducible apply kcz_f_X10_isDigit
    | with_reducible apply kcz_f_X10_readName_b83
    | with_reducible apply kcz_f_X10_readName_b41
    | with_reducible apply hrec9
    | intro _ _ _
theorem kcz_f_X10_readName_L9 : ∀ (n : Nat) v0 v1 v2 (σ : S5), Cz2 σ → Kd Cz2 (f_X10_readName_L9 n v0 v1 v2 σ)
  | 0, _, _, _, _, _ => kd_none
  | n + 1, v0, v1, v2, σ, h => by
    unfold f_X10_readName_L9
    exact kcz_f_X10_readName_B9 _ (kcz_f_X10_readName_L9 n) v0 v1 v2 σ h
theorem kcz_f_X10_readName (a1 : Int32) (σ : S5) (h : Cz2 σ) : Kd Cz2 (f_X10_readName a1 σ) := by
  unfold f_X10_readName
  repeat' first
    | assumption
    | with_reducible exact kd_none
    | with_reducible apply kd_some
    | with_reducible apply kd_ite
    | with_reducible apply kd_bd
    | with_reducible apply Cz2_pJ
    | with_reducible apply kcz_f_X10_readName_L9
    | intro _ _ _
theorem kcz_f_X10_readNumber_b126 (u0 : Int32) (σ : S5) (h : Cz2 σ) : Kd Cz2 (f_X10_readNumber_b126 u0 σ) := by
  unfold f_X10_readNumber_b126
  repeat' first
    | assumption
    | with_reducible exact kd_none
    | with_reducible apply kd_some
    | with_reducible apply kd_ite
    | with_reducible apply kd_bd
    | with_reducible apply Cz2_pI _ _ _ (by decide)
    | intro _ _ _
theorem kcz_f_X10_readNumber_b111 (v1 : Int64) (v4 : Int32) (u0 : Int32) (σ : S5) (h : Cz2 σ) : Kd Cz2 (f_X10_readNumber_b111 v1 v4 u0 σ) := by
  unfold f_X10_readNumber_b111
  repeat' first
    | assumption
    | with_reducible exact kd_none
    | with_reducible apply kd_some
    | with_reducible apply kd_ite
    | with_reducible apply kd_bd
    | with_reducible apply Cz2_pI _ _ _ (by decide)
    | with_reducible apply kcz_f_X10_readNumber_b126
    | intro _ _ _
theorem kcz_f_X10_readNumber_b98 (v1 : Int64) (u0 : Int32) (σ : S5) (h : Cz2 σ) : Kd Cz2 (f_X10_readNumber_b98 v1 u0 σ) := by
  unfold f_X10_readNumber_b98
  repeat' first
    | assumption
    | with_reducible exact kd_none
    | with_reducible apply kd_some
    | with_reducible apply kd_ite
    | with_reducible apply kd_bd
    | with_reducible apply kcz_f_X10_readNumber_b111
    | intro _ _ _
theorem kcz_f_X10_readNumber_b97 (v1 : Int64) (σ : S5) (h : Cz2 σ) : Kd Cz2 (f_X10_readNumber_b97 v1 σ) := by
  unfold f_X10_readNumber_b97
  repeat' first
    | assumption
    | with_reducible exact kd_none
    | with_reducible apply kd_some
    | with_reducible apply kd_ite
    | with_reducible apply kd_bd
    | with_reducible apply kcz_f_X10_readNumber_b98
    | intro _ _ _
theorem kcz_f_X10_readNumber_b79 (v1 : Int64) (v3 : Int32) (σ : S5) (h : Cz2 σ) : Kd Cz2 (f_X10_readNumber_b79 v1 v3 σ) := by
  unfold f_X10_readNumber_b79
  repeat' first
    | assumption
    | with_reducible exact kd_none
    | with_reducible apply kd_some
    | with_reducible apply kd_ite
    | with_reducible apply kd_bd
    | with_reducible apply kcz_f_X10_readNumber_b98
    | with_reducible apply kcz_f_X10_readNumber_b97
    | intro _ _ _
theorem kcz_f_X10_readNumber_b66 (rec4 : Int64 → Int32 → S5 → Option (Unit × S5)) (hrec4 : ∀ v0 v1 (σ : S5), Cz2 σ → Kd Cz2 (rec4 v0 v1 σ)) (v1 : Int64) (v3 : Int32) (σ : S5) (h : Cz2 σ) : Kd Cz2 (f_X10_readNumber_b66 rec4 v1 v3 σ) := by
  unfold f_X10_readNumber_b66
  repeat' first
    | assumption
    | with_reducible exact kd_none
    | with_reducible apply kd_some
    | with_reducible apply kd_ite
    | with_reducible apply kd_bd
    | with_reducible apply Cz2_pI _ _ _ (by decide)
    | with_reducible apply hrec4
    | intro _ _ _
theorem kcz_f_X10_readNumber_B4 (rec4 : Int64 → Int32 → S5 → Option (Unit × S5)) (hrec4 : ∀ v0 v1 (σ : S5), Cz2 σ → Kd Cz2 (rec4 v0 v1 σ)) (v1 : Int64) (v3 : Int32) (σ : S5) (h : Cz2 σ) : Kd Cz2 (f_X10_readNumber_B4 rec4 v1 v3 σ) := by
  unfold f_X10_readNumber_B4
  repeat' first
    | assumption
    | with_reducible exact kd_none
    | with_reducible apply kd_some
    | with_reducible apply kd_ite
    | with_reducible apply kd_bd
    | with_reducible apply kcz_f_X8_signAt_text
    | with_reducible apply kcz_f_X10_isDigit
    | with_reducible apply kcz_f_X10_readNumber_b79
    | with_reducible apply kcz_f_X10_readNumber_b66
    | with_reducible apply hrec4
    | intro _ _ _
theorem kcz_f_X10_readNumber_L4 : ∀ (n : Nat) v0 v1 (σ : S5), Cz2 σ → Kd Cz2 (f_X10_readNumber_L4 n v0 v1 σ)
  | 0, _, _, _, _ => kd_none
  | n + 1, v0, v1, σ, h => by
    unfold f_X10_readNumber_L4
    exact kcz_f_X10_readNumber_B4 _ (kcz_f_X10_readNumber_L4 n) v0 v1 σ h
theorem kcz_f_X10_readNumber  (σ : S5) (h : Cz2 σ) : Kd Cz2 (f_X10_readNumber  σ) := by
  unfold f_X10_readNumber
  repeat' first
    | assumption
    | with_reducible exact kd_none
    | with_reducible apply kd_some
    | with_reducible apply kd_ite
    | with_reducible apply kd_bd
    | with_reducible apply kcz_f_X10_readNumber_L4
    | intro _ _ _
theorem kcz_f_X10_readSign_b119 (u0 : Int32) (u1 : Int32) (σ : S5) (h : Cz2 σ) : Kd Cz2 (f_X10_readSign_b119 u0 u1 σ) := by
  unfold f_X10_readSign_b119
  repeat' first
    | assumption
    | with_reducible exact kd_none
    | with_reducible apply kd_some
    | with_reducible apply kd_ite
    | with_reducible apply kd_bd
    | with_reducible apply Cz2_pI _ _ _ (by decide)
    | intro _ _ _
theorem kcz_f_X10_readSign_b99  (σ : S5) (h : Cz2 σ) : Kd Cz2 (f_X10_readSign_b99  σ) := by
  unfold f_X10_readSign_b99
  repeat' first
    | assumption
    | with_reducible exact kd_none
    | with_reducible apply kd_some
    | with_reducible apply kd_ite
    | with_reducible apply kd_bd
    | with_reducible apply kcz_f_X10_readSign_b119
    | intro _ _ _
theorem kcz_f_X10_readSign_b96 (u0 : Int32) (σ : S5) (h : Cz2 σ) : Kd Cz2 (f_X10_readSign_b96 u0 σ) := by
  unfold f_X10_readSign_b96
  repeat' first
    | assumption
    | with_reducible exact kd_none
    | with_reducible apply kd_some
    | with_reducible apply kd_ite
    | with_reducible apply kd_bd
    | with_reducible apply Cz2_pI _ _ _ (by decide)
    | with_reducible apply kcz_f_X10_readSign_b99
    | intro _ _ _
theorem kcz_f_X10_readSign_b80 (v1 : Int32) (σ : S5) (h : Cz2 σ) : Kd Cz2 (f_X10_readSign_b80 v1 σ) := by
  unfold f_X10_readSign_b80
  repeat' first
    | assumption
    | with_reducible exact kd_none
    | with_reducible apply kd_some
    | with_reducible apply kd_ite
    | with_reducible apply kd_gs
    | with_reducible apply kd_bd
    | with_reducible apply kcz_f_J0_indexOf_0f7a4
    | with_reducible apply kcz_f_X10_readSign_b96
    | intro _ _ _
theorem kcz_f_X10_readSign_b58 (v1 : Int32) (v2 : Int32) (σ : S5) (h : Cz2 σ) : Kd Cz2 (f_X10_readSign_b58 v1 v2 σ) := by
  unfold f_X10_readSign_b58
  repeat' first
    | assumption
    | with_reducible exact kd_none
    | with_reducible apply kd_some
    | with_reducible apply kd_ite
    | with_reducible apply kd_bd
    | with_reducible apply Cz2_pI _ _ _ (by decide)
    | with_reducible apply kcz_f_X10_readSign_b99
    | with_reducible apply kcz_f_X10_readSign_b80
    | intro _ _ _
theorem kcz_f_X10_readSign_b36 (v1 : Int32) (v2 : Int32) (σ : S5) (h : Cz2 σ) : Kd Cz2 (f_X10_readSign_b36 v1 v2 σ) := by
  unfold f_X10_readSign_b36
  repeat' first
    | assumption
    | with_reducible exact kd_none
    | with_reducible apply kd_some
    | with_reducible apply kd_ite
    | with_reducible apply kd_bd
    | with_reducible apply Cz2_pI _ _ _ (by decide)
    | with_reducible apply kcz_f_X10_readSign_b99
    | with_reducible apply kcz_f_X10_readSign_b58
    | intro _ _ _
theorem kcz_f_X10_readSign (a1 : Int32) (σ : S5) (h : Cz2 σ) : Kd Cz2 (f_X10_readSign a1 σ) := by
  unfold f_X10_readSign
  repeat' first
    | assumption
    | with_reducible exact kd_none
    | with_reducible apply kd_some
    | with_reducible apply kd_ite
    | with_reducible apply kd_bd
    | with_reducible apply Cz2_pI _ _ _ (by decide)
    | with_reducible apply kcz_f_X8_signAt_text
    | with_reducible apply kcz_f_X10_readSign_b99
    | with_reducible apply kcz_f_X10_readSign_b36
    | intro _ _ _
theorem kcz_f_X10_advance_b59 (v1 : Int32) (σ : S5) (h : Cz2 σ) : Kd Cz2 (f_X10_advance_b59 v1 σ) := by
  unfold f_X10_advance_b59
  repeat' first
    | assumption
    | with_reducible exact kd_none
    | with_reducible apply kd_some
    | with_reducible apply kd_ite
    | with_reducible apply kd_bd
    | with_reducible apply kcz_f_X10_readName
    | intro _ _ _
theorem kcz_f_X10_advance  (σ : S5) (h : Cz2 σ) : Kd Cz2 (f_X10_advance  σ) := by
  unfold f_X10_advance
  repeat' first
    | assumption
    | with_reducible exact kd_none
    | with_reducible apply kd_some
    | with_reducible apply kd_ite
    | with_reducible apply kd_bd
    | with_reducible apply Cz2_pI _ _ _ (by decide)
    | with_reducible apply kcz_f_X8_signAt_text
    | with_reducible apply kcz_f_X10_isSmall
    | with_reducible apply kcz_f_X10_isGreat
    | with_reducible apply kcz_f_X10_isDigit
    | with_reducible apply kcz_f_X10_passBlanks
    | with_reducible apply kcz_f_X10_readNumber
    | with_reducible apply kcz_f_X10_readSign
    | with_reducible apply kcz_f_X10_advance_b59
    | intro _ _ _
theorem kcz_f_X10_begin  (σ : S5) (h : Cz2 σ) : Kd Cz2 (f_X10_begin  σ) := by
  unfold f_X10_begin
  repeat' first
    | assumption
    | with_reducible exact kd_none
    | with_reducible apply kd_some
    | with_reducible apply kd_ite
    | with_reducible apply kd_bd
    | with_reducible apply Cz2_pI _ _ _ (by decide)
    | with_reducible apply kcz_f_X10_advance
    | intro _ _ _
theorem kcz_f_X9_span (a0 : Int32) (a1 : Int32) (σ : S5) (h : Cz2 σ) : Kd Cz2 (f_X9_span a0 a1 σ) := by
  unfold f_X9_span
  repeat' first
    | assumption
    | with_reducible exact kd_none
    | with_reducible apply kd_some
    | with_reducible apply kd_ite
    | with_reducible apply kd_bd
    | intro _ _ _
theorem kcz_f_X9_isPart_b12  (σ : S5) (h : Cz2 σ) : Kd Cz2 (f_X9_isPart_b12  σ) := by
  unfold f_X9_isPart_b12
  repeat' first
    | assumption
    | with_reducible exact kd_none
    | with_reducible apply kd_some
    | with_reducible apply kd_ite
    | with_reducible apply kd_bd
    | intro _ _ _
theorem kcz_f_X9_isPart (a0 : Int32) (σ : S5) (h : Cz2 σ) : Kd Cz2 (f_X9_isPart a0 σ) := by
  unfold f_X9_isPart
  repeat' first
    | assumption
    | with_reducible exact kd_none
    | with_reducible apply kd_some
    | with_reducible apply kd_ite
    | with_reducible apply kd_bd
    | with_reducible apply kcz_f_X9_isPart_b12
    | intro _ _ _
theorem kcz_f_X9_clear  (σ : S5) (h : Cz2 σ) : Kd Cz2 (f_X9_clear  σ) := by
  unfold f_X9_clear
  repeat' first
    | assumption
    | with_reducible exact kd_none
    | with_reducible apply kd_some
    | with_reducible apply kd_ite
    | with_reducible apply kd_bd
    | with_reducible apply Cz2_pI _ _ _ (by decide)
    | intro _ _ _
theorem kcz_f_X9_add (a1 : Int32) (a2 : Int32) (a3 : Int32) (a4 : Int32) (σ : S5) (h : Cz2 σ) : Kd Cz2 (f_X9_add a1 a2 a3 a4 σ) := by
  unfold f_X9_add
  repeat' first
    | assumption
    | with_reducible exact kd_none
    | with_reducible apply kd_some
    | with_reducible apply kd_ite
    | with_reducible apply kd_gd
    | with_reducible apply kd_bd
    | with_reducible apply Cz2_pI _ _ _ (by decide)
    | with_reducible apply Cz2_pA _ _ _ _ (by decide)
    | intro _ _ _
theorem kcz_f_X9_addLeaf (a1 : Int32) (a2 : Int32) (σ : S5) (h : Cz2 σ) : Kd Cz2 (f_X9_addLeaf a1 a2 σ) := by
  unfold f_X9_addLeaf
  repeat' first
    | assumption
    | with_reducible exact kd_none
    | with_reducible apply kd_some
    | with_reducible apply kd_ite
    | with_reducible apply kd_bd
    | with_reducible apply kcz_f_X9_add
    | intro _ _ _
theorem kcz_f_X9_change (a1 : Int32) (a2 : Int32) (a3 : Int32) (σ : S5) (h : Cz2 σ) : Kd Cz2 (f_X9_change a1 a2 a3 σ) := by
  unfold f_X9_change
  repeat' first
    | assumption
    | with_reducible exact kd_none
    | with_reducible apply kd_some
    | with_reducible apply kd_ite
    | with_reducible apply kd_gd
    | with_reducible apply kd_bd
    | with_reducible apply Cz2_pA _ _ _ _ (by decide)
    | intro _ _ _
theorem kcz_f_X9_measureLeaf_b49 (u0 : Int64) (u1 : Int32) (σ : S5) (h : Cz2 σ) : Kd Cz2 (f_X9_measureLeaf_b49 u0 u1 σ) := by
  unfold f_X9_measureLeaf_b49
  repeat' first
    | assumption
    | with_reducible exact kd_none
    | with_reducible apply kd_some
    | with_reducible apply kd_ite
    | with_reducible apply kd_gd
    | with_reducible apply kd_bd
    | with_reducible apply Cz2_pB
    | intro _ _ _
theorem kcz_f_X9_measureLeaf_b48 (u0 : Int32) (σ : S5) (h : Cz2 σ) : Kd Cz2 (f_X9_measureLeaf_b48 u0 σ) := by
  unfold f_X9_measureLeaf_b48
  repeat' first
    | assumption
    | with_reducible exact kd_none
    | with_reducible apply kd_some
    | with_reducible apply kd_ite
    | with_reducible apply kd_bd
    | with_reducible apply kcz_f_X9_measureLeaf_b49
    | intro _ _ _
theorem kcz_f_X9_measureLeaf (a1 : Int32) (σ : S5) (h : Cz2 σ) : Kd Cz2 (f_X9_measureLeaf a1 σ) := by
  unfold f_X9_measureLeaf
  repeat' first
    | assumption
    | with_reducible exact kd_none
    | with_reducible apply kd_some
    | with_reducible apply kd_ite
    | with_reducible apply kd_gd
    | with_reducible apply kd_bd
    | with_reducible apply Cz2_pA _ _ _ _ (by decide)
    | with_reducible apply kcz_f_X9_measureLeaf_b49
    | with_reducible apply kcz_f_X9_measureLeaf_b48
    | intro _ _ _
theorem kcz_f_X9_measure_b158 (v1 : Int32) (v3 : Int32) (v4 : Int32) (v5 : Int64) (v7 : Int64) (u0 : Int32) (σ : S5) (h : Cz2 σ) : Kd Cz2 (f_X9_measure_b158 v1 v3 v4 v5 v7 u0 σ) := by
  unfold f_X9_measure_b158
  repeat' first
    | assumption
    | with_reducible exact kd_none
    | with_reducible apply kd_some
    | with_reducible apply kd_ite
    | with_reducible apply kd_gd
    | with_reducible apply kd_bd
    | with_reducible apply Cz2_pA _ _ _ _ (by decide)
    | with_reducible apply Cz2_pB
    | intro _ _ _
theorem kcz_f_X9_measure_b141 (v1 : Int32) (v3 : Int32) (v4 : Int32) (v5 : Int64) (v7 : Int64) (σ : S5) (h : Cz2 σ) : Kd Cz2 (f_X9_measure_b141 v1 v3 v4 v5 v7 σ) := by
  unfold f_X9_measure_b141
  repeat' first
    | assumption
    | with_reducible exact kd_none
    | with_reducible apply kd_some
    | with_reducible apply kd_ite
    | with_reducible apply kd_gd
    | with_reducible apply kd_bd
    | with_reducible apply kcz_f_X9_isPart
    | with_reducible apply kcz_f_X9_measure_b158
    | intro _ _ _
theorem kcz_f_X9_measure_b118 (v1 : Int32) (v2 : Int32) (v3 : Int32) (v4 : Int32) (v5 : Int64) (v7 : Int64) (σ : S5) (h : Cz2 σ) : Kd Cz2 (f_X9_measure_b118 v1 v2 v3 v4 v5 v7 σ) := by
  unfold f_X9_measure_b118
  repeat' first
    | assumption
    | with_reducible exact kd_none
    | with_reducible apply kd_some
    | with_reducible apply kd_ite
    | with_reducible apply kd_gd
    | with_reducible apply kd_bd
    | with_reducible apply kcz_f_X9_span
    | with_reducible apply kcz_f_X9_measure_b141
    | intro _ _ _
theorem kcz_f_X9_measure_b100 (rec22 : Int32 → Int32 → Int32 → Int32 → Int64 → Int64 → Int32 → Int32 → S5 → Option (Unit × S5)) (hrec22 : ∀ v0 v1 v2 v3 v4 v5 v6 v7 (σ : S5), Cz2 σ → Kd Cz2 (rec22 v0 v1 v2 v3 v4 v5 v6 v7 σ)) (v1 : Int32) (v2 : Int32) (v3 : Int32) (v4 : Int32) (v5 : Int64) (v9 : Int32) (v10 : Int32) (u0 : Int64) (u1 : Int64) (σ : S5) (h : Cz2 σ) : Kd Cz2 (f_X9_measure_b100 rec22 v1 v2 v3 v4 v5 v9 v10 u0 u1 σ) := by
  unfold f_X9_measure_b100
  repeat' first
    | assumption
    | with_reducible exact kd_none
    | with_reducible apply kd_some
    | with_reducible apply kd_ite
    | with_reducible apply kd_gd
    | with_reducible apply kd_bd
    | with_reducible apply hrec22
    | intro _ _ _
theorem kcz_f_X9_measure_B22 (rec22 : Int32 → Int32 → Int32 → Int32 → Int64 → Int64 → Int32 → Int32 → S5 → Option (Unit × S5)) (hrec22 : ∀ v0 v1 v2 v3 v4 v5 v6 v7 (σ : S5), Cz2 σ → Kd Cz2 (rec22 v0 v1 v2 v3 v4 v5 v6 v7 σ)) (v1 : Int32) (v2 : Int32) (v3 : Int32) (v4 : Int32) (v5 : Int64) (v7 : Int64) (v9 : Int32) (v10 : Int32) (σ : S5) (h : Cz2 σ) : Kd Cz2 (f_X9_measure_B22 rec22 v1 v2 v3 v4 v5 v7 v9 v10 σ) := by
  unfold f_X9_measure_B22
  repeat' first
    | assumption
    | with_reducible exact kd_none
    | with_reducible apply kd_some
    | with_reducible apply kd_ite
    | with_reducible apply kd_gd
    | with_reducible apply kd_bd
    | with_reducible apply kcz_f_X9_span
    | with_reducible apply kcz_f_X9_measure_b118
    | with_reducible apply kcz_f_X9_measure_b100
    | with_reducible apply hrec22
    | intro _ _ _
theorem kcz_f_X9_measure_L22 : ∀ (n : Nat) v0 v1 v2 v3 v4 v5 v6 v7 (σ : S5), Cz2 σ → Kd Cz2 (f_X9_measure_L22 n v0 v1 v2 v3 v4 v5 v6 v7 σ)
  | 0, _, _, _, _, _, _, _, _, _, _ => kd_none
  | n + 1, v0, v1, v2, v3, v4, v5, v6, v7, σ, h => by
    unfold f_X9_measure_L22
    exact kcz_f_X9_measure_B22 _ (kcz_f_X9_measure_L22 n) v0 v1 v2 v3 v4 v5 v6 v7 σ h
theorem kcz_f_X9_measure (a1 : Int32) (a2 : Int32) (σ : S5) (h : Cz2 σ) : Kd Cz2 (f_X9_measure a1 a2 σ) := by
  unfold f_X9_measure
  repeat' first
    | assumption
    | with_reducible exact kd_none
    | with_reducible apply kd_some
    | with_reducible apply kd_ite
    | with_reducible apply kd_gd
    | with_reducible apply kd_bd
    | with_reducible apply kcz_f_X9_measure_L22
    | intro _ _ _
theorem kcz_f_X4_addConstructor (a1 : Int64) (a3 : Int32) (σ : S5) (h : Cz2 σ) : Kd Cz2 (f_X4_addConstructor a1 a3 σ) := by
  unfold f_X4_addConstructor
  refine kd_ite2 (fun _ => kd_some h) (fun hn => kd_gd (kd_gd (kd_some ?_)))
  obtain ⟨h1, h3, h4⟩ := h
  have ht : 2 ≤ (gI σ 4).toNatClampNeg := i_le h1
  refine ⟨?_, ?_, ?_⟩
  · rw [gI_pI, if_pos rfl]
    generalize gI σ 4 = y at h1 hn
    clear ht h3 h4
    grind
  · show gA (pA (pB σ 0 (gI σ 4) a1) 2 (gI σ 4) a3) 2 0 = 0
    rw [gA_pA, if_neg (fun w => by omega)]
    exact h3
  · show gA (pA (pB σ 0 (gI σ 4) a1) 2 (gI σ 4) a3) 2 1 = 0
    rw [gA_pA, if_neg (fun w => by omega)]
    exact h4
theorem kcz_f_X4_clear (σ : S5) : Kd Cz2 (f_X4_clear σ) := by
  intro r τ e
  unfold f_X4_clear f_X4_addConstructor at e
  rw [if_neg (show ¬ (30 : Int32) ≤ gI (pI σ 4 0) 4 by rw [gI_pI, if_pos rfl]; decide)] at e
  obtain ⟨r1, τ1, e1, e2⟩ := bd_some e
  have w1 := (gd_some (gd_some e1).2).2
  injection w1 with w1
  injection w1 with _ w1
  have k1 : gI τ1 4 = 1 := by rw [← w1]; rfl
  have a1 : gA τ1 2 0 = 0 := by rw [← w1]; rfl
  rw [if_neg (show ¬ (30 : Int32) ≤ gI τ1 4 by rw [k1]; decide)] at e2
  obtain ⟨r2, τ2, e3, e4⟩ := bd_some e2
  have w2 := (gd_some (gd_some e3).2).2
  injection w2 with w2
  injection w2 with _ w2
  injection e4 with e4
  injection e4 with _ e4
  refine ⟨?_, ?_, ?_⟩
  · rw [← e4, gI_pI, if_neg (by decide), gI_pI, if_neg (by decide), gI_pI, if_neg (by decide), ← w2, gI_pI, if_pos rfl, k1]
    decide
  · rw [← e4, ← w2]
    show gA (pA (pB τ1 0 (gI τ1 4) _) 2 (gI τ1 4) 0) 2 0 = 0
    rw [gA_pA, if_neg (fun w => by rw [k1] at w; exact absurd w.2 (by decide))]
    exact a1
  · rw [← e4, ← w2]
    show gA (pA (pB τ1 0 (gI τ1 4) _) 2 (gI τ1 4) 0) 2 1 = 0
    rw [gA_pA, if_pos ⟨rfl, by rw [k1]; decide⟩]
theorem kcz_f_X4_constructorOf_B2 (rec2 : Int64 → Int32 → S5 → Option (Int32 × S5)) (hrec2 : ∀ v0 v1 (σ : S5), Cz2 σ → Kd Cz2 (rec2 v0 v1 σ)) (v1 : Int64) (v3 : Int32) (σ : S5) (h : Cz2 σ) : Kd Cz2 (f_X4_constructorOf_B2 rec2 v1 v3 σ) := by
  unfold f_X4_constructorOf_B2
  repeat' first
    | assumption
    | with_reducible exact kd_none
    | with_reducible apply kd_some
    | with_reducible apply kd_ite
    | with_reducible apply kd_gd
    | with_reducible apply kd_bd
    | with_reducible apply hrec2
    | intro _ _ _
theorem kcz_f_X4_constructorOf_L2 : ∀ (n : Nat) v0 v1 (σ : S5), Cz2 σ → Kd Cz2 (f_X4_constructorOf_L2 n v0 v1 σ)
  | 0, _, _, _, _ => kd_none
  | n + 1, v0, v1, σ, h => by
    unfold f_X4_constructorOf_L2
    exact kcz_f_X4_constructorOf_B2 _ (kcz_f_X4_constructorOf_L2 n) v0 v1 σ h
theorem kcz_f_X4_constructorOf (a1 : Int64) (σ : S5) (h : Cz2 σ) : Kd Cz2 (f_X4_constructorOf a1 σ) := by
  unfold f_X4_constructorOf
  repeat' first
    | assumption
    | with_reducible exact kd_none
    | with_reducible apply kd_some
    | with_reducible apply kd_ite
    | with_reducible apply kd_bd
    | with_reducible apply kcz_f_X4_constructorOf_L2
    | intro _ _ _
theorem kcz_f_X4_addFunction (a1 : Int32) (σ : S5) (h : Cz2 σ) : Kd Cz2 (f_X4_addFunction a1 σ) := by
  unfold f_X4_addFunction
  repeat' first
    | assumption
    | with_reducible exact kd_none
    | with_reducible apply kd_some
    | with_reducible apply kd_ite
    | with_reducible apply kd_gd
    | with_reducible apply kd_bd
    | with_reducible apply Cz2_pI _ _ _ (by decide)
    | with_reducible apply Cz2_pA _ _ _ _ (by decide)
    | intro _ _ _
theorem kcz_f_X4_addTop (a1 : Int64) (a3 : Int32) (σ : S5) (h : Cz2 σ) : Kd Cz2 (f_X4_addTop a1 a3 σ) := by
  unfold f_X4_addTop
  repeat' first
    | assumption
    | with_reducible exact kd_none
    | with_reducible apply kd_some
    | with_reducible apply kd_ite
    | with_reducible apply kd_gd
    | with_reducible apply kd_bd
    | with_reducible apply Cz2_pI _ _ _ (by decide)
    | with_reducible apply Cz2_pB
    | with_reducible apply kcz_f_X4_addFunction
    | intro _ _ _
theorem kcz_f_X4_topOf_B2 (rec2 : Int64 → Int32 → S5 → Option (Int32 × S5)) (hrec2 : ∀ v0 v1 (σ : S5), Cz2 σ → Kd Cz2 (rec2 v0 v1 σ)) (v1 : Int64) (v3 : Int32) (σ : S5) (h : Cz2 σ) : Kd Cz2 (f_X4_topOf_B2 rec2 v1 v3 σ) := by
  unfold f_X4_topOf_B2
  repeat' first
    | assumption
    | with_reducible exact kd_none
    | with_reducible apply kd_some
    | with_reducible apply kd_ite
    | with_reducible apply kd_gd
    | with_reducible apply kd_bd
    | with_reducible apply hrec2
    | intro _ _ _
theorem kcz_f_X4_topOf_L2 : ∀ (n : Nat) v0 v1 (σ : S5), Cz2 σ → Kd Cz2 (f_X4_topOf_L2 n v0 v1 σ)
  | 0, _, _, _, _ => kd_none
  | n + 1, v0, v1, σ, h => by
    unfold f_X4_topOf_L2
    exact kcz_f_X4_topOf_B2 _ (kcz_f_X4_topOf_L2 n) v0 v1 σ h
theorem kcz_f_X4_topOf (a1 : Int64) (σ : S5) (h : Cz2 σ) : Kd Cz2 (f_X4_topOf a1 σ) := by
  unfold f_X4_topOf
  repeat' first
    | assumption
    | with_reducible exact kd_none
    | with_reducible apply kd_some
    | with_reducible apply kd_ite
    | with_reducible apply kd_bd
    | with_reducible apply kcz_f_X4_topOf_L2
    | intro _ _ _
theorem kcz_f_X4_needsParameter (a1 : Int32) (a2 : Int32) (σ : S5) (h : Cz2 σ) : Kd Cz2 (f_X4_needsParameter a1 a2 σ) := by
  unfold f_X4_needsParameter
  repeat' first
    | assumption
    | with_reducible exact kd_none
    | with_reducible apply kd_some
    | with_reducible apply kd_ite
    | with_reducible apply kd_gd
    | with_reducible apply kd_bd
    | intro _ _ _
theorem kcz_f_X6_clear  (σ : S5) (h : Cz2 σ) : Kd Cz2 (f_X6_clear  σ) := by
  unfold f_X6_clear
  repeat' first
    | assumption
    | with_reducible exact kd_none
    | with_reducible apply kd_some
    | with_reducible apply kd_ite
    | with_reducible apply kd_bd
    | with_reducible apply Cz2_pI _ _ _ (by decide)
    | intro _ _ _
theorem kcz_f_X6_add_b72 (u0 : Int32) (u1 : Int32) (σ : S5) (h : Cz2 σ) : Kd Cz2 (f_X6_add_b72 u0 u1 σ) := by
  unfold f_X6_add_b72
  repeat' first
    | assumption
    | with_reducible exact kd_none
    | with_reducible apply kd_some
    | with_reducible apply kd_ite
    | with_reducible apply kd_gd
    | with_reducible apply kd_bd
    | with_reducible apply Cz2_pI _ _ _ (by decide)
    | with_reducible apply Cz2_pA _ _ _ _ (by decide)
    | intro _ _ _
theorem kcz_f_X6_add_b59 (u0 : Int32) (σ : S5) (h : Cz2 σ) : Kd Cz2 (f_X6_add_b59 u0 σ) := by
  unfold f_X6_add_b59
  repeat' first
    | assumption
    | with_reducible exact kd_none
    | with_reducible apply kd_some
    | with_reducible apply kd_ite
    | with_reducible apply kd_bd
    | with_reducible apply kcz_f_X6_add_b72
    | intro _ _ _
theorem kcz_f_X6_add (a1 : Int32) (a2 : Int32) (a3 : Int32) (σ : S5) (h : Cz2 σ) : Kd Cz2 (f_X6_add a1 a2 a3 σ) := by
  unfold f_X6_add
  repeat' first
    | assumption
    | with_reducible exact kd_none
    | with_reducible apply kd_some
    | with_reducible apply kd_ite
    | with_reducible apply kd_gd
    | with_reducible apply kd_bd
    | with_reducible apply Cz2_pA _ _ _ _ (by decide)
    | with_reducible apply kcz_f_X6_add_b72
    | with_reducible apply kcz_f_X6_add_b59
    | intro _ _ _
theorem kcz_f_X6_owns (a1 : Int32) (σ : S5) (h : Cz2 σ) : Kd Cz2 (f_X6_owns a1 σ) := by
  unfold f_X6_owns
  repeat' first
    | assumption
    | with_reducible exact kd_none
    | with_reducible apply kd_some
    | with_reducible apply kd_ite
    | with_reducible apply kd_gd
    | with_reducible apply kd_bd
    | intro _ _ _
theorem kcz_f_X6_addName (a1 : Int32) (a2 : Int64) (σ : S5) (h : Cz2 σ) : Kd Cz2 (f_X6_addName a1 a2 σ) := by
  unfold f_X6_addName
  repeat' first
    | assumption
    | with_reducible exact kd_none
    | with_reducible apply kd_some
    | with_reducible apply kd_ite
    | with_reducible apply kd_gd
    | with_reducible apply kd_bd
    | with_reducible apply Cz2_pA _ _ _ _ (by decide)
    | with_reducible apply Cz2_pB
    | intro _ _ _
theorem kcz_f_X6_variableIn_B3 (rec3 : Int32 → Int64 → Int32 → S5 → Option (Int32 × S5)) (hrec3 : ∀ v0 v1 v2 (σ : S5), Cz2 σ → Kd Cz2 (rec3 v0 v1 v2 σ)) (v1 : Int32) (v2 : Int64) (v4 : Int32) (σ : S5) (h : Cz2 σ) : Kd Cz2 (f_X6_variableIn_B3 rec3 v1 v2 v4 σ) := by
  unfold f_X6_variableIn_B3
  repeat' first
    | assumption
    | with_reducible exact kd_none
    | with_reducible apply kd_some
    | with_reducible apply kd_ite
    | with_reducible apply kd_gd
    | with_reducible apply kd_bd
    | with_reducible apply hrec3
    | intro _ _ _
theorem kcz_f_X6_variableIn_L3 : ∀ (n : Nat) v0 v1 v2 (σ : S5), Cz2 σ → Kd Cz2 (f_X6_variableIn_L3 n v0 v1 v2 σ)
  | 0, _, _, _, _, _ => kd_none
  | n + 1, v0, v1, v2, σ, h => by
    unfold f_X6_variableIn_L3
    exact kcz_f_X6_variableIn_B3 _ (kcz_f_X6_variableIn_L3 n) v0 v1 v2 σ h
theorem kcz_f_X6_variableIn (a1 : Int32) (a2 : Int64) (σ : S5) (h : Cz2 σ) : Kd Cz2 (f_X6_variableIn a1 a2 σ) := by
  unfold f_X6_variableIn
  repeat' first
    | assumption
    | with_reducible exact kd_none
    | with_reducible apply kd_some
    | with_reducible apply kd_ite
    | with_reducible apply kd_bd
    | with_reducible apply kcz_f_X6_variableIn_L3
    | intro _ _ _
theorem kcz_f_X6_has (a1 : Int32) (a2 : Int64) (σ : S5) (h : Cz2 σ) : Kd Cz2 (f_X6_has a1 a2 σ) := by
  unfold f_X6_has
  repeat' first
    | assumption
    | with_reducible exact kd_none
    | with_reducible apply kd_some
    | with_reducible apply kd_ite
    | with_reducible apply kd_bd
    | with_reducible apply kcz_f_X6_variableIn
    | intro _ _ _
theorem kcz_f_X6_find_B6 (rec6 : Int64 → Int32 → Int32 → S5 → Option (Int32 × S5)) (hrec6 : ∀ v0 v1 v2 (σ : S5), Cz2 σ → Kd Cz2 (rec6 v0 v1 v2 σ)) (v2 : Int64) (v4 : Int32) (v5 : Int32) (σ : S5) (h : Cz2 σ) : Kd Cz2 (f_X6_find_B6 rec6 v2 v4 v5 σ) := by
  unfold f_X6_find_B6
  repeat' first
    | assumption
    | with_reducible exact kd_none
    | with_reducible apply kd_some
    | with_reducible apply kd_ite
    | with_reducible apply kd_gd
    | with_reducible apply kd_bd
    | with_reducible apply kcz_f_X6_variableIn
    | with_reducible apply hrec6
    | intro _ _ _
theorem kcz_f_X6_find_L6 : ∀ (n : Nat) v0 v1 v2 (σ : S5), Cz2 σ → Kd Cz2 (f_X6_find_L6 n v0 v1 v2 σ)
  | 0, _, _, _, _, _ => kd_none
  | n + 1, v0, v1, v2, σ, h => by
    unfold f_X6_find_L6
    exact kcz_f_X6_find_B6 _ (kcz_f_X6_find_L6 n) v0 v1 v2 σ h
theorem kcz_f_X6_find (a1 : Int32) (a2 : Int64) (σ : S5) (h : Cz2 σ) : Kd Cz2 (f_X6_find a1 a2 σ) := by
  unfold f_X6_find
  repeat' first
    | assumption
    | with_reducible exact kd_none
    | with_reducible apply kd_some
    | with_reducible apply kd_ite
    | with_reducible apply kd_bd
    | with_reducible apply kcz_f_X6_find_L6
    | intro _ _ _
theorem kcz_f_X6_addUse (a1 : Int64) (a3 : Int32) (a4 : Int32) (a5 : Int32) (σ : S5) (h : Cz2 σ) : Kd Cz2 (f_X6_addUse a1 a3 a4 a5 σ) := by
  unfold f_X6_addUse
  repeat' first
    | assumption
    | with_reducible exact kd_none
    | with_reducible apply kd_some
    | with_reducible apply kd_ite
    | with_reducible apply kd_gd
    | with_reducible apply kd_bd
    | with_reducible apply Cz2_pI _ _ _ (by decide)
    | with_reducible apply Cz2_pA _ _ _ _ (by decide)
    | with_reducible apply Cz2_pB
    | intro _ _ _
theorem kcz_f_X5_refuse (a1 : Int32) (σ : S5) (h : Cz2 σ) : Kd Cz2 (f_X5_refuse a1 σ) := by
  unfold f_X5_refuse
  repeat' first
    | assumption
    | with_reducible exact kd_none
    | with_reducible apply kd_some
    | with_reducible apply kd_ite
    | with_reducible apply kd_bd
    | with_reducible apply Cz2_pI _ _ _ (by decide)
    | with_reducible apply kcz_f_X10_stop
    | intro _ _ _
theorem kcz_f_X5_expect (a1 : Int32) (σ : S5) (h : Cz2 σ) : Kd Cz2 (f_X5_expect a1 σ) := by
  unfold f_X5_expect
  repeat' first
    | assumption
    | with_reducible exact kd_none
    | with_reducible apply kd_some
    | with_reducible apply kd_ite
    | with_reducible apply kd_bd
    | with_reducible apply kcz_f_X10_advance
    | with_reducible apply kcz_f_X5_refuse
    | intro _ _ _
theorem kcz_f_X5_countPart  (σ : S5) (h : Cz2 σ) : Kd Cz2 (f_X5_countPart  σ) := by
  unfold f_X5_countPart
  repeat' first
    | assumption
    | with_reducible exact kd_none
    | with_reducible apply kd_some
    | with_reducible apply kd_ite
    | with_reducible apply kd_bd
    | with_reducible apply Cz2_pI _ _ _ (by decide)
    | with_reducible apply kcz_f_X5_refuse
    | intro _ _ _
theorem kcz_f_X5_opens  (σ : S5) (h : Cz2 σ) : Kd Cz2 (f_X5_opens  σ) := by
  unfold f_X5_opens
  repeat' first
    | assumption
    | with_reducible exact kd_none
    | with_reducible apply kd_some
    | with_reducible apply kd_ite
    | with_reducible apply kd_bd
    | with_reducible apply Cz2_pI _ _ _ (by decide)
    | with_reducible apply kcz_f_X5_refuse
    | intro _ _ _
theorem kcz_f_X5_readConstructor_b93  (σ : S5) (h : Cz2 σ) : Kd Cz2 (f_X5_readConstructor_b93  σ) := by
  unfold f_X5_readConstructor_b93
  repeat' first
    | assumption
    | with_reducible exact kd_none
    | with_reducible apply kd_some
    | with_reducible apply kd_ite
    | with_reducible apply kd_bd
    | with_reducible apply kcz_f_X5_refuse
    | intro _ _ _
theorem kcz_f_X5_readConstructor_b64 (v1 : Int64) (σ : S5) (h : Cz2 σ) : Kd Cz2 (f_X5_readConstructor_b64 v1 σ) := by
  unfold f_X5_readConstructor_b64
  repeat' first
    | assumption
    | with_reducible exact kd_none
    | with_reducible apply kd_some
    | with_reducible apply kd_ite
    | with_reducible apply kd_bd
    | with_reducible apply kcz_f_X10_advance
    | with_reducible apply kcz_f_X4_addConstructor
    | with_reducible apply kcz_f_X5_readConstructor_b93
    | intro _ _ _
theorem kcz_f_X5_readConstructor  (σ : S5) (h : Cz2 σ) : Kd Cz2 (f_X5_readConstructor  σ) := by
  unfold f_X5_readConstructor
  repeat' first
    | assumption
    | with_reducible exact kd_none
    | with_reducible apply kd_some
    | with_reducible apply kd_ite
    | with_reducible apply kd_bd
    | with_reducible apply kcz_f_X4_constructorOf
    | with_reducible apply kcz_f_X5_refuse
    | with_reducible apply kcz_f_X5_readConstructor_b64
    | intro _ _ _
theorem kcz_f_X5_readData_b49  (σ : S5) (h : Cz2 σ) : Kd Cz2 (f_X5_readData_b49  σ) := by
  unfold f_X5_readData_b49
  repeat' first
    | assumption
    | with_reducible exact kd_none
    | with_reducible apply kd_some
    | with_reducible apply kd_ite
    | with_reducible apply kd_bd
    | with_reducible apply kcz_f_X5_expect
    | intro _ _ _
theorem kcz_f_X5_readData_B13 (rec13 : Int32 → S5 → Option (Unit × S5)) (hrec13 : ∀ v0 (σ : S5), Cz2 σ → Kd Cz2 (rec13 v0 σ)) (v1 : Int32) (σ : S5) (h : Cz2 σ) : Kd Cz2 (f_X5_readData_B13 rec13 v1 σ) := by
  unfold f_X5_readData_B13
  repeat' first
    | assumption
    | with_reducible exact kd_none
    | with_reducible apply kd_some
    | with_reducible apply kd_ite
    | with_reducible apply kd_bd
    | with_reducible apply kcz_f_X10_advance
    | with_reducible apply kcz_f_X5_readConstructor
    | with_reducible apply kcz_f_X5_readData_b49
    | with_reducible apply hrec13
    | intro _ _ _
theorem kcz_f_X5_readData_L13 : ∀ (n : Nat) v0 (σ : S5), Cz2 σ → Kd Cz2 (f_X5_readData_L13 n v0 σ)
  | 0, _, _, _ => kd_none
  | n + 1, v0, σ, h => by
    unfold f_X5_readData_L13
    exact kcz_f_X5_readData_B13 _ (kcz_f_X5_readData_L13 n) v0 σ h
theorem kcz_f_X5_readData  (σ : S5) (h : Cz2 σ) : Kd Cz2 (f_X5_readData  σ) := by
  unfold f_X5_readData
  repeat' first
    | assumption
    | with_reducible exact kd_none
    | with_reducible apply kd_some
    | with_reducible apply kd_ite
    | with_reducible apply kd_bd
    | with_reducible apply kcz_f_X10_advance
    | with_reducible apply kcz_f_X5_readConstructor
    | with_reducible apply kcz_f_X5_readData_L13
    | intro _ _ _
theorem kcz_f_X5_declare (a1 : Int32) (σ : S5) (h : Cz2 σ) : Kd Cz2 (f_X5_declare a1 σ) := by
  unfold f_X5_declare
  repeat' first
    | assumption
    | with_reducible exact kd_none
    | with_reducible apply kd_some
    | with_reducible apply kd_ite
    | with_reducible apply kd_gd
    | with_reducible apply kd_bd
    | with_reducible apply kcz_f_X10_advance
    | with_reducible apply kcz_f_X6_addName
    | with_reducible apply kcz_f_X6_has
    | with_reducible apply kcz_f_X5_refuse
    | intro _ _ _
theorem kcz_f_X5_readParameters_B2 (rec2 : Int32 → Int32 → S5 → Option (Unit × S5)) (hrec2 : ∀ v0 v1 (σ : S5), Cz2 σ → Kd Cz2 (rec2 v0 v1 σ)) (v1 : Int32) (v2 : Int32) (σ : S5) (h : Cz2 σ) : Kd Cz2 (f_X5_readParameters_B2 rec2 v1 v2 σ) := by
  unfold f_X5_readParameters_B2
  repeat' first
    | assumption
    | with_reducible exact kd_none
    | with_reducible apply kd_some
    | with_reducible apply kd_ite
    | with_reducible apply kd_bd
    | with_reducible apply kcz_f_X5_declare
    | with_reducible apply hrec2
    | intro _ _ _
theorem kcz_f_X5_readParameters_L2 : ∀ (n : Nat) v0 v1 (σ : S5), Cz2 σ → Kd Cz2 (f_X5_readParameters_L2 n v0 v1 σ)
  | 0, _, _, _, _ => kd_none
  | n + 1, v0, v1, σ, h => by
    unfold f_X5_readParameters_L2
    exact kcz_f_X5_readParameters_B2 _ (kcz_f_X5_readParameters_L2 n) v0 v1 σ h
theorem kcz_f_X5_readParameters (a1 : Int32) (σ : S5) (h : Cz2 σ) : Kd Cz2 (f_X5_readParameters a1 σ) := by
  unfold f_X5_readParameters
  repeat' first
    | assumption
    | with_reducible exact kd_none
    | with_reducible apply kd_some
    | with_reducible apply kd_ite
    | with_reducible apply kd_bd
    | with_reducible apply kcz_f_X5_readParameters_L2
    | intro _ _ _
theorem kcz_f_X5_isAtom_b27  (σ : S5) (h : Cz2 σ) : Kd Cz2 (f_X5_isAtom_b27  σ) := by
  unfold f_X5_isAtom_b27
  repeat' first
    | assumption
    | with_reducible exact kd_none
    | with_reducible apply kd_some
    | with_reducible apply kd_ite
    | with_reducible apply kd_bd
    | intro _ _ _
theorem kcz_f_X5_isAtom (a0 : Int32) (σ : S5) (h : Cz2 σ) : Kd Cz2 (f_X5_isAtom a0 σ) := by
  unfold f_X5_isAtom
  repeat' first
    | assumption
    | with_reducible exact kd_none
    | with_reducible apply kd_some
    | with_reducible apply kd_ite
    | with_reducible apply kd_bd
    | with_reducible apply kcz_f_X5_isAtom_b27
    | intro _ _ _
theorem kcz_f_X5_atomStands_b98  (σ : S5) (h : Cz2 σ) : Kd Cz2 (f_X5_atomStands_b98  σ) := by
  unfold f_X5_atomStands_b98
  repeat' first
    | assumption
    | with_reducible exact kd_none
    | with_reducible apply kd_some
    | with_reducible apply kd_ite
    | with_reducible apply kd_bd
    | intro _ _ _
theorem kcz_f_X5_atomStands_b93  (σ : S5) (h : Cz2 σ) : Kd Cz2 (f_X5_atomStands_b93  σ) := by
  unfold f_X5_atomStands_b93
  repeat' first
    | assumption
    | with_reducible exact kd_none
    | with_reducible apply kd_some
    | with_reducible apply kd_ite
    | with_reducible apply kd_bd
    | with_reducible apply kcz_f_X5_refuse
    | with_reducible apply kcz_f_X5_atomStands_b98
    | intro _ _ _
theorem kcz_f_X5_atomStands_b56  (σ : S5) (h : Cz2 σ) : Kd Cz2 (f_X5_atomStands_b56  σ) := by
  unfold f_X5_atomStands_b56
  repeat' first
    | assumption
    | with_reducible exact kd_none
    | with_reducible apply kd_some
    | with_reducible apply kd_ite
    | with_reducible apply kd_bd
    | with_reducible apply kcz_f_X5_atomStands_b98
    | intro _ _ _
theorem kcz_f_X5_atomStands  (σ : S5) (h : Cz2 σ) : Kd Cz2 (f_X5_atomStands  σ) := by
  unfold f_X5_atomStands
  repeat' first
    | assumption
    | with_reducible exact kd_none
    | with_reducible apply kd_some
    | with_reducible apply kd_ite
    | with_reducible apply kd_gd
    | with_reducible apply kd_bd
    | with_reducible apply kcz_f_X4_constructorOf
    | with_reducible apply kcz_f_X5_refuse
    | with_reducible apply kcz_f_X5_isAtom
    | with_reducible apply kcz_f_X5_atomStands_b98
    | with_reducible apply kcz_f_X5_atomStands_b93
    | with_reducible apply kcz_f_X5_atomStands_b56
    | intro _ _ _
theorem kcz_f_X5_readSign  (σ : S5) (h : Cz2 σ) : Kd Cz2 (f_X5_readSign  σ) := by
  unfold f_X5_readSign
  repeat' first
    | assumption
    | with_reducible exact kd_none
    | with_reducible apply kd_some
    | with_reducible apply kd_ite
    | with_reducible apply kd_bd
    | with_reducible apply kcz_f_X10_advance
    | with_reducible apply kcz_f_X5_countPart
    | intro _ _ _
theorem kcz_f_X5_join (a1 : Int32) (a2 : Int32) (a3 : Int32) (σ : S5) (h : Cz2 σ) : Kd Cz2 (f_X5_join a1 a2 a3 σ) := by
  unfold f_X5_join
  repeat' first
    | assumption
    | with_reducible exact kd_none
    | with_reducible apply kd_some
    | with_reducible apply kd_ite
    | with_reducible apply kd_gd
    | with_reducible apply kd_bd
    | with_reducible apply Cz2_pA _ _ _ _ (by decide)
    | with_reducible apply kcz_f_X9_add
    | intro _ _ _
theorem kcz_f_X5_readAtom_b185 (E : S5 → Option (Int32 × S5)) (hE : ∀  σ, Cz2 σ → Kd Cz2 (E  σ)) (v2 : Int32) (σ : S5) (h : Cz2 σ) : Kd Cz2 (f_X5_readAtom_b185 E v2 σ) := by
  unfold f_X5_readAtom_b185
  repeat' first
    | assumption
    | with_reducible exact kd_none
    | with_reducible apply kd_some
    | with_reducible apply kd_ite
    | with_reducible apply kd_bd
    | with_reducible apply kcz_f_X10_advance
    | with_reducible apply hE
    | intro _ _ _
theorem kcz_f_X5_readAtom (E : S5 → Option (Int32 × S5)) (hE : ∀  σ, Cz2 σ → Kd Cz2 (E  σ)) (σ : S5) (h : Cz2 σ) : Kd Cz2 (f_X5_readAtom E  σ) := by
  unfold f_X5_readAtom
  repeat' first
    | assumption
    | with_reducible exact kd_none
    | with_reducible apply kd_some
    | with_reducible apply kd_ite
    | with_reducible apply kd_bd
    | with_reducible apply Cz2_pI _ _ _ (by decide)
    | with_reducible apply kcz_f_X10_advance
    | with_reducible apply kcz_f_X9_addLeaf
    | with_reducible apply kcz_f_X4_constructorOf
    | with_reducible apply kcz_f_X6_addUse
    | with_reducible apply kcz_f_X5_expect
    | with_reducible apply kcz_f_X5_countPart
    | with_reducible apply kcz_f_X5_readAtom_b185 E hE
    | with_reducible apply hE
    | intro _ _ _
theorem kcz_f_X5_readBuild_b81 (E : S5 → Option (Int32 × S5)) (hE : ∀  σ, Cz2 σ → Kd Cz2 (E  σ)) (v1 : Int32) (v2 : Int32) (σ : S5) (h : Cz2 σ) : Kd Cz2 (f_X5_readBuild_b81 E v1 v2 σ) := by
  unfold f_X5_readBuild_b81
  repeat' first
    | assumption
    | with_reducible exact kd_none
    | with_reducible apply kd_some
    | with_reducible apply kd_ite
    | with_reducible apply kd_bd
    | with_reducible apply kcz_f_X9_add
    | with_reducible apply hE
    | intro _ _ _
theorem kcz_f_X5_readBuild_b72 (E : S5 → Option (Int32 × S5)) (hE : ∀  σ, Cz2 σ → Kd Cz2 (E  σ)) (rec14 : Int32 → Int32 → Int32 → Int32 → S5 → Option (Int32 × S5)) (hrec14 : ∀ v0 v1 v2 v3 (σ : S5), Cz2 σ → Kd Cz2 (rec14 v0 v1 v2 v3 σ)) (v1 : Int32) (v2 : Int32) (v4 : Int32) (v5 : Int32) (σ : S5) (h : Cz2 σ) : Kd Cz2 (f_X5_readBuild_b72 E rec14 v1 v2 v4 v5 σ) := by
  unfold f_X5_readBuild_b72
  repeat' first
    | assumption
    | with_reducible exact kd_none
    | with_reducible apply kd_some
    | with_reducible apply kd_ite
    | with_reducible apply kd_bd
    | with_reducible apply hE
    | with_reducible apply hrec14
    | intro _ _ _
theorem kcz_f_X5_readBuild_b44 (E : S5 → Option (Int32 × S5)) (hE : ∀  σ, Cz2 σ → Kd Cz2 (E  σ)) (rec14 : Int32 → Int32 → Int32 → Int32 → S5 → Option (Int32 × S5)) (hrec14 : ∀ v0 v1 v2 v3 (σ : S5), Cz2 σ → Kd Cz2 (rec14 v0 v1 v2 v3 σ)) (v1 : Int32) (v2 : Int32) (v3 : Int32) (v4 : Int32) (σ : S5) (h : Cz2 σ) : Kd Cz2 (f_X5_readBuild_b44 E rec14 v1 v2 v3 v4 σ) := by
  unfold f_X5_readBuild_b44
  repeat' first
    | assumption
    | with_reducible exact kd_none
    | with_reducible apply kd_some
    | with_reducible apply kd_ite
    | with_reducible apply kd_gd
    | with_reducible apply kd_bd
    | with_reducible apply Cz2_pA _ _ _ _ (by decide)
    | with_reducible apply kcz_f_X5_readAtom E hE
    | with_reducible apply kcz_f_X5_readBuild_b72 E hE
    | with_reducible apply hE
    | with_reducible apply hrec14
    | intro _ _ _
theorem kcz_f_X5_readBuild_B14 (E : S5 → Option (Int32 × S5)) (hE : ∀  σ, Cz2 σ → Kd Cz2 (E  σ)) (rec14 : Int32 → Int32 → Int32 → Int32 → S5 → Option (Int32 × S5)) (hrec14 : ∀ v0 v1 v2 v3 (σ : S5), Cz2 σ → Kd Cz2 (rec14 v0 v1 v2 v3 σ)) (v1 : Int32) (v2 : Int32) (v3 : Int32) (v4 : Int32) (σ : S5) (h : Cz2 σ) : Kd Cz2 (f_X5_readBuild_B14 E rec14 v1 v2 v3 v4 σ) := by
  unfold f_X5_readBuild_B14
  repeat' first
    | assumption
    | with_reducible exact kd_none
    | with_reducible apply kd_some
    | with_reducible apply kd_ite
    | with_reducible apply kd_gd
    | with_reducible apply kd_bd
    | with_reducible apply kcz_f_X5_countPart
    | with_reducible apply kcz_f_X5_atomStands
    | with_reducible apply kcz_f_X5_readBuild_b81 E hE
    | with_reducible apply kcz_f_X5_readBuild_b44 E hE
    | with_reducible apply hE
    | with_reducible apply hrec14
    | intro _ _ _
theorem kcz_f_X5_readBuild_L14 (E : S5 → Option (Int32 × S5)) (hE : ∀  σ, Cz2 σ → Kd Cz2 (E  σ)) : ∀ (n : Nat) v0 v1 v2 v3 (σ : S5), Cz2 σ → Kd Cz2 (f_X5_readBuild_L14 E n v0 v1 v2 v3 σ)
  | 0, _, _, _, _, _, _ => kd_none
  | n + 1, v0, v1, v2, v3, σ, h => by
    unfold f_X5_readBuild_L14
    exact kcz_f_X5_readBuild_B14 E hE _ (kcz_f_X5_readBuild_L14 E hE n) v0 v1 v2 v3 σ h
theorem kcz_f_X5_readBuild (E : S5 → Option (Int32 × S5)) (hE : ∀  σ, Cz2 σ → Kd Cz2 (E  σ)) (a1 : Int32) (σ : S5) (h : Cz2 σ) : Kd Cz2 (f_X5_readBuild E a1 σ) := by
  unfold f_X5_readBuild
  repeat' first
    | assumption
    | with_reducible exact kd_none
    | with_reducible apply kd_some
    | with_reducible apply kd_ite
    | with_reducible apply kd_bd
    | with_reducible apply kcz_f_X10_advance
    | with_reducible apply kcz_f_X5_readBuild_L14 E hE
    | with_reducible apply hE
    | intro _ _ _
theorem kcz_f_X5_readApplication_b139 (E : S5 → Option (Int32 × S5)) (hE : ∀  σ, Cz2 σ → Kd Cz2 (E  σ)) (v1 : Int32) (v3 : Int32) (σ : S5) (h : Cz2 σ) : Kd Cz2 (f_X5_readApplication_b139 E v1 v3 σ) := by
  unfold f_X5_readApplication_b139
  repeat' first
    | assumption
    | with_reducible exact kd_none
    | with_reducible apply kd_some
    | with_reducible apply kd_ite
    | with_reducible apply kd_bd
    | with_reducible apply kcz_f_X9_add
    | with_reducible apply hE
    | intro _ _ _
theorem kcz_f_X5_readApplication_b113 (E : S5 → Option (Int32 × S5)) (hE : ∀  σ, Cz2 σ → Kd Cz2 (E  σ)) (rec67 : Int32 → Int32 → Int32 → S5 → Option (Int32 × S5)) (hrec67 : ∀ v0 v1 v2 (σ : S5), Cz2 σ → Kd Cz2 (rec67 v0 v1 v2 σ)) (v1 : Int32) (v2 : Int32) (v3 : Int32) (σ : S5) (h : Cz2 σ) : Kd Cz2 (f_X5_readApplication_b113 E rec67 v1 v2 v3 σ) := by
  unfold f_X5_readApplication_b113
  repeat' first
    | assumption
    | with_reducible exact kd_none
    | with_reducible apply kd_some
    | with_reducible apply kd_ite
    | with_reducible apply kd_gd
    | with_reducible apply kd_bd
    | with_reducible apply Cz2_pA _ _ _ _ (by decide)
    | with_reducible apply kcz_f_X5_readAtom E hE
    | with_reducible apply hE
    | with_reducible apply hrec67
    | intro _ _ _
theorem kcz_f_X5_readApplication_B67 (E : S5 → Option (Int32 × S5)) (hE : ∀  σ, Cz2 σ → Kd Cz2 (E  σ)) (rec67 : Int32 → Int32 → Int32 → S5 → Option (Int32 × S5)) (hrec67 : ∀ v0 v1 v2 (σ : S5), Cz2 σ → Kd Cz2 (rec67 v0 v1 v2 σ)) (v1 : Int32) (v2 : Int32) (v3 : Int32) (σ : S5) (h : Cz2 σ) : Kd Cz2 (f_X5_readApplication_B67 E rec67 v1 v2 v3 σ) := by
  unfold f_X5_readApplication_B67
  repeat' first
    | assumption
    | with_reducible exact kd_none
    | with_reducible apply kd_some
    | with_reducible apply kd_ite
    | with_reducible apply kd_bd
    | with_reducible apply kcz_f_X5_refuse
    | with_reducible apply kcz_f_X5_countPart
    | with_reducible apply kcz_f_X5_isAtom
    | with_reducible apply kcz_f_X5_atomStands
    | with_reducible apply kcz_f_X5_readApplication_b139 E hE
    | with_reducible apply kcz_f_X5_readApplication_b113 E hE
    | with_reducible apply hE
    | with_reducible apply hrec67
    | intro _ _ _
theorem kcz_f_X5_readApplication_L67 (E : S5 → Option (Int32 × S5)) (hE : ∀  σ, Cz2 σ → Kd Cz2 (E  σ)) : ∀ (n : Nat) v0 v1 v2 (σ : S5), Cz2 σ → Kd Cz2 (f_X5_readApplication_L67 E n v0 v1 v2 σ)
  | 0, _, _, _, _, _ => kd_none
  | n + 1, v0, v1, v2, σ, h => by
    unfold f_X5_readApplication_L67
    exact kcz_f_X5_readApplication_B67 E hE _ (kcz_f_X5_readApplication_L67 E hE n) v0 v1 v2 σ h
theorem kcz_f_X5_readApplication_b49 (E : S5 → Option (Int32 × S5)) (hE : ∀  σ, Cz2 σ → Kd Cz2 (E  σ)) (σ : S5) (h : Cz2 σ) : Kd Cz2 (f_X5_readApplication_b49 E  σ) := by
  unfold f_X5_readApplication_b49
  repeat' first
    | assumption
    | with_reducible exact kd_none
    | with_reducible apply kd_some
    | with_reducible apply kd_ite
    | with_reducible apply kd_bd
    | with_reducible apply kcz_f_X5_atomStands
    | with_reducible apply kcz_f_X5_readAtom E hE
    | with_reducible apply kcz_f_X5_readApplication_L67 E hE
    | with_reducible apply hE
    | intro _ _ _
theorem kcz_f_X5_readApplication (E : S5 → Option (Int32 × S5)) (hE : ∀  σ, Cz2 σ → Kd Cz2 (E  σ)) (σ : S5) (h : Cz2 σ) : Kd Cz2 (f_X5_readApplication E  σ) := by
  unfold f_X5_readApplication
  repeat' first
    | assumption
    | with_reducible exact kd_none
    | with_reducible apply kd_some
    | with_reducible apply kd_ite
    | with_reducible apply kd_gd
    | with_reducible apply kd_bd
    | with_reducible apply kcz_f_X4_constructorOf
    | with_reducible apply kcz_f_X5_readBuild E hE
    | with_reducible apply kcz_f_X5_readApplication_b49 E hE
    | with_reducible apply hE
    | intro _ _ _
theorem kcz_f_X5_readProduct_b50 (E : S5 → Option (Int32 × S5)) (hE : ∀  σ, Cz2 σ → Kd Cz2 (E  σ)) (rec7 : Int32 → Int32 → S5 → Option (Int32 × S5)) (hrec7 : ∀ v0 v1 (σ : S5), Cz2 σ → Kd Cz2 (rec7 v0 v1 σ)) (v1 : Int32) (v2 : Int32) (σ : S5) (h : Cz2 σ) : Kd Cz2 (f_X5_readProduct_b50 E rec7 v1 v2 σ) := by
  unfold f_X5_readProduct_b50
  repeat' first
    | assumption
    | with_reducible exact kd_none
    | with_reducible apply kd_some
    | with_reducible apply kd_ite
    | with_reducible apply kd_bd
    | with_reducible apply kcz_f_X5_readSign
    | with_reducible apply kcz_f_X5_join
    | with_reducible apply kcz_f_X5_readApplication E hE
    | with_reducible apply hE
    | with_reducible apply hrec7
    | intro _ _ _
theorem kcz_f_X5_readProduct_B7 (E : S5 → Option (Int32 × S5)) (hE : ∀  σ, Cz2 σ → Kd Cz2 (E  σ)) (rec7 : Int32 → Int32 → S5 → Option (Int32 × S5)) (hrec7 : ∀ v0 v1 (σ : S5), Cz2 σ → Kd Cz2 (rec7 v0 v1 σ)) (v1 : Int32) (v2 : Int32) (σ : S5) (h : Cz2 σ) : Kd Cz2 (f_X5_readProduct_B7 E rec7 v1 v2 σ) := by
  unfold f_X5_readProduct_B7
  repeat' first
    | assumption
    | with_reducible exact kd_none
    | with_reducible apply kd_some
    | with_reducible apply kd_ite
    | with_reducible apply kd_bd
    | with_reducible apply kcz_f_X5_readProduct_b50 E hE
    | with_reducible apply hE
    | with_reducible apply hrec7
    | intro _ _ _
theorem kcz_f_X5_readProduct_L7 (E : S5 → Option (Int32 × S5)) (hE : ∀  σ, Cz2 σ → Kd Cz2 (E  σ)) : ∀ (n : Nat) v0 v1 (σ : S5), Cz2 σ → Kd Cz2 (f_X5_readProduct_L7 E n v0 v1 σ)
  | 0, _, _, _, _ => kd_none
  | n + 1, v0, v1, σ, h => by
    unfold f_X5_readProduct_L7
    exact kcz_f_X5_readProduct_B7 E hE _ (kcz_f_X5_readProduct_L7 E hE n) v0 v1 σ h
theorem kcz_f_X5_readProduct (E : S5 → Option (Int32 × S5)) (hE : ∀  σ, Cz2 σ → Kd Cz2 (E  σ)) (σ : S5) (h : Cz2 σ) : Kd Cz2 (f_X5_readProduct E  σ) := by
  unfold f_X5_readProduct
  repeat' first
    | assumption
    | with_reducible exact kd_none
    | with_reducible apply kd_some
    | with_reducible apply kd_ite
    | with_reducible apply kd_bd
    | with_reducible apply kcz_f_X5_readApplication E hE
    | with_reducible apply kcz_f_X5_readProduct_L7 E hE
    | with_reducible apply hE
    | intro _ _ _
theorem kcz_f_X5_readSum_b38 (E : S5 → Option (Int32 × S5)) (hE : ∀  σ, Cz2 σ → Kd Cz2 (E  σ)) (rec7 : Int32 → Int32 → S5 → Option (Int32 × S5)) (hrec7 : ∀ v0 v1 (σ : S5), Cz2 σ → Kd Cz2 (rec7 v0 v1 σ)) (v1 : Int32) (v2 : Int32) (σ : S5) (h : Cz2 σ) : Kd Cz2 (f_X5_readSum_b38 E rec7 v1 v2 σ) := by
  unfold f_X5_readSum_b38
  repeat' first
    | assumption
    | with_reducible exact kd_none
    | with_reducible apply kd_some
    | with_reducible apply kd_ite
    | with_reducible apply kd_bd
    | with_reducible apply kcz_f_X5_readSign
    | with_reducible apply kcz_f_X5_join
    | with_reducible apply kcz_f_X5_readProduct E hE
    | with_reducible apply hE
    | with_reducible apply hrec7
    | intro _ _ _
theorem kcz_f_X5_readSum_B7 (E : S5 → Option (Int32 × S5)) (hE : ∀  σ, Cz2 σ → Kd Cz2 (E  σ)) (rec7 : Int32 → Int32 → S5 → Option (Int32 × S5)) (hrec7 : ∀ v0 v1 (σ : S5), Cz2 σ → Kd Cz2 (rec7 v0 v1 σ)) (v1 : Int32) (v2 : Int32) (σ : S5) (h : Cz2 σ) : Kd Cz2 (f_X5_readSum_B7 E rec7 v1 v2 σ) := by
  unfold f_X5_readSum_B7
  repeat' first
    | assumption
    | with_reducible exact kd_none
    | with_reducible apply kd_some
    | with_reducible apply kd_ite
    | with_reducible apply kd_bd
    | with_reducible apply kcz_f_X5_readSum_b38 E hE
    | with_reducible apply hE
    | with_reducible apply hrec7
    | intro _ _ _
theorem kcz_f_X5_readSum_L7 (E : S5 → Option (Int32 × S5)) (hE : ∀  σ, Cz2 σ → Kd Cz2 (E  σ)) : ∀ (n : Nat) v0 v1 (σ : S5), Cz2 σ → Kd Cz2 (f_X5_readSum_L7 E n v0 v1 σ)
  | 0, _, _, _, _ => kd_none
  | n + 1, v0, v1, σ, h => by
    unfold f_X5_readSum_L7
    exact kcz_f_X5_readSum_B7 E hE _ (kcz_f_X5_readSum_L7 E hE n) v0 v1 σ h
theorem kcz_f_X5_readSum (E : S5 → Option (Int32 × S5)) (hE : ∀  σ, Cz2 σ → Kd Cz2 (E  σ)) (σ : S5) (h : Cz2 σ) : Kd Cz2 (f_X5_readSum E  σ) := by
  unfold f_X5_readSum
  repeat' first
    | assumption
    | with_reducible exact kd_none
    | with_reducible apply kd_some
    | with_reducible apply kd_ite
    | with_reducible apply kd_bd
    | with_reducible apply kcz_f_X5_readProduct E hE
    | with_reducible apply kcz_f_X5_readSum_L7 E hE
    | with_reducible apply hE
    | intro _ _ _
theorem kcz_f_X5_readComparison_b43 (E : S5 → Option (Int32 × S5)) (hE : ∀  σ, Cz2 σ → Kd Cz2 (E  σ)) (v1 : Int32) (σ : S5) (h : Cz2 σ) : Kd Cz2 (f_X5_readComparison_b43 E v1 σ) := by
  unfold f_X5_readComparison_b43
  repeat' first
    | assumption
    | with_reducible exact kd_none
    | with_reducible apply kd_some
    | with_reducible apply kd_ite
    | with_reducible apply kd_bd
    | with_reducible apply kcz_f_X5_readSign
    | with_reducible apply kcz_f_X5_join
    | with_reducible apply kcz_f_X5_readSum E hE
    | with_reducible apply hE
    | intro _ _ _
theorem kcz_f_X5_readComparison (E : S5 → Option (Int32 × S5)) (hE : ∀  σ, Cz2 σ → Kd Cz2 (E  σ)) (σ : S5) (h : Cz2 σ) : Kd Cz2 (f_X5_readComparison E  σ) := by
  unfold f_X5_readComparison
  repeat' first
    | assumption
    | with_reducible exact kd_none
    | with_reducible apply kd_some
    | with_reducible apply kd_ite
    | with_reducible apply kd_bd
    | with_reducible apply kcz_f_X5_readSum E hE
    | with_reducible apply kcz_f_X5_readComparison_b43 E hE
    | with_reducible apply hE
    | intro _ _ _
theorem kcz_f_X5_readWithin (E : S5 → Option (Int32 × S5)) (hE : ∀  σ, Cz2 σ → Kd Cz2 (E  σ)) (a1 : Int32) (σ : S5) (h : Cz2 σ) : Kd Cz2 (f_X5_readWithin E a1 σ) := by
  unfold f_X5_readWithin
  repeat' first
    | assumption
    | with_reducible exact kd_none
    | with_reducible apply kd_some
    | with_reducible apply kd_ite
    | with_reducible apply kd_bd
    | with_reducible apply Cz2_pI _ _ _ (by decide)
    | with_reducible apply hE
    | intro _ _ _
theorem kcz_f_X5_readLifted_b66 (E : S5 → Option (Int32 × S5)) (hE : ∀  σ, Cz2 σ → Kd Cz2 (E  σ)) (v3 : Int32) (u0 : Int32) (σ : S5) (h : Cz2 σ) : Kd Cz2 (f_X5_readLifted_b66 E v3 u0 σ) := by
  unfold f_X5_readLifted_b66
  repeat' first
    | assumption
    | with_reducible exact kd_none
    | with_reducible apply kd_some
    | with_reducible apply kd_ite
    | with_reducible apply kd_gd
    | with_reducible apply kd_bd
    | with_reducible apply Cz2_pA _ _ _ _ (by decide)
    | with_reducible apply kcz_f_X9_addLeaf
    | with_reducible apply kcz_f_X5_expect
    | with_reducible apply kcz_f_X5_readWithin E hE
    | with_reducible apply hE
    | intro _ _ _
theorem kcz_f_X5_readLifted_b49 (E : S5 → Option (Int32 × S5)) (hE : ∀  σ, Cz2 σ → Kd Cz2 (E  σ)) (v2 : Int32) (v3 : Int32) (σ : S5) (h : Cz2 σ) : Kd Cz2 (f_X5_readLifted_b49 E v2 v3 σ) := by
  unfold f_X5_readLifted_b49
  repeat' first
    | assumption
    | with_reducible exact kd_none
    | with_reducible apply kd_some
    | with_reducible apply kd_ite
    | with_reducible apply kd_bd
    | with_reducible apply kcz_f_X5_readParameters
    | with_reducible apply kcz_f_X5_readLifted_b66 E hE
    | with_reducible apply hE
    | intro _ _ _
theorem kcz_f_X5_readLifted_b17 (E : S5 → Option (Int32 × S5)) (hE : ∀  σ, Cz2 σ → Kd Cz2 (E  σ)) (v1 : Int32) (u0 : Int32) (σ : S5) (h : Cz2 σ) : Kd Cz2 (f_X5_readLifted_b17 E v1 u0 σ) := by
  unfold f_X5_readLifted_b17
  repeat' first
    | assumption
    | with_reducible exact kd_none
    | with_reducible apply kd_some
    | with_reducible apply kd_ite
    | with_reducible apply kd_bd
    | with_reducible apply kcz_f_X10_advance
    | with_reducible apply kcz_f_X6_add
    | with_reducible apply kcz_f_X5_declare
    | with_reducible apply kcz_f_X5_readLifted_b49 E hE
    | with_reducible apply hE
    | intro _ _ _
theorem kcz_f_X5_readLifted (E : S5 → Option (Int32 × S5)) (hE : ∀  σ, Cz2 σ → Kd Cz2 (E  σ)) (a1 : Int32) (σ : S5) (h : Cz2 σ) : Kd Cz2 (f_X5_readLifted E a1 σ) := by
  unfold f_X5_readLifted
  repeat' first
    | assumption
    | with_reducible exact kd_none
    | with_reducible apply kd_some
    | with_reducible apply kd_ite
    | with_reducible apply kd_bd
    | with_reducible apply kcz_f_X5_readLifted_b17 E hE
    | with_reducible apply hE
    | intro _ _ _
theorem kcz_f_X5_readBinding_b52 (E : S5 → Option (Int32 × S5)) (hE : ∀  σ, Cz2 σ → Kd Cz2 (E  σ)) (v2 : Int32) (v3 : Int32) (σ : S5) (h : Cz2 σ) : Kd Cz2 (f_X5_readBinding_b52 E v2 v3 σ) := by
  unfold f_X5_readBinding_b52
  repeat' first
    | assumption
    | with_reducible exact kd_none
    | with_reducible apply kd_some
    | with_reducible apply kd_ite
    | with_reducible apply kd_bd
    | with_reducible apply kcz_f_X9_add
    | with_reducible apply hE
    | intro _ _ _
theorem kcz_f_X5_readBinding (E : S5 → Option (Int32 × S5)) (hE : ∀  σ, Cz2 σ → Kd Cz2 (E  σ)) (σ : S5) (h : Cz2 σ) : Kd Cz2 (f_X5_readBinding E  σ) := by
  unfold f_X5_readBinding
  repeat' first
    | assumption
    | with_reducible exact kd_none
    | with_reducible apply kd_some
    | with_reducible apply kd_ite
    | with_reducible apply kd_bd
    | with_reducible apply kcz_f_X5_expect
    | with_reducible apply kcz_f_X5_countPart
    | with_reducible apply kcz_f_X5_declare
    | with_reducible apply kcz_f_X5_readLifted E hE
    | with_reducible apply kcz_f_X5_readBinding_b52 E hE
    | with_reducible apply hE
    | intro _ _ _
theorem kcz_f_X5_readLet_b114 (E : S5 → Option (Int32 × S5)) (hE : ∀  σ, Cz2 σ → Kd Cz2 (E  σ)) (v1 : Int32) (v2 : Int32) (v3 : Int32) (σ : S5) (h : Cz2 σ) : Kd Cz2 (f_X5_readLet_b114 E v1 v2 v3 σ) := by
  unfold f_X5_readLet_b114
  repeat' first
    | assumption
    | with_reducible exact kd_none
    | with_reducible apply kd_some
    | with_reducible apply kd_ite
    | with_reducible apply kd_gd
    | with_reducible apply kd_bd
    | with_reducible apply Cz2_pI _ _ _ (by decide)
    | with_reducible apply Cz2_pA _ _ _ _ (by decide)
    | with_reducible apply kcz_f_X9_add
    | with_reducible apply kcz_f_X5_expect
    | with_reducible apply hE
    | intro _ _ _
theorem kcz_f_X5_readLet_B61 (E : S5 → Option (Int32 × S5)) (hE : ∀  σ, Cz2 σ → Kd Cz2 (E  σ)) (rec61 : Int32 → Int32 → Int32 → Int32 → Int32 → S5 → Option (Int32 × S5)) (hrec61 : ∀ v0 v1 v2 v3 v4 (σ : S5), Cz2 σ → Kd Cz2 (rec61 v0 v1 v2 v3 v4 σ)) (v1 : Int32) (v2 : Int32) (v3 : Int32) (v4 : Int32) (v5 : Int32) (σ : S5) (h : Cz2 σ) : Kd Cz2 (f_X5_readLet_B61 E rec61 v1 v2 v3 v4 v5 σ) := by
  unfold f_X5_readLet_B61
  repeat' first
    | assumption
    | with_reducible exact kd_none
    | with_reducible apply kd_some
    | with_reducible apply kd_ite
    | with_reducible apply kd_gd
    | with_reducible apply kd_bd
    | with_reducible apply Cz2_pA _ _ _ _ (by decide)
    | with_reducible apply kcz_f_X10_advance
    | with_reducible apply kcz_f_X5_readBinding E hE
    | with_reducible apply kcz_f_X5_readLet_b114 E hE
    | with_reducible apply hE
    | with_reducible apply hrec61
    | intro _ _ _
theorem kcz_f_X5_readLet_L61 (E : S5 → Option (Int32 × S5)) (hE : ∀  σ, Cz2 σ → Kd Cz2 (E  σ)) : ∀ (n : Nat) v0 v1 v2 v3 v4 (σ : S5), Cz2 σ → Kd Cz2 (f_X5_readLet_L61 E n v0 v1 v2 v3 v4 σ)
  | 0, _, _, _, _, _, _, _ => kd_none
  | n + 1, v0, v1, v2, v3, v4, σ, h => by
    unfold f_X5_readLet_L61
    exact kcz_f_X5_readLet_B61 E hE _ (kcz_f_X5_readLet_L61 E hE n) v0 v1 v2 v3 v4 σ h
theorem kcz_f_X5_readLet (E : S5 → Option (Int32 × S5)) (hE : ∀  σ, Cz2 σ → Kd Cz2 (E  σ)) (σ : S5) (h : Cz2 σ) : Kd Cz2 (f_X5_readLet E  σ) := by
  unfold f_X5_readLet
  repeat' first
    | assumption
    | with_reducible exact kd_none
    | with_reducible apply kd_some
    | with_reducible apply kd_ite
    | with_reducible apply kd_bd
    | with_reducible apply Cz2_pI _ _ _ (by decide)
    | with_reducible apply kcz_f_X10_advance
    | with_reducible apply kcz_f_X6_add
    | with_reducible apply kcz_f_X5_countPart
    | with_reducible apply kcz_f_X5_opens
    | with_reducible apply kcz_f_X5_readBinding E hE
    | with_reducible apply kcz_f_X5_readLet_L61 E hE
    | with_reducible apply hE
    | intro _ _ _
theorem kcz_f_X5_readLambda (E : S5 → Option (Int32 × S5)) (hE : ∀  σ, Cz2 σ → Kd Cz2 (E  σ)) (σ : S5) (h : Cz2 σ) : Kd Cz2 (f_X5_readLambda E  σ) := by
  unfold f_X5_readLambda
  repeat' first
    | assumption
    | with_reducible exact kd_none
    | with_reducible apply kd_some
    | with_reducible apply kd_ite
    | with_reducible apply kd_bd
    | with_reducible apply Cz2_pI _ _ _ (by decide)
    | with_reducible apply kcz_f_X5_countPart
    | with_reducible apply kcz_f_X5_opens
    | with_reducible apply kcz_f_X5_readLifted E hE
    | with_reducible apply hE
    | intro _ _ _
theorem kcz_f_X5_readAlternative_b214 (E : S5 → Option (Int32 × S5)) (hE : ∀  σ, Cz2 σ → Kd Cz2 (E  σ)) (v4 : Int32) (v6 : Int32) (u0 : Int32) (σ : S5) (h : Cz2 σ) : Kd Cz2 (f_X5_readAlternative_b214 E v4 v6 u0 σ) := by
  unfold f_X5_readAlternative_b214
  repeat' first
    | assumption
    | with_reducible exact kd_none
    | with_reducible apply kd_some
    | with_reducible apply kd_ite
    | with_reducible apply kd_bd
    | with_reducible apply kcz_f_X9_add
    | with_reducible apply hE
    | intro _ _ _
theorem kcz_f_X5_readAlternative_b163 (E : S5 → Option (Int32 × S5)) (hE : ∀  σ, Cz2 σ → Kd Cz2 (E  σ)) (v2 : Int32) (v3 : Int32) (v4 : Int32) (v5 : Int32) (σ : S5) (h : Cz2 σ) : Kd Cz2 (f_X5_readAlternative_b163 E v2 v3 v4 v5 σ) := by
  unfold f_X5_readAlternative_b163
  repeat' first
    | assumption
    | with_reducible exact kd_none
    | with_reducible apply kd_some
    | with_reducible apply kd_ite
    | with_reducible apply kd_bd
    | with_reducible apply kcz_f_X9_add
    | with_reducible apply kcz_f_X5_expect
    | with_reducible apply kcz_f_X5_readWithin E hE
    | with_reducible apply kcz_f_X5_readAlternative_b214 E hE
    | with_reducible apply hE
    | intro _ _ _
theorem kcz_f_X5_readAlternative_B136 (E : S5 → Option (Int32 × S5)) (hE : ∀  σ, Cz2 σ → Kd Cz2 (E  σ)) (rec136 : Int32 → Int32 → Int32 → Int32 → Int32 → S5 → Option (Int32 × S5)) (hrec136 : ∀ v0 v1 v2 v3 v4 (σ : S5), Cz2 σ → Kd Cz2 (rec136 v0 v1 v2 v3 v4 σ)) (v2 : Int32) (v3 : Int32) (v4 : Int32) (v5 : Int32) (v6 : Int32) (σ : S5) (h : Cz2 σ) : Kd Cz2 (f_X5_readAlternative_B136 E rec136 v2 v3 v4 v5 v6 σ) := by
  unfold f_X5_readAlternative_B136
  repeat' first
    | assumption
    | with_reducible exact kd_none
    | with_reducible apply kd_some
    | with_reducible apply kd_ite
    | with_reducible apply kd_gd
    | with_reducible apply kd_bd
    | with_reducible apply kcz_f_X5_declare
    | with_reducible apply kcz_f_X5_readAlternative_b163 E hE
    | with_reducible apply hE
    | with_reducible apply hrec136
    | intro _ _ _
theorem kcz_f_X5_readAlternative_L136 (E : S5 → Option (Int32 × S5)) (hE : ∀  σ, Cz2 σ → Kd Cz2 (E  σ)) : ∀ (n : Nat) v0 v1 v2 v3 v4 (σ : S5), Cz2 σ → Kd Cz2 (f_X5_readAlternative_L136 E n v0 v1 v2 v3 v4 σ)
  | 0, _, _, _, _, _, _, _ => kd_none
  | n + 1, v0, v1, v2, v3, v4, σ, h => by
    unfold f_X5_readAlternative_L136
    exact kcz_f_X5_readAlternative_B136 E hE _ (kcz_f_X5_readAlternative_L136 E hE n) v0 v1 v2 v3 v4 σ h
theorem kcz_f_X5_readAlternative_b85 (E : S5 → Option (Int32 × S5)) (hE : ∀  σ, Cz2 σ → Kd Cz2 (E  σ)) (v2 : Int32) (v3 : Int32) (σ : S5) (h : Cz2 σ) : Kd Cz2 (f_X5_readAlternative_b85 E v2 v3 σ) := by
  unfold f_X5_readAlternative_b85
  repeat' first
    | assumption
    | with_reducible exact kd_none
    | with_reducible apply kd_some
    | with_reducible apply kd_ite
    | with_reducible apply kd_bd
    | with_reducible apply kcz_f_X10_advance
    | with_reducible apply kcz_f_X6_add
    | with_reducible apply kcz_f_X5_readAlternative_b163 E hE
    | with_reducible apply kcz_f_X5_readAlternative_L136 E hE
    | with_reducible apply hE
    | intro _ _ _
theorem kcz_f_X5_readAlternative_b74 (E : S5 → Option (Int32 × S5)) (hE : ∀  σ, Cz2 σ → Kd Cz2 (E  σ)) (v1 : Int32) (v2 : Int32) (v3 : Int32) (σ : S5) (h : Cz2 σ) : Kd Cz2 (f_X5_readAlternative_b74 E v1 v2 v3 σ) := by
  unfold f_X5_readAlternative_b74
  repeat' first
    | assumption
    | with_reducible exact kd_none
    | with_reducible apply kd_some
    | with_reducible apply kd_ite
    | with_reducible apply kd_bd
    | with_reducible apply kcz_f_X5_refuse
    | with_reducible apply kcz_f_X5_readAlternative_b85 E hE
    | with_reducible apply hE
    | intro _ _ _
theorem kcz_f_X5_readAlternative_b56 (E : S5 → Option (Int32 × S5)) (hE : ∀  σ, Cz2 σ → Kd Cz2 (E  σ)) (v1 : Int32) (v2 : Int32) (v3 : Int32) (σ : S5) (h : Cz2 σ) : Kd Cz2 (f_X5_readAlternative_b56 E v1 v2 v3 σ) := by
  unfold f_X5_readAlternative_b56
  repeat' first
    | assumption
    | with_reducible exact kd_none
    | with_reducible apply kd_some
    | with_reducible apply kd_ite
    | with_reducible apply kd_bd
    | with_reducible apply kcz_f_X5_refuse
    | with_reducible apply kcz_f_X5_readAlternative_b85 E hE
    | with_reducible apply kcz_f_X5_readAlternative_b74 E hE
    | with_reducible apply hE
    | intro _ _ _
theorem kcz_f_X5_readAlternative_b31 (E : S5 → Option (Int32 × S5)) (hE : ∀  σ, Cz2 σ → Kd Cz2 (E  σ)) (v1 : Int32) (v2 : Int32) (u0 : Int32) (σ : S5) (h : Cz2 σ) : Kd Cz2 (f_X5_readAlternative_b31 E v1 v2 u0 σ) := by
  unfold f_X5_readAlternative_b31
  repeat' first
    | assumption
    | with_reducible exact kd_none
    | with_reducible apply kd_some
    | with_reducible apply kd_ite
    | with_reducible apply kd_bd
    | with_reducible apply kcz_f_X5_refuse
    | with_reducible apply kcz_f_X5_readAlternative_b85 E hE
    | with_reducible apply kcz_f_X5_readAlternative_b56 E hE
    | with_reducible apply hE
    | intro _ _ _
theorem kcz_f_X5_readAlternative (E : S5 → Option (Int32 × S5)) (hE : ∀  σ, Cz2 σ → Kd Cz2 (E  σ)) (a1 : Int32) (σ : S5) (h : Cz2 σ) : Kd Cz2 (f_X5_readAlternative E a1 σ) := by
  unfold f_X5_readAlternative
  repeat' first
    | assumption
    | with_reducible exact kd_none
    | with_reducible apply kd_some
    | with_reducible apply kd_ite
    | with_reducible apply kd_bd
    | with_reducible apply kcz_f_X4_constructorOf
    | with_reducible apply kcz_f_X5_readAlternative_b31 E hE
    | with_reducible apply hE
    | intro _ _ _
theorem kcz_f_X5_readCase_b107 (E : S5 → Option (Int32 × S5)) (hE : ∀  σ, Cz2 σ → Kd Cz2 (E  σ)) (v1 : Int32) (σ : S5) (h : Cz2 σ) : Kd Cz2 (f_X5_readCase_b107 E v1 σ) := by
  unfold f_X5_readCase_b107
  repeat' first
    | assumption
    | with_reducible exact kd_none
    | with_reducible apply kd_some
    | with_reducible apply kd_ite
    | with_reducible apply kd_bd
    | with_reducible apply Cz2_pI _ _ _ (by decide)
    | with_reducible apply kcz_f_X9_add
    | with_reducible apply kcz_f_X5_expect
    | with_reducible apply hE
    | intro _ _ _
theorem kcz_f_X5_readCase_B55 (E : S5 → Option (Int32 × S5)) (hE : ∀  σ, Cz2 σ → Kd Cz2 (E  σ)) (rec55 : Int32 → Int32 → Int32 → S5 → Option (Int32 × S5)) (hrec55 : ∀ v0 v1 v2 (σ : S5), Cz2 σ → Kd Cz2 (rec55 v0 v1 v2 σ)) (v1 : Int32) (v2 : Int32) (v3 : Int32) (σ : S5) (h : Cz2 σ) : Kd Cz2 (f_X5_readCase_B55 E rec55 v1 v2 v3 σ) := by
  unfold f_X5_readCase_B55
  repeat' first
    | assumption
    | with_reducible exact kd_none
    | with_reducible apply kd_some
    | with_reducible apply kd_ite
    | with_reducible apply kd_gd
    | with_reducible apply kd_bd
    | with_reducible apply Cz2_pA _ _ _ _ (by decide)
    | with_reducible apply kcz_f_X10_advance
    | with_reducible apply kcz_f_X5_readAlternative E hE
    | with_reducible apply kcz_f_X5_readCase_b107 E hE
    | with_reducible apply hE
    | with_reducible apply hrec55
    | intro _ _ _
theorem kcz_f_X5_readCase_L55 (E : S5 → Option (Int32 × S5)) (hE : ∀  σ, Cz2 σ → Kd Cz2 (E  σ)) : ∀ (n : Nat) v0 v1 v2 (σ : S5), Cz2 σ → Kd Cz2 (f_X5_readCase_L55 E n v0 v1 v2 σ)
  | 0, _, _, _, _, _ => kd_none
  | n + 1, v0, v1, v2, σ, h => by
    unfold f_X5_readCase_L55
    exact kcz_f_X5_readCase_B55 E hE _ (kcz_f_X5_readCase_L55 E hE n) v0 v1 v2 σ h
theorem kcz_f_X5_readCase (E : S5 → Option (Int32 × S5)) (hE : ∀  σ, Cz2 σ → Kd Cz2 (E  σ)) (σ : S5) (h : Cz2 σ) : Kd Cz2 (f_X5_readCase E  σ) := by
  unfold f_X5_readCase
  repeat' first
    | assumption
    | with_reducible exact kd_none
    | with_reducible apply kd_some
    | with_reducible apply kd_ite
    | with_reducible apply kd_gd
    | with_reducible apply kd_bd
    | with_reducible apply Cz2_pA _ _ _ _ (by decide)
    | with_reducible apply kcz_f_X10_advance
    | with_reducible apply kcz_f_X5_expect
    | with_reducible apply kcz_f_X5_countPart
    | with_reducible apply kcz_f_X5_opens
    | with_reducible apply kcz_f_X5_readAlternative E hE
    | with_reducible apply kcz_f_X5_readCase_L55 E hE
    | with_reducible apply hE
    | intro _ _ _
theorem kcz_f_X5_readExpression (E : S5 → Option (Int32 × S5)) (hE : ∀  σ, Cz2 σ → Kd Cz2 (E  σ)) (σ : S5) (h : Cz2 σ) : Kd Cz2 (f_X5_readExpression E  σ) := by
  unfold f_X5_readExpression
  repeat' first
    | assumption
    | with_reducible exact kd_none
    | with_reducible apply kd_some
    | with_reducible apply kd_ite
    | with_reducible apply kd_bd
    | with_reducible apply kcz_f_X5_readComparison E hE
    | with_reducible apply kcz_f_X5_readLet E hE
    | with_reducible apply kcz_f_X5_readLambda E hE
    | with_reducible apply kcz_f_X5_readCase E hE
    | with_reducible apply hE
    | intro _ _ _
theorem kcz_f_X5_readFunction_b62 (E : S5 → Option (Int32 × S5)) (hE : ∀  σ, Cz2 σ → Kd Cz2 (E  σ)) (σ : S5) (h : Cz2 σ) : Kd Cz2 (f_X5_readFunction_b62 E  σ) := by
  unfold f_X5_readFunction_b62
  repeat' first
    | assumption
    | with_reducible exact kd_none
    | with_reducible apply kd_some
    | with_reducible apply kd_ite
    | with_reducible apply kd_gd
    | with_reducible apply kd_bd
    | with_reducible apply Cz2_pA _ _ _ _ (by decide)
    | with_reducible apply kcz_f_X10_advance
    | with_reducible apply kcz_f_X4_addTop
    | with_reducible apply kcz_f_X6_add
    | with_reducible apply kcz_f_X5_expect
    | with_reducible apply kcz_f_X5_readParameters
    | with_reducible apply kcz_f_X5_readWithin E hE
    | with_reducible apply hE
    | intro _ _ _
theorem kcz_f_X5_readFunction (E : S5 → Option (Int32 × S5)) (hE : ∀  σ, Cz2 σ → Kd Cz2 (E  σ)) (σ : S5) (h : Cz2 σ) : Kd Cz2 (f_X5_readFunction E  σ) := by
  unfold f_X5_readFunction
  repeat' first
    | assumption
    | with_reducible exact kd_none
    | with_reducible apply kd_some
    | with_reducible apply kd_ite
    | with_reducible apply kd_bd
    | with_reducible apply kcz_f_X4_topOf
    | with_reducible apply kcz_f_X5_refuse
    | with_reducible apply kcz_f_X5_readFunction_b62 E hE
    | with_reducible apply hE
    | intro _ _ _
theorem kcz_f_X5_readText_B90 (E : S5 → Option (Int32 × S5)) (hE : ∀  σ, Cz2 σ → Kd Cz2 (E  σ)) (rec90 : Int32 → S5 → Option (Unit × S5)) (hrec90 : ∀ v0 (σ : S5), Cz2 σ → Kd Cz2 (rec90 v0 σ)) (v1 : Int32) (σ : S5) (h : Cz2 σ) : Kd Cz2 (f_X5_readText_B90 E rec90 v1 σ) := by
  unfold f_X5_readText_B90
  repeat' first
    | assumption
    | with_reducible exact kd_none
    | with_reducible apply kd_some
    | with_reducible apply kd_ite
    | with_reducible apply kd_bd
    | with_reducible apply kcz_f_X5_readFunction E hE
    | with_reducible apply hE
    | with_reducible apply hrec90
    | intro _ _ _
theorem kcz_f_X5_readText_L90 (E : S5 → Option (Int32 × S5)) (hE : ∀  σ, Cz2 σ → Kd Cz2 (E  σ)) : ∀ (n : Nat) v0 (σ : S5), Cz2 σ → Kd Cz2 (f_X5_readText_L90 E n v0 σ)
  | 0, _, _, _ => kd_none
  | n + 1, v0, σ, h => by
    unfold f_X5_readText_L90
    exact kcz_f_X5_readText_B90 E hE _ (kcz_f_X5_readText_L90 E hE n) v0 σ h
theorem kcz_f_X5_readText_b84 (E : S5 → Option (Int32 × S5)) (hE : ∀  σ, Cz2 σ → Kd Cz2 (E  σ)) (σ : S5) (h : Cz2 σ) : Kd Cz2 (f_X5_readText_b84 E  σ) := by
  unfold f_X5_readText_b84
  repeat' first
    | assumption
    | with_reducible exact kd_none
    | with_reducible apply kd_some
    | with_reducible apply kd_ite
    | with_reducible apply kd_bd
    | with_reducible apply kcz_f_X5_readFunction E hE
    | with_reducible apply kcz_f_X5_readText_L90 E hE
    | with_reducible apply hE
    | intro _ _ _
theorem kcz_f_X5_readText_B55 (E : S5 → Option (Int32 × S5)) (hE : ∀  σ, Cz2 σ → Kd Cz2 (E  σ)) (rec55 : Int32 → S5 → Option (Unit × S5)) (hrec55 : ∀ v0 (σ : S5), Cz2 σ → Kd Cz2 (rec55 v0 σ)) (v1 : Int32) (σ : S5) (h : Cz2 σ) : Kd Cz2 (f_X5_readText_B55 E rec55 v1 σ) := by
  unfold f_X5_readText_B55
  repeat' first
    | assumption
    | with_reducible exact kd_none
    | with_reducible apply kd_some
    | with_reducible apply kd_ite
    | with_reducible apply kd_bd
    | with_reducible apply kcz_f_X5_readData
    | with_reducible apply kcz_f_X5_readText_b84 E hE
    | with_reducible apply hE
    | with_reducible apply hrec55
    | intro _ _ _
theorem kcz_f_X5_readText_L55 (E : S5 → Option (Int32 × S5)) (hE : ∀  σ, Cz2 σ → Kd Cz2 (E  σ)) : ∀ (n : Nat) v0 (σ : S5), Cz2 σ → Kd Cz2 (f_X5_readText_L55 E n v0 σ)
  | 0, _, _, _ => kd_none
  | n + 1, v0, σ, h => by
    unfold f_X5_readText_L55
    exact kcz_f_X5_readText_B55 E hE _ (kcz_f_X5_readText_L55 E hE n) v0 σ h
theorem kcz_f_X5_readText (E : S5 → Option (Int32 × S5)) (hE : ∀ σ, Cz2 σ → Kd Cz2 (E σ)) (σ : S5) : Kd Cz2 (f_X5_readText E σ) := by
  unfold f_X5_readText
  refine kd_any (fun _ τ4 => kd_bd (kcz_f_X4_clear τ4) (fun _ τ11 q => kd_bd (kcz_f_X6_clear _ q) (fun _ τ18 q => ?_)))
  exact kd_bd (kcz_f_X10_begin _ (Cz2_pI _ _ _ (by decide) (Cz2_pI _ _ _ (by decide) (Cz2_pI _ _ _ (by decide) (Cz2_pI _ _ _ (by decide) (Cz2_pI _ _ _ (by decide) q)))))) (fun _ τ50 q => kcz_f_X5_readText_L55 E hE _ _ _ q)
theorem kcz_f_readE : ∀ (d : Nat) (σ : S5), Cz2 σ → Kd Cz2 (f_readE d σ)
  | 0, _, _ => kd_none
  | d + 1, σ, h => kcz_f_X5_readExpression _ (kcz_f_readE d) σ h
theorem cz_text {σ τ : S5} (e : f_X5_readText (f_readE 64) σ = some ((), τ)) : Cz2 τ := kcz_f_X5_readText _ (kcz_f_readE 64) σ _ _ e
