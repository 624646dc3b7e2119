theorem knk_f_X8_clear_text  (σ : S5) (h : NKs σ) : Kd NKs (f_X8_clear_text  σ) := by
  unfold f_X8_clear_text
  repeat' first
    | assumption
    | with_reducible exact kd_none
    | with_reducible apply kd_some
    | with_reducible apply kd_ite
    | with_reducible apply kd_bd
    | with_reducible apply NKs_pI _ _ _ (by decide)
    | intro _ _ _
theorem knk_f_X8_add_text (a1 : Int32) (σ : S5) (h : NKs σ) : Kd NKs (f_X8_add_text a1 σ) := by
  unfold f_X8_add_text
  repeat' first
    | assumption
    | with_reducible exact kd_none
    | with_reducible apply kd_some
    | with_reducible apply kd_ite
    | with_reducible apply kd_gd
    | with_reducible apply kd_bd
    | with_reducible apply NKs_pI _ _ _ (by decide)
    | with_reducible apply NKs_pA
    | intro _ _ _
theorem knk_f_X8_clear_draft  (σ : S5) (h : NKs σ) : Kd NKs (f_X8_clear_draft  σ) := by
  unfold f_X8_clear_draft
  repeat' first
    | assumption
    | with_reducible exact kd_none
    | with_reducible apply kd_some
    | with_reducible apply kd_ite
    | with_reducible apply kd_bd
    | with_reducible apply NKs_pI _ _ _ (by decide)
    | intro _ _ _
theorem knk_f_X8_add_draft (a1 : Int32) (σ : S5) (h : NKs σ) : Kd NKs (f_X8_add_draft a1 σ) := by
  unfold f_X8_add_draft
  repeat' first
    | assumption
    | with_reducible exact kd_none
    | with_reducible apply kd_some
    | with_reducible apply kd_ite
    | with_reducible apply kd_gd
    | with_reducible apply kd_bd
    | with_reducible apply NKs_pI _ _ _ (by decide)
    | with_reducible apply NKs_pA
    | intro _ _ _
theorem knk_f_X8_addNumber_draft_B29 (rec29 : Int32 → Int32 → S5 → Option (Unit × S5)) (hrec29 : ∀ v0 v1 (σ : S5), NKs σ → Kd NKs (rec29 v0 v1 σ)) (v1 : Int32) (v2 : Int32) (σ : S5) (h : NKs σ) : Kd NKs (f_X8_addNumber_draft_B29 rec29 v1 v2 σ) := by
  unfold f_X8_addNumber_draft_B29
  repeat' first
    | assumption
    | with_reducible exact kd_none
    | with_reducible apply kd_some
    | with_reducible apply kd_ite
    | with_reducible apply kd_gz
    | with_reducible apply kd_bd
    | with_reducible apply knk_f_X8_add_draft
    | with_reducible apply hrec29
    | intro _ _ _
theorem knk_f_X8_addNumber_draft_L29 : ∀ (n : Nat) v0 v1 (σ : S5), NKs σ → Kd NKs (f_X8_addNumber_draft_L29 n v0 v1 σ)
  | 0, _, _, _, _ => kd_none
  | n + 1, v0, v1, σ, h => by
    unfold f_X8_addNumber_draft_L29
    exact knk_f_X8_addNumber_draft_B29 _ (knk_f_X8_addNumber_draft_L29 n) v0 v1 σ h
theorem knk_f_X8_addNumber_draft_B4 (rec4 : Int32 → Int32 → Int32 → S5 → Option (Unit × S5)) (hrec4 : ∀ v0 v1 v2 (σ : S5), NKs σ → Kd NKs (rec4 v0 v1 v2 σ)) (v1 : Int32) (v2 : Int32) (v3 : Int32) (σ : S5) (h : NKs σ) : Kd NKs (f_X8_addNumber_draft_B4 rec4 v1 v2 v3 σ) := by
  unfold f_X8_addNumber_draft_B4
  repeat' first
    | assumption
    | with_reducible exact kd_none
    | with_reducible apply kd_some
    | with_reducible apply kd_ite
    | with_reducible apply kd_gz
    | with_reducible apply kd_bd
    | with_reducible apply knk_f_X8_addNumber_draft_L29
    | with_reducible apply hrec4
    | intro _ _ _
theorem knk_f_X8_addNumber_draft_L4 : ∀ (n : Nat) v0 v1 v2 (σ : S5), NKs σ → Kd NKs (f_X8_addNumber_draft_L4 n v0 v1 v2 σ)
  | 0, _, _, _, _, _ => kd_none
  | n + 1, v0, v1, v2, σ, h => by
    unfold f_X8_addNumber_draft_L4
    exact knk_f_X8_addNumber_draft_B4 _ (knk_f_X8_addNumber_draft_L4 n) v0 v1 v2 σ h
theorem knk_f_X8_addNumber_draft (a1 : Int32) (σ : S5) (h : NKs σ) : Kd NKs (f_X8_addNumber_draft a1 σ) := by
  unfold f_X8_addNumber_draft
  repeat' first
    | assumption
    | with_reducible exact kd_none
    | with_reducible apply kd_some
    | with_reducible apply kd_ite
    | with_reducible apply kd_bd
    | with_reducible apply knk_f_X8_addNumber_draft_L4
    | intro _ _ _
theorem knk_f_X8_addName_draft_b28 (rec3 : Int64 → Int32 → S5 → Option (Unit × S5)) (hrec3 : ∀ v0 v1 (σ : S5), NKs σ → Kd NKs (rec3 v0 v1 σ)) (v1 : Int64) (v3 : Int32) (σ : S5) (h : NKs σ) : Kd NKs (f_X8_addName_draft_b28 rec3 v1 v3 σ) := by
  unfold f_X8_addName_draft_b28
  repeat' first
    | assumption
    | with_reducible exact kd_none
    | with_reducible apply kd_some
    | with_reducible apply kd_ite
    | with_reducible apply kd_bd
    | with_reducible apply hrec3
    | intro _ _ _
theorem knk_f_X8_addName_draft_B3 (rec3 : Int64 → Int32 → S5 → Option (Unit × S5)) (hrec3 : ∀ v0 v1 (σ : S5), NKs σ → Kd NKs (rec3 v0 v1 σ)) (v1 : Int64) (v3 : Int32) (σ : S5) (h : NKs σ) : Kd NKs (f_X8_addName_draft_B3 rec3 v1 v3 σ) := by
  unfold f_X8_addName_draft_B3
  repeat' first
    | assumption
    | with_reducible exact kd_none
    | with_reducible apply kd_some
    | with_reducible apply kd_ite
    | with_reducible apply kd_bd
    | with_reducible apply knk_f_X8_add_draft
    | with_reducible apply knk_f_X8_addName_draft_b28
    | with_reducible apply hrec3
    | intro _ _ _
theorem knk_f_X8_addName_draft_L3 : ∀ (n : Nat) v0 v1 (σ : S5), NKs σ → Kd NKs (f_X8_addName_draft_L3 n v0 v1 σ)
  | 0, _, _, _, _ => kd_none
  | n + 1, v0, v1, σ, h => by
    unfold f_X8_addName_draft_L3
    exact knk_f_X8_addName_draft_B3 _ (knk_f_X8_addName_draft_L3 n) v0 v1 σ h
theorem knk_f_X8_addName_draft (a1 : Int64) (σ : S5) (h : NKs σ) : Kd NKs (f_X8_addName_draft a1 σ) := by
  unfold f_X8_addName_draft
  repeat' first
    | assumption
    | with_reducible exact kd_none
    | with_reducible apply kd_some
    | with_reducible apply kd_ite
    | with_reducible apply kd_bd
    | with_reducible apply knk_f_X8_addName_draft_L3
    | intro _ _ _
theorem knk_f_X8_signAt_text (a1 : Int32) (σ : S5) (h : NKs σ) : Kd NKs (f_X8_signAt_text a1 σ) := by
  unfold f_X8_signAt_text
  repeat' first
    | assumption
    | with_reducible exact kd_none
    | with_reducible apply kd_some
    | with_reducible apply kd_ite
    | with_reducible apply kd_gd
    | with_reducible apply kd_bd
    | intro _ _ _
theorem knk_f_J0_coder_7d493 (zi : Nat) (σ : S5) (h : NKs σ) : Kd NKs (f_J0_coder_7d493 zi σ) := by
  unfold f_J0_coder_7d493
  repeat' first
    | assumption
    | with_reducible exact kd_none
    | with_reducible apply kd_some
    | with_reducible apply kd_ite
    | with_reducible apply kd_gs
    | with_reducible apply kd_bd
    | intro _ _ _
theorem knk_f_J0_isLatin1_aae02 (zi : Nat) (σ : S5) (h : NKs σ) : Kd NKs (f_J0_isLatin1_aae02 zi σ) := by
  unfold f_J0_isLatin1_aae02
  repeat' first
    | assumption
    | with_reducible exact kd_none
    | with_reducible apply kd_some
    | with_reducible apply kd_ite
    | with_reducible apply kd_gs
    | with_reducible apply kd_bd
    | intro _ _ _
theorem knk_f_J0_length_8abf5 (zi : Nat) (σ : S5) (h : NKs σ) : Kd NKs (f_J0_length_8abf5 zi σ) := by
  unfold f_J0_length_8abf5
  repeat' first
    | assumption
    | with_reducible exact kd_none
    | with_reducible apply kd_some
    | with_reducible apply kd_ite
    | with_reducible apply kd_gs
    | with_reducible apply kd_bd
    | with_reducible apply knk_f_J0_coder_7d493
    | intro _ _ _
theorem knk_f_J3_checkIndex_8e157 (a0 : Int32) (a1 : Int32) (σ : S5) (h : NKs σ) : Kd NKs (f_J3_checkIndex_8e157 a0 a1 σ) := by
  unfold f_J3_checkIndex_8e157
  repeat' first
    | assumption
    | with_reducible exact kd_none
    | with_reducible apply kd_some
    | with_reducible apply kd_ite
    | with_reducible apply kd_bd
    | intro _ _ _
theorem knk_f_J0_checkIndex_df160 (a0 : Int32) (a1 : Int32) (σ : S5) (h : NKs σ) : Kd NKs (f_J0_checkIndex_df160 a0 a1 σ) := by
  unfold f_J0_checkIndex_df160
  repeat' first
    | assumption
    | with_reducible exact kd_none
    | with_reducible apply kd_some
    | with_reducible apply kd_ite
    | with_reducible apply kd_bd
    | with_reducible apply knk_f_J3_checkIndex_8e157
    | intro _ _ _
theorem knk_f_J1_canEncode_9a6ad (a0 : Int32) (σ : S5) (h : NKs σ) : Kd NKs (f_J1_canEncode_9a6ad a0 σ) := by
  unfold f_J1_canEncode_9a6ad
  repeat' first
    | assumption
    | with_reducible exact kd_none
    | with_reducible apply kd_some
    | with_reducible apply kd_ite
    | with_reducible apply kd_bd
    | intro _ _ _
theorem knk_f_J1_charAt_3b067 (zi : Nat) (a1 : Int32) (σ : S5) (h : NKs σ) : Kd NKs (f_J1_charAt_3b067 zi a1 σ) := by
  unfold f_J1_charAt_3b067
  repeat' first
    | assumption
    | with_reducible exact kd_none
    | with_reducible apply kd_some
    | with_reducible apply kd_ite
    | with_reducible apply kd_gd
    | with_reducible apply kd_gs
    | with_reducible apply kd_gc
    | with_reducible apply kd_bd
    | with_reducible apply knk_f_J0_checkIndex_df160
    | intro _ _ _
theorem knk_f_J1_indexOfChar_4cfef_B7 (rec7 : Nat → Int32 → Int32 → Int32 → S5 → Option (Int32 × S5)) (hrec7 : ∀ v0 v1 v2 v3 (σ : S5), NKs σ → Kd NKs (rec7 v0 v1 v2 v3 σ)) (zi : Nat) (v3 : Int32) (v4 : Int32) (v5 : Int32) (σ : S5) (h : NKs σ) : Kd NKs (f_J1_indexOfChar_4cfef_B7 rec7 zi v3 v4 v5 σ) := by
  unfold f_J1_indexOfChar_4cfef_B7
  repeat' first
    | assumption
    | with_reducible exact kd_none
    | with_reducible apply kd_some
    | with_reducible apply kd_ite
    | with_reducible apply kd_gd
    | with_reducible apply kd_gs
    | with_reducible apply kd_bd
    | with_reducible apply hrec7
    | intro _ _ _
theorem knk_f_J1_indexOfChar_4cfef_L7 : ∀ (n : Nat) v0 v1 v2 v3 (σ : S5), NKs σ → Kd NKs (f_J1_indexOfChar_4cfef_L7 n v0 v1 v2 v3 σ)
  | 0, _, _, _, _, _, _ => kd_none
  | n + 1, v0, v1, v2, v3, σ, h => by
    unfold f_J1_indexOfChar_4cfef_L7
    exact knk_f_J1_indexOfChar_4cfef_B7 _ (knk_f_J1_indexOfChar_4cfef_L7 n) v0 v1 v2 v3 σ h
theorem knk_f_J1_indexOfChar_4cfef (zi : Nat) (a1 : Int32) (a2 : Int32) (a3 : Int32) (σ : S5) (h : NKs σ) : Kd NKs (f_J1_indexOfChar_4cfef zi a1 a2 a3 σ) := by
  unfold f_J1_indexOfChar_4cfef
  repeat' first
    | assumption
    | with_reducible exact kd_none
    | with_reducible apply kd_some
    | with_reducible apply kd_ite
    | with_reducible apply kd_bd
    | with_reducible apply knk_f_J1_indexOfChar_4cfef_L7
    | intro _ _ _
theorem knk_f_J1_indexOf_4cfef (zi : Nat) (a1 : Int32) (a2 : Int32) (a3 : Int32) (σ : S5) (h : NKs σ) : Kd NKs (f_J1_indexOf_4cfef zi a1 a2 a3 σ) := by
  unfold f_J1_indexOf_4cfef
  repeat' first
    | assumption
    | with_reducible exact kd_none
    | with_reducible apply kd_some
    | with_reducible apply kd_ite
    | with_reducible apply kd_gs
    | with_reducible apply kd_bd
    | with_reducible apply knk_f_J1_canEncode_9a6ad
    | with_reducible apply knk_f_J1_indexOfChar_4cfef
    | intro _ _ _
theorem knk_f_J0_charAt_5068e (zi : Nat) (a1 : Int32) (σ : S5) (h : NKs σ) : Kd NKs (f_J0_charAt_5068e zi a1 σ) := by
  unfold f_J0_charAt_5068e
  repeat' first
    | assumption
    | with_reducible exact kd_none
    | with_reducible apply kd_some
    | with_reducible apply kd_ite
    | with_reducible apply kd_gs
    | with_reducible apply kd_gc
    | with_reducible apply kd_bd
    | with_reducible apply knk_f_J0_isLatin1_aae02
    | with_reducible apply knk_f_J1_charAt_3b067
    | intro _ _ _
theorem knk_f_J0_indexOf_7cf53 (zi : Nat) (a1 : Int32) (a2 : Int32) (σ : S5) (h : NKs σ) : Kd NKs (f_J0_indexOf_7cf53 zi a1 a2 σ) := by
  unfold f_J0_indexOf_7cf53
  repeat' first
    | assumption
    | with_reducible exact kd_none
    | with_reducible apply kd_some
    | with_reducible apply kd_ite
    | with_reducible apply kd_gs
    | with_reducible apply kd_bd
    | with_reducible apply knk_f_J0_isLatin1_aae02
    | with_reducible apply knk_f_J0_length_8abf5
    | with_reducible apply knk_f_J1_indexOf_4cfef
    | intro _ _ _
theorem knk_f_J0_indexOf_0f7a4 (zi : Nat) (a1 : Int32) (σ : S5) (h : NKs σ) : Kd NKs (f_J0_indexOf_0f7a4 zi a1 σ) := by
  unfold f_J0_indexOf_0f7a4
  repeat' first
    | assumption
    | with_reducible exact kd_none
    | with_reducible apply kd_some
    | with_reducible apply kd_ite
    | with_reducible apply kd_gs
    | with_reducible apply kd_bd
    | with_reducible apply knk_f_J0_indexOf_7cf53
    | intro _ _ _
theorem knk_f_X8_addText_draft_B2 (rec2 : Nat → Int32 → S5 → Option (Unit × S5)) (hrec2 : ∀ v0 v1 (σ : S5), NKs σ → Kd NKs (rec2 v0 v1 σ)) (zi : Nat) (v2 : Int32) (σ : S5) (h : NKs σ) : Kd NKs (f_X8_addText_draft_B2 rec2 zi v2 σ) := by
  unfold f_X8_addText_draft_B2
  repeat' first
    | assumption
    | with_reducible exact kd_none
    | with_reducible apply kd_some
    | with_reducible apply kd_ite
    | with_reducible apply kd_gs
    | with_reducible apply kd_bd
    | with_reducible apply knk_f_X8_add_draft
    | with_reducible apply knk_f_J0_length_8abf5
    | with_reducible apply knk_f_J0_charAt_5068e
    | with_reducible apply hrec2
    | intro _ _ _
theorem knk_f_X8_addText_draft_L2 : ∀ (n : Nat) v0 v1 (σ : S5), NKs σ → Kd NKs (f_X8_addText_draft_L2 n v0 v1 σ)
  | 0, _, _, _, _ => kd_none
  | n + 1, v0, v1, σ, h => by
    unfold f_X8_addText_draft_L2
    exact knk_f_X8_addText_draft_B2 _ (knk_f_X8_addText_draft_L2 n) v0 v1 σ h
theorem knk_f_X8_addText_draft (zi : Nat) (σ : S5) (h : NKs σ) : Kd NKs (f_X8_addText_draft zi σ) := by
  unfold f_X8_addText_draft
  repeat' first
    | assumption
    | with_reducible exact kd_none
    | with_reducible apply kd_some
    | with_reducible apply kd_ite
    | with_reducible apply kd_bd
    | with_reducible apply knk_f_X8_addText_draft_L2
    | intro _ _ _
theorem knk_f_X10_isSmall (a0 : Int32) (σ : S5) (h : NKs σ) : Kd NKs (f_X10_isSmall a0 σ) := by
  unfold f_X10_isSmall
  repeat' first
    | assumption
    | with_reducible exact kd_none
    | with_reducible apply kd_some
    | with_reducible apply kd_ite
    | with_reducible apply kd_bd
    | intro _ _ _
theorem knk_f_X10_isGreat (a0 : Int32) (σ : S5) (h : NKs σ) : Kd NKs (f_X10_isGreat a0 σ) := by
  unfold f_X10_isGreat
  repeat' first
    | assumption
    | with_reducible exact kd_none
    | with_reducible apply kd_some
    | with_reducible apply kd_ite
    | with_reducible apply kd_bd
    | intro _ _ _
theorem knk_f_X10_isDigit (a0 : Int32) (σ : S5) (h : NKs σ) : Kd NKs (f_X10_isDigit a0 σ) := by
  unfold f_X10_isDigit
  repeat' first
    | assumption
    | with_reducible exact kd_none
    | with_reducible apply kd_some
    | with_reducible apply kd_ite
    | with_reducible apply kd_bd
    | intro _ _ _
theorem knk_f_X10_stop  (σ : S5) (h : NKs σ) : Kd NKs (f_X10_stop  σ) := by
  unfold f_X10_stop
  repeat' first
    | assumption
    | with_reducible exact kd_none
    | with_reducible apply kd_some
    | with_reducible apply kd_ite
    | with_reducible apply kd_bd
    | with_reducible apply NKs_pI _ _ _ (by decide)
    | intro _ _ _
theorem knk_f_X10_passBlanks_b61 (rec2 : Int32 → S5 → Option (Unit × S5)) (hrec2 : ∀ v0 (σ : S5), NKs σ → Kd NKs (rec2 v0 σ)) (v1 : Int32) (σ : S5) (h : NKs σ) : Kd NKs (f_X10_passBlanks_b61 rec2 v1 σ) := by
  unfold f_X10_passBlanks_b61
  repeat' first
    | assumption
    | with_reducible exact kd_none
    | with_reducible apply kd_some
    | with_reducible apply kd_ite
    | with_reducible apply kd_bd
    | with_reducible apply NKs_pI _ _ _ (by decide)
    | with_reducible apply hrec2
    | intro _ _ _
theorem knk_f_X10_passBlanks_B2 (rec2 : Int32 → S5 → Option (Unit × S5)) (hrec2 : ∀ v0 (σ : S5), NKs σ → Kd NKs (rec2 v0 σ)) (v1 : Int32) (σ : S5) (h : NKs σ) : Kd NKs (f_X10_passBlanks_B2 rec2 v1 σ) := by
  unfold f_X10_passBlanks_B2
  repeat' first
    | assumption
    | with_reducible exact kd_none
    | with_reducible apply kd_some
    | with_reducible apply kd_ite
    | with_reducible apply kd_bd
    | with_reducible apply knk_f_X8_signAt_text
    | with_reducible apply knk_f_X10_passBlanks_b61
    | with_reducible apply hrec2
    | intro _ _ _
theorem knk_f_X10_passBlanks_L2 : ∀ (n : Nat) v0 (σ : S5), NKs σ → Kd NKs (f_X10_passBlanks_L2 n v0 σ)
  | 0, _, _, _ => kd_none
  | n + 1, v0, σ, h => by
    unfold f_X10_passBlanks_L2
    exact knk_f_X10_passBlanks_B2 _ (knk_f_X10_passBlanks_L2 n) v0 σ h
theorem knk_f_X10_passBlanks  (σ : S5) (h : NKs σ) : Kd NKs (f_X10_passBlanks  σ) := by
  unfold f_X10_passBlanks
  repeat' first
    | assumption
    | with_reducible exact kd_none
    | with_reducible apply kd_some
    | with_reducible apply kd_ite
    | with_reducible apply kd_bd
    | with_reducible apply knk_f_X10_passBlanks_L2
    | intro _ _ _
theorem knk_f_X10_kindOfName  (σ : S5) (h : NKs σ) : Kd NKs (f_X10_kindOfName  σ) := by
  unfold f_X10_kindOfName
  repeat' first
    | assumption
    | with_reducible exact kd_none
    | with_reducible apply kd_some
    | with_reducible apply kd_ite
    | with_reducible apply kd_bd
    | intro _ _ _
theorem knk_f_X10_readName_b113 (u0 : Int32) (σ : S5) (h : NKs σ) : Kd NKs (f_X10_readName_b113 u0 σ) := by
  unfold f_X10_readName_b113
  repeat' first
    | assumption
    | with_reducible exact kd_none
    | with_reducible apply kd_some
    | with_reducible apply kd_ite
    | with_reducible apply kd_bd
    | with_reducible apply NKs_pI _ _ _ (by decide)
    | intro _ _ _
theorem knk_f_X10_readName_b83 (v1 : Int32) (v2 : Int32) (σ : S5) (h : NKs σ) : Kd NKs (f_X10_readName_b83 v1 v2 σ) := by
  unfold f_X10_readName_b83
  repeat' first
    | assumption
    | with_reducible exact kd_none
    | with_reducible apply kd_some
    | with_reducible apply kd_ite
    | with_reducible apply kd_bd
    | with_reducible apply NKs_pI _ _ _ (by decide)
    | with_reducible apply knk_f_X10_isGreat
    | with_reducible apply knk_f_X10_kindOfName
    | with_reducible apply knk_f_X10_readName_b113
    | intro _ _ _
theorem knk_f_X10_readName_b41 (rec9 : Int32 → Int32 → Int32 → S5 → Option (Unit × S5)) (hrec9 : ∀ v1 v2 v3 (σ : S5), WK v2 σ → (v2 = 0 → okS v3) → NKs σ → Kd NKs (rec9 v1 v2 v3 σ)) (v1 v2 v3 : Int32) (σ : S5) (hw : WK v2 σ) (hl : gI σ 16 < gI σ 0) (h3 : okS v3) (h : NKs σ) : Kd NKs (f_X10_readName_b41 rec9 v1 v2 v3 σ) := by
  unfold f_X10_readName_b41
  intro r τ e
  obtain ⟨r1, τ1, e1, e2⟩ := bd_some e
  have hs := sg_st e1
  subst hs
  have hn : NKs (pI (pJ σ 0 ((j_lshl (gJ σ 0) 8) ||| v3.toInt64)) 16 (gI σ 16 + 1)) := NKs_pI _ _ _ trivial ⟨by rw [gJ_pJ, if_pos rfl]; exact okN_sh h.1 h3, h.2⟩
  obtain ⟨w1, w2⟩ := hw.s hl
  exact hrec9 v1 (v2 + 1) r1 _ (by obtain ⟨n, a, b⟩ := w1; exact ⟨n, a, by rw [gI_pI, if_pos rfl]; exact b⟩) (fun z => absurd z w2) hn r τ e2
theorem knk_f_X10_readName_B9 (rec9 : Int32 → Int32 → Int32 → S5 → Option (Unit × S5)) (hrec9 : ∀ v1 v2 v3 (σ : S5), WK v2 σ → (v2 = 0 → okS v3) → NKs σ → Kd NKs (rec9 v1 v2 v3 σ)) (v1 v2 v3 : Int32) (σ : S5) (hw : WK v2 σ) (h3 : v2 = 0 → okS v3) (h : NKs σ) : Kd NKs (f_X10_readName_B9 rec9 v1 v2 v3 σ) := by
  unfold f_X10_readName_B9
  by_cases c1 : gI σ 0 ≤ gI σ 16
  · rw [if_pos c1]
    exact knk_f_X10_readName_b83 _ _ _ h
  · rw [if_neg c1]
    have hl : gI σ 16 < gI σ 0 := by grind
    by_cases c2 : v2 = 0
    · rw [if_pos c2]
      exact knk_f_X10_readName_b41 _ hrec9 _ _ _ _ hw hl (h3 c2) h
    · rw [if_neg c2]
      rcases is_sm v3 σ with w | ⟨w, o⟩
      · rw [w, bd_of, if_pos rfl]
        rcases is_dg v3 σ with w | ⟨w, o⟩
        · rw [w, bd_of, if_pos rfl]
          exact knk_f_X10_readName_b83 _ _ _ h
        · rw [w, bd_of, if_neg (by decide)]
          exact knk_f_X10_readName_b41 _ hrec9 _ _ _ _ hw hl o h
      · rw [w, bd_of, if_neg (by decide)]
        exact knk_f_X10_readName_b41 _ hrec9 _ _ _ _ hw hl o h
theorem knk_f_X10_readName_L9 : ∀ (n : Nat) v1 v2 v3 (σ : S5), WK v2 σ → (v2 = 0 → okS v3) → NKs σ → Kd NKs (f_X10_readName_L9 n v1 v2 v3 σ)
  | 0, _, _, _, _, _, _, _ => kd_none
  | n + 1, v1, v2, v3, σ, a, b, c => by
    unfold f_X10_readName_L9
    exact knk_f_X10_readName_B9 _ (knk_f_X10_readName_L9 n) v1 v2 v3 σ a b c
theorem knk_f_X10_readName (a1 : Int32) (ho : okS a1) (σ : S5) (h : NKs σ) : Kd NKs (f_X10_readName a1 σ) := by
  unfold f_X10_readName
  exact knk_f_X10_readName_L9 FU _ _ _ _ ⟨0, rfl, by have := (gI (pJ σ 0 0) 16).le_toInt; omega⟩ (fun _ => ho) ⟨by rw [gJ_pJ, if_pos rfl]; exact okN_0, h.2⟩
theorem knk_f_X10_readNumber_b126 (u0 : Int32) (σ : S5) (h : NKs σ) : Kd NKs (f_X10_readNumber_b126 u0 σ) := by
  unfold f_X10_readNumber_b126
  repeat' first
    | assumption
    | with_reducible exact kd_none
    | with_reducible apply kd_some
    | with_reducible apply kd_ite
    | with_reducible apply kd_bd
    | with_reducible apply NKs_pI _ _ _ (by decide)
    | intro _ _ _
theorem knk_f_X10_readNumber_b111 (v1 : Int64) (v4 : Int32) (u0 : Int32) (σ : S5) (h : NKs σ) : Kd NKs (f_X10_readNumber_b111 v1 v4 u0 σ) := by
  unfold f_X10_readNumber_b111
  repeat' first
    | assumption
    | with_reducible exact kd_none
    | with_reducible apply kd_some
    | with_reducible apply kd_ite
    | with_reducible apply kd_bd
    | with_reducible apply NKs_pI _ _ _ (by decide)
    | with_reducible apply knk_f_X10_readNumber_b126
    | intro _ _ _
theorem knk_f_X10_readNumber_b98 (v1 : Int64) (u0 : Int32) (σ : S5) (h : NKs σ) : Kd NKs (f_X10_readNumber_b98 v1 u0 σ) := by
  unfold f_X10_readNumber_b98
  repeat' first
    | assumption
    | with_reducible exact kd_none
    | with_reducible apply kd_some
    | with_reducible apply kd_ite
    | with_reducible apply kd_bd
    | with_reducible apply knk_f_X10_readNumber_b111
    | intro _ _ _
theorem knk_f_X10_readNumber_b97 (v1 : Int64) (σ : S5) (h : NKs σ) : Kd NKs (f_X10_readNumber_b97 v1 σ) := by
  unfold f_X10_readNumber_b97
  repeat' first
    | assumption
    | with_reducible exact kd_none
    | with_reducible apply kd_some
    | with_reducible apply kd_ite
    | with_reducible apply kd_bd
    | with_reducible apply knk_f_X10_readNumber_b98
    | intro _ _ _
theorem knk_f_X10_readNumber_b79 (v1 : Int64) (v3 : Int32) (σ : S5) (h : NKs σ) : Kd NKs (f_X10_readNumber_b79 v1 v3 σ) := by
  unfold f_X10_readNumber_b79
  repeat' first
    | assumption
    | with_reducible exact kd_none
    | with_reducible apply kd_some
    | with_reducible apply kd_ite
    | with_reducible apply kd_bd
    | with_reducible apply knk_f_X10_readNumber_b98
    | with_reducible apply knk_f_X10_readNumber_b97
    | intro _ _ _
theorem knk_f_X10_readNumber_b66 (rec4 : Int64 → Int32 → S5 → Option (Unit × S5)) (hrec4 : ∀ v0 v1 (σ : S5), NKs σ → Kd NKs (rec4 v0 v1 σ)) (v1 : Int64) (v3 : Int32) (σ : S5) (h : NKs σ) : Kd NKs (f_X10_readNumber_b66 rec4 v1 v3 σ) := by
  unfold f_X10_readNumber_b66
  repeat' first
    | assumption
    | with_reducible exact kd_none
    | with_reducible apply kd_some
    | with_reducible apply kd_ite
    | with_reducible apply kd_bd
    | with_reducible apply NKs_pI _ _ _ (by decide)
    | with_reducible apply hrec4
    | intro _ _ _
theorem knk_f_X10_readNumber_B4 (rec4 : Int64 → Int32 → S5 → Option (Unit × S5)) (hrec4 : ∀ v0 v1 (σ : S5), NKs σ → Kd NKs (rec4 v0 v1 σ)) (v1 : Int64) (v3 : Int32) (σ : S5) (h : NKs σ) : Kd NKs (f_X10_readNumber_B4 rec4 v1 v3 σ) := by
  unfold f_X10_readNumber_B4
  repeat' first
    | assumption
    | with_reducible exact kd_none
    | with_reducible apply kd_some
    | with_reducible apply kd_ite
    | with_reducible apply kd_bd
    | with_reducible apply knk_f_X8_signAt_text
    | with_reducible apply knk_f_X10_isDigit
    | with_reducible apply knk_f_X10_readNumber_b79
    | with_reducible apply knk_f_X10_readNumber_b66
    | with_reducible apply hrec4
    | intro _ _ _
theorem knk_f_X10_readNumber_L4 : ∀ (n : Nat) v0 v1 (σ : S5), NKs σ → Kd NKs (f_X10_readNumber_L4 n v0 v1 σ)
  | 0, _, _, _, _ => kd_none
  | n + 1, v0, v1, σ, h => by
    unfold f_X10_readNumber_L4
    exact knk_f_X10_readNumber_B4 _ (knk_f_X10_readNumber_L4 n) v0 v1 σ h
theorem knk_f_X10_readNumber  (σ : S5) (h : NKs σ) : Kd NKs (f_X10_readNumber  σ) := by
  unfold f_X10_readNumber
  repeat' first
    | assumption
    | with_reducible exact kd_none
    | with_reducible apply kd_some
    | with_reducible apply kd_ite
    | with_reducible apply kd_bd
    | with_reducible apply knk_f_X10_readNumber_L4
    | intro _ _ _
theorem knk_f_X10_readSign_b119 (u0 : Int32) (u1 : Int32) (σ : S5) (h : NKs σ) : Kd NKs (f_X10_readSign_b119 u0 u1 σ) := by
  unfold f_X10_readSign_b119
  repeat' first
    | assumption
    | with_reducible exact kd_none
    | with_reducible apply kd_some
    | with_reducible apply kd_ite
    | with_reducible apply kd_bd
    | with_reducible apply NKs_pI _ _ _ (by decide)
    | intro _ _ _
theorem knk_f_X10_readSign_b99  (σ : S5) (h : NKs σ) : Kd NKs (f_X10_readSign_b99  σ) := by
  unfold f_X10_readSign_b99
  repeat' first
    | assumption
    | with_reducible exact kd_none
    | with_reducible apply kd_some
    | with_reducible apply kd_ite
    | with_reducible apply kd_bd
    | with_reducible apply knk_f_X10_readSign_b119
    | intro _ _ _
theorem knk_f_X10_readSign_b96 (u0 : Int32) (σ : S5) (h : NKs σ) : Kd NKs (f_X10_readSign_b96 u0 σ) := by
  unfold f_X10_readSign_b96
  repeat' first
    | assumption
    | with_reducible exact kd_none
    | with_reducible apply kd_some
    | with_reducible apply kd_ite
    | with_reducible apply kd_bd
    | with_reducible apply NKs_pI _ _ _ (by decide)
    | with_reducible apply knk_f_X10_readSign_b99
    | intro _ _ _
theorem knk_f_X10_readSign_b80 (v1 : Int32) (σ : S5) (h : NKs σ) : Kd NKs (f_X10_readSign_b80 v1 σ) := by
  unfold f_X10_readSign_b80
  repeat' first
    | assumption
    | with_reducible exact kd_none
    | with_reducible apply kd_some
    | with_reducible apply kd_ite
    | with_reducible apply kd_gs
    | with_reducible apply kd_bd
    | with_reducible apply knk_f_J0_indexOf_0f7a4
    | with_reducible apply knk_f_X10_readSign_b96
    | intro _ _ _
theorem knk_f_X10_readSign_b58 (v1 : Int32) (v2 : Int32) (σ : S5) (h : NKs σ) : Kd NKs (f_X10_readSign_b58 v1 v2 σ) := by
  unfold f_X10_readSign_b58
  repeat' first
    | assumption
    | with_reducible exact kd_none
    | with_reducible apply kd_some
    | with_reducible apply kd_ite
    | with_reducible apply kd_bd
    | with_reducible apply NKs_pI _ _ _ (by decide)
    | with_reducible apply knk_f_X10_readSign_b99
    | with_reducible apply knk_f_X10_readSign_b80
    | intro _ _ _
theorem knk_f_X10_readSign_b36 (v1 : Int32) (v2 : Int32) (σ : S5) (h : NKs σ) : Kd NKs (f_X10_readSign_b36 v1 v2 σ) := by
  unfold f_X10_readSign_b36
  repeat' first
    | assumption
    | with_reducible exact kd_none
    | with_reducible apply kd_some
    | with_reducible apply kd_ite
    | with_reducible apply kd_bd
    | with_reducible apply NKs_pI _ _ _ (by decide)
    | with_reducible apply knk_f_X10_readSign_b99
    | with_reducible apply knk_f_X10_readSign_b58
    | intro _ _ _
theorem knk_f_X10_readSign (a1 : Int32) (σ : S5) (h : NKs σ) : Kd NKs (f_X10_readSign a1 σ) := by
  unfold f_X10_readSign
  repeat' first
    | assumption
    | with_reducible exact kd_none
    | with_reducible apply kd_some
    | with_reducible apply kd_ite
    | with_reducible apply kd_bd
    | with_reducible apply NKs_pI _ _ _ (by decide)
    | with_reducible apply knk_f_X8_signAt_text
    | with_reducible apply knk_f_X10_readSign_b99
    | with_reducible apply knk_f_X10_readSign_b36
    | intro _ _ _
theorem knk_f_X10_advance_b59 (a1 : Int32) (ho : okS a1) (σ : S5) (h : NKs σ) : Kd NKs (f_X10_advance_b59 a1 σ) := by
  unfold f_X10_advance_b59
  exact kd_bd (knk_f_X10_readName a1 ho σ h) (fun _ _ q => kd_some q)
theorem knk_f_X10_advance (σ : S5) (h : NKs σ) : Kd NKs (f_X10_advance σ) := by
  unfold f_X10_advance
  refine kd_ite (kd_some h) (kd_bd (knk_f_X10_passBlanks _ h) (fun _ τ9 h9 => kd_bd (knk_f_X8_signAt_text _ _ (NKs_pI _ _ _ trivial h9)) (fun r28 τ28 h28 => kd_ite (kd_some (NKs_pI _ _ _ trivial h28)) ?_)))
  rcases is_sm r28 τ28 with w | ⟨w, o⟩
  · rw [w, bd_of, if_pos rfl]
    rcases is_gr r28 τ28 with w | ⟨w, o⟩
    · rw [w, bd_of, if_pos rfl]
      exact kd_bd (knk_f_X10_isDigit _ _ h28) (fun _ τ q => kd_ite (kd_bd (knk_f_X10_readSign _ _ q) (fun _ _ q => kd_some q)) (kd_bd (knk_f_X10_readNumber _ q) (fun _ _ q => kd_some q)))
    · rw [w, bd_of, if_neg (by decide)]
      exact knk_f_X10_advance_b59 _ o _ h28
  · rw [w, bd_of, if_neg (by decide)]
    exact knk_f_X10_advance_b59 _ o _ h28
theorem knk_f_X10_begin  (σ : S5) (h : NKs σ) : Kd NKs (f_X10_begin  σ) := by
  unfold f_X10_begin
  repeat' first
    | assumption
    | with_reducible exact kd_none
    | with_reducible apply kd_some
    | with_reducible apply kd_ite
    | with_reducible apply kd_bd
    | with_reducible apply NKs_pI _ _ _ (by decide)
    | with_reducible apply knk_f_X10_advance
    | intro _ _ _
theorem knk_f_X9_span (a0 : Int32) (a1 : Int32) (σ : S5) (h : NKs σ) : Kd NKs (f_X9_span a0 a1 σ) := by
  unfold f_X9_span
  repeat' first
    | assumption
    | with_reducible exact kd_none
    | with_reducible apply kd_some
    | with_reducible apply kd_ite
    | with_reducible apply kd_bd
    | intro _ _ _
theorem knk_f_X9_isPart_b12  (σ : S5) (h : NKs σ) : Kd NKs (f_X9_isPart_b12  σ) := by
  unfold f_X9_isPart_b12
  repeat' first
    | assumption
    | with_reducible exact kd_none
    | with_reducible apply kd_some
    | with_reducible apply kd_ite
    | with_reducible apply kd_bd
    | intro _ _ _
theorem knk_f_X9_isPart (a0 : Int32) (σ : S5) (h : NKs σ) : Kd NKs (f_X9_isPart a0 σ) := by
  unfold f_X9_isPart
  repeat' first
    | assumption
    | with_reducible exact kd_none
    | with_reducible apply kd_some
    | with_reducible apply kd_ite
    | with_reducible apply kd_bd
    | with_reducible apply knk_f_X9_isPart_b12
    | intro _ _ _
theorem knk_f_X9_clear  (σ : S5) (h : NKs σ) : Kd NKs (f_X9_clear  σ) := by
  unfold f_X9_clear
  repeat' first
    | assumption
    | with_reducible exact kd_none
    | with_reducible apply kd_some
    | with_reducible apply kd_ite
    | with_reducible apply kd_bd
    | with_reducible apply NKs_pI _ _ _ (by decide)
    | intro _ _ _
theorem knk_f_X9_add (a1 : Int32) (a2 : Int32) (a3 : Int32) (a4 : Int32) (σ : S5) (h : NKs σ) : Kd NKs (f_X9_add a1 a2 a3 a4 σ) := by
  unfold f_X9_add
  repeat' first
    | assumption
    | with_reducible exact kd_none
    | with_reducible apply kd_some
    | with_reducible apply kd_ite
    | with_reducible apply kd_gd
    | with_reducible apply kd_bd
    | with_reducible apply NKs_pI _ _ _ (by decide)
    | with_reducible apply NKs_pA
    | intro _ _ _
theorem knk_f_X9_addLeaf (a1 : Int32) (a2 : Int32) (σ : S5) (h : NKs σ) : Kd NKs (f_X9_addLeaf a1 a2 σ) := by
  unfold f_X9_addLeaf
  repeat' first
    | assumption
    | with_reducible exact kd_none
    | with_reducible apply kd_some
    | with_reducible apply kd_ite
    | with_reducible apply kd_bd
    | with_reducible apply knk_f_X9_add
    | intro _ _ _
theorem knk_f_X9_change (a1 : Int32) (a2 : Int32) (a3 : Int32) (σ : S5) (h : NKs σ) : Kd NKs (f_X9_change a1 a2 a3 σ) := by
  unfold f_X9_change
  repeat' first
    | assumption
    | with_reducible exact kd_none
    | with_reducible apply kd_some
    | with_reducible apply kd_ite
    | with_reducible apply kd_gd
    | with_reducible apply kd_bd
    | with_reducible apply NKs_pA
    | intro _ _ _
theorem knk_f_X9_measureLeaf_b49 (u0 : Int64) (u1 : Int32) (σ : S5) (h : NKs σ) : Kd NKs (f_X9_measureLeaf_b49 u0 u1 σ) := by
  unfold f_X9_measureLeaf_b49
  repeat' first
    | assumption
    | with_reducible exact kd_none
    | with_reducible apply kd_some
    | with_reducible apply kd_ite
    | with_reducible apply kd_gd
    | with_reducible apply kd_bd
    | with_reducible apply NKs_pB _ _ _ _ (by decide)
    | intro _ _ _
theorem knk_f_X9_measureLeaf_b48 (u0 : Int32) (σ : S5) (h : NKs σ) : Kd NKs (f_X9_measureLeaf_b48 u0 σ) := by
  unfold f_X9_measureLeaf_b48
  repeat' first
    | assumption
    | with_reducible exact kd_none
    | with_reducible apply kd_some
    | with_reducible apply kd_ite
    | with_reducible apply kd_bd
    | with_reducible apply knk_f_X9_measureLeaf_b49
    | intro _ _ _
theorem knk_f_X9_measureLeaf (a1 : Int32) (σ : S5) (h : NKs σ) : Kd NKs (f_X9_measureLeaf a1 σ) := by
  unfold f_X9_measureLeaf
  repeat' first
    | assumption
    | with_reducible exact kd_none
    | with_reducible apply kd_some
    | with_reducible apply kd_ite
    | with_reducible apply kd_gd
    | with_reducible apply kd_bd
    | with_reducible apply NKs_pA
    | with_reducible apply knk_f_X9_measureLeaf_b49
    | with_reducible apply knk_f_X9_measureLeaf_b48
    | intro _ _ _
theorem knk_f_X9_measure_b158 (v1 : Int32) (v3 : Int32) (v4 : Int32) (v5 : Int64) (v7 : Int64) (u0 : Int32) (σ : S5) (h : NKs σ) : Kd NKs (f_X9_measure_b158 v1 v3 v4 v5 v7 u0 σ) := by
  unfold f_X9_measure_b158
  repeat' first
    | assumption
    | with_reducible exact kd_none
    | with_reducible apply kd_some
    | with_reducible apply kd_ite
    | with_reducible apply kd_gd
    | with_reducible apply kd_bd
    | with_reducible apply NKs_pA
    | with_reducible apply NKs_pB _ _ _ _ (by decide)
    | intro _ _ _
theorem knk_f_X9_measure_b141 (v1 : Int32) (v3 : Int32) (v4 : Int32) (v5 : Int64) (v7 : Int64) (σ : S5) (h : NKs σ) : Kd NKs (f_X9_measure_b141 v1 v3 v4 v5 v7 σ) := by
  unfold f_X9_measure_b141
  repeat' first
    | assumption
    | with_reducible exact kd_none
    | with_reducible apply kd_some
    | with_reducible apply kd_ite
    | with_reducible apply kd_gd
    | with_reducible apply kd_bd
    | with_reducible apply knk_f_X9_isPart
    | with_reducible apply knk_f_X9_measure_b158
    | intro _ _ _
theorem knk_f_X9_measure_b118 (v1 : Int32) (v2 : Int32) (v3 : Int32) (v4 : Int32) (v5 : Int64) (v7 : Int64) (σ : S5) (h : NKs σ) : Kd NKs (f_X9_measure_b118 v1 v2 v3 v4 v5 v7 σ) := by
  unfold f_X9_measure_b118
  repeat' first
    | assumption
    | with_reducible exact kd_none
    | with_reducible apply kd_some
    | with_reducible apply kd_ite
    | with_reducible apply kd_gd
    | with_reducible apply kd_bd
    | with_reducible apply knk_f_X9_span
    | with_reducible apply knk_f_X9_measure_b141
    | intro _ _ _
theorem knk_f_X9_measure_b100 (rec22 : Int32 → Int32 → Int32 → Int32 → Int64 → Int64 → Int32 → Int32 → S5 → Option (Unit × S5)) (hrec22 : ∀ v0 v1 v2 v3 v4 v5 v6 v7 (σ : S5), NKs σ → Kd NKs (rec22 v0 v1 v2 v3 v4 v5 v6 v7 σ)) (v1 : Int32) (v2 : Int32) (v3 : Int32) (v4 : Int32) (v5 : Int64) (v9 : Int32) (v10 : Int32) (u0 : Int64) (u1 : Int64) (σ : S5) (h : NKs σ) : Kd NKs (f_X9_measure_b100 rec22 v1 v2 v3 v4 v5 v9 v10 u0 u1 σ) := by
  unfold f_X9_measure_b100
  repeat' first
    | assumption
    | with_reducible exact kd_none
    | with_reducible apply kd_some
    | with_reducible apply kd_ite
    | with_reducible apply kd_gd
    | with_reducible apply kd_bd
    | with_reducible apply hrec22
    | intro _ _ _
theorem knk_f_X9_measure_B22 (rec22 : Int32 → Int32 → Int32 → Int32 → Int64 → Int64 → Int32 → Int32 → S5 → Option (Unit × S5)) (hrec22 : ∀ v0 v1 v2 v3 v4 v5 v6 v7 (σ : S5), NKs σ → Kd NKs (rec22 v0 v1 v2 v3 v4 v5 v6 v7 σ)) (v1 : Int32) (v2 : Int32) (v3 : Int32) (v4 : Int32) (v5 : Int64) (v7 : Int64) (v9 : Int32) (v10 : Int32) (σ : S5) (h : NKs σ) : Kd NKs (f_X9_measure_B22 rec22 v1 v2 v3 v4 v5 v7 v9 v10 σ) := by
  unfold f_X9_measure_B22
  repeat' first
    | assumption
    | with_reducible exact kd_none
    | with_reducible apply kd_some
    | with_reducible apply kd_ite
    | with_reducible apply kd_gd
    | with_reducible apply kd_bd
    | with_reducible apply knk_f_X9_span
    | with_reducible apply knk_f_X9_measure_b118
    | with_reducible apply knk_f_X9_measure_b100
    | with_reducible apply hrec22
    | intro _ _ _
theorem knk_f_X9_measure_L22 : ∀ (n : Nat) v0 v1 v2 v3 v4 v5 v6 v7 (σ : S5), NKs σ → Kd NKs (f_X9_measure_L22 n v0 v1 v2 v3 v4 v5 v6 v7 σ)
  | 0, _, _, _, _, _, _, _, _, _, _ => kd_none
  | n + 1, v0, v1, v2, v3, v4, v5, v6, v7, σ, h => by
    unfold f_X9_measure_L22
    exact knk_f_X9_measure_B22 _ (knk_f_X9_measure_L22 n) v0 v1 v2 v3 v4 v5 v6 v7 σ h
theorem knk_f_X9_measure (a1 : Int32) (a2 : Int32) (σ : S5) (h : NKs σ) : Kd NKs (f_X9_measure a1 a2 σ) := by
  unfold f_X9_measure
  repeat' first
    | assumption
    | with_reducible exact kd_none
    | with_reducible apply kd_some
    | with_reducible apply kd_ite
    | with_reducible apply kd_gd
    | with_reducible apply kd_bd
    | with_reducible apply knk_f_X9_measure_L22
    | intro _ _ _
theorem knk_f_X4_addConstructor (a1 : Int64) (ho : okN a1) (a3 : Int32) (σ : S5) (h : NKs σ) : Kd NKs (f_X4_addConstructor a1 a3 σ) := by
  unfold f_X4_addConstructor
  refine kd_ite (kd_some h) (kd_gd (kd_gd (kd_some (NKs_pI _ _ _ trivial ⟨h.1, fun i => ?_⟩))))
  show okN (gB (pB σ 0 (gI σ 4) a1) 0 i)
  rw [gB_pB]
  split
  · exact ho
  · exact h.2 i
theorem knk_f_X4_clear (σ : S5) (h : NKs σ) : Kd NKs (f_X4_clear σ) := by
  unfold f_X4_clear
  exact kd_bd (knk_f_X4_addConstructor _ okN_F _ _ (NKs_pI _ _ _ trivial h)) (fun _ _ q => kd_bd (knk_f_X4_addConstructor _ okN_T _ _ q) (fun _ _ q => kd_some (NKs_pI _ _ _ trivial (NKs_pI _ _ _ trivial (NKs_pI _ _ _ trivial q)))))
theorem knk_f_X4_constructorOf_B2 (rec2 : Int64 → Int32 → S5 → Option (Int32 × S5)) (hrec2 : ∀ v0 v1 (σ : S5), NKs σ → Kd NKs (rec2 v0 v1 σ)) (v1 : Int64) (v3 : Int32) (σ : S5) (h : NKs σ) : Kd NKs (f_X4_constructorOf_B2 rec2 v1 v3 σ) := by
  unfold f_X4_constructorOf_B2
  repeat' first
    | assumption
    | with_reducible exact kd_none
    | with_reducible apply kd_some
    | with_reducible apply kd_ite
    | with_reducible apply kd_gd
    | with_reducible apply kd_bd
    | with_reducible apply hrec2
    | intro _ _ _
theorem knk_f_X4_constructorOf_L2 : ∀ (n : Nat) v0 v1 (σ : S5), NKs σ → Kd NKs (f_X4_constructorOf_L2 n v0 v1 σ)
  | 0, _, _, _, _ => kd_none
  | n + 1, v0, v1, σ, h => by
    unfold f_X4_constructorOf_L2
    exact knk_f_X4_constructorOf_B2 _ (knk_f_X4_constructorOf_L2 n) v0 v1 σ h
theorem knk_f_X4_constructorOf (a1 : Int64) (σ : S5) (h : NKs σ) : Kd NKs (f_X4_constructorOf a1 σ) := by
  unfold f_X4_constructorOf
  repeat' first
    | assumption
    | with_reducible exact kd_none
    | with_reducible apply kd_some
    | with_reducible apply kd_ite
    | with_reducible apply kd_bd
    | with_reducible apply knk_f_X4_constructorOf_L2
    | intro _ _ _
theorem knk_f_X4_addFunction (a1 : Int32) (σ : S5) (h : NKs σ) : Kd NKs (f_X4_addFunction a1 σ) := by
  unfold f_X4_addFunction
  repeat' first
    | assumption
    | with_reducible exact kd_none
    | with_reducible apply kd_some
    | with_reducible apply kd_ite
    | with_reducible apply kd_gd
    | with_reducible apply kd_bd
    | with_reducible apply NKs_pI _ _ _ (by decide)
    | with_reducible apply NKs_pA
    | intro _ _ _
theorem knk_f_X4_addTop (a1 : Int64) (a3 : Int32) (σ : S5) (h : NKs σ) : Kd NKs (f_X4_addTop a1 a3 σ) := by
  unfold f_X4_addTop
  repeat' first
    | assumption
    | with_reducible exact kd_none
    | with_reducible apply kd_some
    | with_reducible apply kd_ite
    | with_reducible apply kd_gd
    | with_reducible apply kd_bd
    | with_reducible apply NKs_pI _ _ _ (by decide)
    | with_reducible apply NKs_pB _ _ _ _ (by decide)
    | with_reducible apply knk_f_X4_addFunction
    | intro _ _ _
theorem knk_f_X4_topOf_B2 (rec2 : Int64 → Int32 → S5 → Option (Int32 × S5)) (hrec2 : ∀ v0 v1 (σ : S5), NKs σ → Kd NKs (rec2 v0 v1 σ)) (v1 : Int64) (v3 : Int32) (σ : S5) (h : NKs σ) : Kd NKs (f_X4_topOf_B2 rec2 v1 v3 σ) := by
  unfold f_X4_topOf_B2
  repeat' first
    | assumption
    | with_reducible exact kd_none
    | with_reducible apply kd_some
    | with_reducible apply kd_ite
    | with_reducible apply kd_gd
    | with_reducible apply kd_bd
    | with_reducible apply hrec2
    | intro _ _ _
theorem knk_f_X4_topOf_L2 : ∀ (n : Nat) v0 v1 (σ : S5), NKs σ → Kd NKs (f_X4_topOf_L2 n v0 v1 σ)
  | 0, _, _, _, _ => kd_none
  | n + 1, v0, v1, σ, h => by
    unfold f_X4_topOf_L2
    exact knk_f_X4_topOf_B2 _ (knk_f_X4_topOf_L2 n) v0 v1 σ h
theorem knk_f_X4_topOf (a1 : Int64) (σ : S5) (h : NKs σ) : Kd NKs (f_X4_topOf a1 σ) := by
  unfold f_X4_topOf
  repeat' first
    | assumption
    | with_reducible exact kd_none
    | with_reducible apply kd_some
    | with_reducible apply kd_ite
    | with_reducible apply kd_bd
    | with_reducible apply knk_f_X4_topOf_L2
    | intro _ _ _
theorem knk_f_X4_needsParameter (a1 : Int32) (a2 : Int32) (σ : S5) (h : NKs σ) : Kd NKs (f_X4_needsParameter a1 a2 σ) := by
  unfold f_X4_needsParameter
  repeat' first
    | assumption
    | with_reducible exact kd_none
    | with_reducible apply kd_some
    | with_reducible apply kd_ite
    | with_reducible apply kd_gd
    | with_reducible apply kd_bd
    | intro _ _ _
theorem knk_f_X6_clear  (σ : S5) (h : NKs σ) : Kd NKs (f_X6_clear  σ) := by
  unfold f_X6_clear
  repeat' first
    | assumption
    | with_reducible exact kd_none
    | with_reducible apply kd_some
    | with_reducible apply kd_ite
    | with_reducible apply kd_bd
    | with_reducible apply NKs_pI _ _ _ (by decide)
    | intro _ _ _
theorem knk_f_X6_add_b72 (u0 : Int32) (u1 : Int32) (σ : S5) (h : NKs σ) : Kd NKs (f_X6_add_b72 u0 u1 σ) := by
  unfold f_X6_add_b72
  repeat' first
    | assumption
    | with_reducible exact kd_none
    | with_reducible apply kd_some
    | with_reducible apply kd_ite
    | with_reducible apply kd_gd
    | with_reducible apply kd_bd
    | with_reducible apply NKs_pI _ _ _ (by decide)
    | with_reducible apply NKs_pA
    | intro _ _ _
theorem knk_f_X6_add_b59 (u0 : Int32) (σ : S5) (h : NKs σ) : Kd NKs (f_X6_add_b59 u0 σ) := by
  unfold f_X6_add_b59
  repeat' first
    | assumption
    | with_reducible exact kd_none
    | with_reducible apply kd_some
    | with_reducible apply kd_ite
    | with_reducible apply kd_bd
    | with_reducible apply knk_f_X6_add_b72
    | intro _ _ _
theorem knk_f_X6_add (a1 : Int32) (a2 : Int32) (a3 : Int32) (σ : S5) (h : NKs σ) : Kd NKs (f_X6_add a1 a2 a3 σ) := by
  unfold f_X6_add
  repeat' first
    | assumption
    | with_reducible exact kd_none
    | with_reducible apply kd_some
    | with_reducible apply kd_ite
    | with_reducible apply kd_gd
    | with_reducible apply kd_bd
    | with_reducible apply NKs_pA
    | with_reducible apply knk_f_X6_add_b72
    | with_reducible apply knk_f_X6_add_b59
    | intro _ _ _
theorem knk_f_X6_owns (a1 : Int32) (σ : S5) (h : NKs σ) : Kd NKs (f_X6_owns a1 σ) := by
  unfold f_X6_owns
  repeat' first
    | assumption
    | with_reducible exact kd_none
    | with_reducible apply kd_some
    | with_reducible apply kd_ite
    | with_reducible apply kd_gd
    | with_reducible apply kd_bd
    | intro _ _ _
theorem knk_f_X6_addName (a1 : Int32) (a2 : Int64) (σ : S5) (h : NKs σ) : Kd NKs (f_X6_addName a1 a2 σ) := by
  unfold f_X6_addName
  repeat' first
    | assumption
    | with_reducible exact kd_none
    | with_reducible apply kd_some
    | with_reducible apply kd_ite
    | with_reducible apply kd_gd
    | with_reducible apply kd_bd
    | with_reducible apply NKs_pA
    | with_reducible apply NKs_pB _ _ _ _ (by decide)
    | intro _ _ _
theorem knk_f_X6_variableIn_B3 (rec3 : Int32 → Int64 → Int32 → S5 → Option (Int32 × S5)) (hrec3 : ∀ v0 v1 v2 (σ : S5), NKs σ → Kd NKs (rec3 v0 v1 v2 σ)) (v1 : Int32) (v2 : Int64) (v4 : Int32) (σ : S5) (h : NKs σ) : Kd NKs (f_X6_variableIn_B3 rec3 v1 v2 v4 σ) := by
  unfold f_X6_variableIn_B3
  repeat' first
    | assumption
    | with_reducible exact kd_none
    | with_reducible apply kd_some
    | with_reducible apply kd_ite
    | with_reducible apply kd_gd
    | with_reducible apply kd_bd
    | with_reducible apply hrec3
    | intro _ _ _
theorem knk_f_X6_variableIn_L3 : ∀ (n : Nat) v0 v1 v2 (σ : S5), NKs σ → Kd NKs (f_X6_variableIn_L3 n v0 v1 v2 σ)
  | 0, _, _, _, _, _ => kd_none
  | n + 1, v0, v1, v2, σ, h => by
    unfold f_X6_variableIn_L3
    exact knk_f_X6_variableIn_B3 _ (knk_f_X6_variableIn_L3 n) v0 v1 v2 σ h
theorem knk_f_X6_variableIn (a1 : Int32) (a2 : Int64) (σ : S5) (h : NKs σ) : Kd NKs (f_X6_variableIn a1 a2 σ) := by
  unfold f_X6_variableIn
  repeat' first
    | assumption
    | with_reducible exact kd_none
    | with_reducible apply kd_some
    | with_reducible apply kd_ite
    | with_reducible apply kd_bd
    | with_reducible apply knk_f_X6_variableIn_L3
    | intro _ _ _
theorem knk_f_X6_has (a1 : Int32) (a2 : Int64) (σ : S5) (h : NKs σ) : Kd NKs (f_X6_has a1 a2 σ) := by
  unfold f_X6_has
  repeat' first
    | assumption
    | with_reducible exact kd_none
    | with_reducible apply kd_some
    | with_reducible apply kd_ite
    | with_reducible apply kd_bd
    | with_reducible apply knk_f_X6_variableIn
    | intro _ _ _
theorem knk_f_X6_find_B6 (rec6 : Int64 → Int32 → Int32 → S5 → Option (Int32 × S5)) (hrec6 : ∀ v0 v1 v2 (σ : S5), NKs σ → Kd NKs (rec6 v0 v1 v2 σ)) (v2 : Int64) (v4 : Int32) (v5 : Int32) (σ : S5) (h : NKs σ) : Kd NKs (f_X6_find_B6 rec6 v2 v4 v5 σ) := by
  unfold f_X6_find_B6
  repeat' first
    | assumption
    | with_reducible exact kd_none
    | with_reducible apply kd_some
    | with_reducible apply kd_ite
    | with_reducible apply kd_gd
    | with_reducible apply kd_bd
    | with_reducible apply knk_f_X6_variableIn
    | with_reducible apply hrec6
    | intro _ _ _
theorem knk_f_X6_find_L6 : ∀ (n : Nat) v0 v1 v2 (σ : S5), NKs σ → Kd NKs (f_X6_find_L6 n v0 v1 v2 σ)
  | 0, _, _, _, _, _ => kd_none
  | n + 1, v0, v1, v2, σ, h => by
    unfold f_X6_find_L6
    exact knk_f_X6_find_B6 _ (knk_f_X6_find_L6 n) v0 v1 v2 σ h
theorem knk_f_X6_find (a1 : Int32) (a2 : Int64) (σ : S5) (h : NKs σ) : Kd NKs (f_X6_find a1 a2 σ) := by
  unfold f_X6_find
  repeat' first
    | assumption
    | with_reducible exact kd_none
    | with_reducible apply kd_some
    | with_reducible apply kd_ite
    | with_reducible apply kd_bd
    | with_reducible apply knk_f_X6_find_L6
    | intro _ _ _
theorem knk_f_X6_addUse (a1 : Int64) (a3 : Int32) (a4 : Int32) (a5 : Int32) (σ : S5) (h : NKs σ) : Kd NKs (f_X6_addUse a1 a3 a4 a5 σ) := by
  unfold f_X6_addUse
  repeat' first
    | assumption
    | with_reducible exact kd_none
    | with_reducible apply kd_some
    | with_reducible apply kd_ite
    | with_reducible apply kd_gd
    | with_reducible apply kd_bd
    | with_reducible apply NKs_pI _ _ _ (by decide)
    | with_reducible apply NKs_pA
    | with_reducible apply NKs_pB _ _ _ _ (by decide)
    | intro _ _ _
theorem knk_f_X5_refuse (a1 : Int32) (σ : S5) (h : NKs σ) : Kd NKs (f_X5_refuse a1 σ) := by
  unfold f_X5_refuse
  repeat' first
    | assumption
    | with_reducible exact kd_none
    | with_reducible apply kd_some
    | with_reducible apply kd_ite
    | with_reducible apply kd_bd
    | with_reducible apply NKs_pI _ _ _ (by decide)
    | with_reducible apply knk_f_X10_stop
    | intro _ _ _
theorem knk_f_X5_expect (a1 : Int32) (σ : S5) (h : NKs σ) : Kd NKs (f_X5_expect a1 σ) := by
  unfold f_X5_expect
  repeat' first
    | assumption
    | with_reducible exact kd_none
    | with_reducible apply kd_some
    | with_reducible apply kd_ite
    | with_reducible apply kd_bd
    | with_reducible apply knk_f_X10_advance
    | with_reducible apply knk_f_X5_refuse
    | intro _ _ _
theorem knk_f_X5_countPart  (σ : S5) (h : NKs σ) : Kd NKs (f_X5_countPart  σ) := by
  unfold f_X5_countPart
  repeat' first
    | assumption
    | with_reducible exact kd_none
    | with_reducible apply kd_some
    | with_reducible apply kd_ite
    | with_reducible apply kd_bd
    | with_reducible apply NKs_pI _ _ _ (by decide)
    | with_reducible apply knk_f_X5_refuse
    | intro _ _ _
theorem knk_f_X5_opens  (σ : S5) (h : NKs σ) : Kd NKs (f_X5_opens  σ) := by
  unfold f_X5_opens
  repeat' first
    | assumption
    | with_reducible exact kd_none
    | with_reducible apply kd_some
    | with_reducible apply kd_ite
    | with_reducible apply kd_bd
    | with_reducible apply NKs_pI _ _ _ (by decide)
    | with_reducible apply knk_f_X5_refuse
    | intro _ _ _
theorem knk_f_X5_readConstructor_b93  (σ : S5) (h : NKs σ) : Kd NKs (f_X5_readConstructor_b93  σ) := by
  unfold f_X5_readConstructor_b93
  repeat' first
    | assumption
    | with_reducible exact kd_none
    | with_reducible apply kd_some
    | with_reducible apply kd_ite
    | with_reducible apply kd_bd
    | with_reducible apply knk_f_X5_refuse
    | intro _ _ _
theorem knk_f_X5_readConstructor_b64 (a1 : Int64) (ho : okN a1) (σ : S5) (h : NKs σ) : Kd NKs (f_X5_readConstructor_b64 a1 σ) := by
  unfold f_X5_readConstructor_b64
  exact kd_bd (knk_f_X10_advance _ h) (fun _ τ q => kd_ite (kd_ite (kd_bd (knk_f_X4_addConstructor _ ho _ _ q) (fun _ _ q => kd_bd (knk_f_X10_advance _ q) (fun _ _ q => kd_some q))) (knk_f_X5_readConstructor_b93 _ q)) (knk_f_X5_readConstructor_b93 _ q))
theorem knk_f_X5_readConstructor (σ : S5) (h : NKs σ) : Kd NKs (f_X5_readConstructor σ) := by
  unfold f_X5_readConstructor
  exact kd_ite (kd_bd (knk_f_X4_constructorOf _ _ h) (fun _ τ q => kd_ite (kd_ite (knk_f_X5_readConstructor_b64 _ h.1 _ q) (kd_bd (knk_f_X5_refuse _ _ q) (fun _ _ q => knk_f_X5_readConstructor_b64 _ h.1 _ q))) (kd_bd (knk_f_X5_refuse _ _ q) (fun _ _ q => knk_f_X5_readConstructor_b64 _ h.1 _ q)))) (kd_bd (knk_f_X5_refuse _ _ h) (fun _ _ q => knk_f_X5_readConstructor_b64 _ h.1 _ q))
theorem knk_f_X5_readData_b49  (σ : S5) (h : NKs σ) : Kd NKs (f_X5_readData_b49  σ) := by
  unfold f_X5_readData_b49
  repeat' first
    | assumption
    | with_reducible exact kd_none
    | with_reducible apply kd_some
    | with_reducible apply kd_ite
    | with_reducible apply kd_bd
    | with_reducible apply knk_f_X5_expect
    | intro _ _ _
theorem knk_f_X5_readData_B13 (rec13 : Int32 → S5 → Option (Unit × S5)) (hrec13 : ∀ v0 (σ : S5), NKs σ → Kd NKs (rec13 v0 σ)) (v1 : Int32) (σ : S5) (h : NKs σ) : Kd NKs (f_X5_readData_B13 rec13 v1 σ) := by
  unfold f_X5_readData_B13
  repeat' first
    | assumption
    | with_reducible exact kd_none
    | with_reducible apply kd_some
    | with_reducible apply kd_ite
    | with_reducible apply kd_bd
    | with_reducible apply knk_f_X10_advance
    | with_reducible apply knk_f_X5_readConstructor
    | with_reducible apply knk_f_X5_readData_b49
    | with_reducible apply hrec13
    | intro _ _ _
theorem knk_f_X5_readData_L13 : ∀ (n : Nat) v0 (σ : S5), NKs σ → Kd NKs (f_X5_readData_L13 n v0 σ)
  | 0, _, _, _ => kd_none
  | n + 1, v0, σ, h => by
    unfold f_X5_readData_L13
    exact knk_f_X5_readData_B13 _ (knk_f_X5_readData_L13 n) v0 σ h
theorem knk_f_X5_readData  (σ : S5) (h : NKs σ) : Kd NKs (f_X5_readData  σ) := by
  unfold f_X5_readData
  repeat' first
    | assumption
    | with_reducible exact kd_none
    | with_reducible apply kd_some
    | with_reducible apply kd_ite
    | with_reducible apply kd_bd
    | with_reducible apply knk_f_X10_advance
    | with_reducible apply knk_f_X5_readConstructor
    | with_reducible apply knk_f_X5_readData_L13
    | intro _ _ _
theorem knk_f_X5_declare (a1 : Int32) (σ : S5) (h : NKs σ) : Kd NKs (f_X5_declare a1 σ) := by
  unfold f_X5_declare
  repeat' first
    | assumption
    | with_reducible exact kd_none
    | with_reducible apply kd_some
    | with_reducible apply kd_ite
    | with_reducible apply kd_gd
    | with_reducible apply kd_bd
    | with_reducible apply knk_f_X10_advance
    | with_reducible apply knk_f_X6_addName
    | with_reducible apply knk_f_X6_has
    | with_reducible apply knk_f_X5_refuse
    | intro _ _ _
theorem knk_f_X5_readParameters_B2 (rec2 : Int32 → Int32 → S5 → Option (Unit × S5)) (hrec2 : ∀ v0 v1 (σ : S5), NKs σ → Kd NKs (rec2 v0 v1 σ)) (v1 : Int32) (v2 : Int32) (σ : S5) (h : NKs σ) : Kd NKs (f_X5_readParameters_B2 rec2 v1 v2 σ) := by
  unfold f_X5_readParameters_B2
  repeat' first
    | assumption
    | with_reducible exact kd_none
    | with_reducible apply kd_some
    | with_reducible apply kd_ite
    | with_reducible apply kd_bd
    | with_reducible apply knk_f_X5_declare
    | with_reducible apply hrec2
    | intro _ _ _
theorem knk_f_X5_readParameters_L2 : ∀ (n : Nat) v0 v1 (σ : S5), NKs σ → Kd NKs (f_X5_readParameters_L2 n v0 v1 σ)
  | 0, _, _, _, _ => kd_none
  | n + 1, v0, v1, σ, h => by
    unfold f_X5_readParameters_L2
    exact knk_f_X5_readParameters_B2 _ (knk_f_X5_readParameters_L2 n) v0 v1 σ h
theorem knk_f_X5_readParameters (a1 : Int32) (σ : S5) (h : NKs σ) : Kd NKs (f_X5_readParameters a1 σ) := by
  unfold f_X5_readParameters
  repeat' first
    | assumption
    | with_reducible exact kd_none
    | with_reducible apply kd_some
    | with_reducible apply kd_ite
    | with_reducible apply kd_bd
    | with_reducible apply knk_f_X5_readParameters_L2
    | intro _ _ _
theorem knk_f_X5_isAtom_b27  (σ : S5) (h : NKs σ) : Kd NKs (f_X5_isAtom_b27  σ) := by
  unfold f_X5_isAtom_b27
  repeat' first
    | assumption
    | with_reducible exact kd_none
    | with_reducible apply kd_some
    | with_reducible apply kd_ite
    | with_reducible apply kd_bd
    | intro _ _ _
theorem knk_f_X5_isAtom (a0 : Int32) (σ : S5) (h : NKs σ) : Kd NKs (f_X5_isAtom a0 σ) := by
  unfold f_X5_isAtom
  repeat' first
    | assumption
    | with_reducible exact kd_none
    | with_reducible apply kd_some
    | with_reducible apply kd_ite
    | with_reducible apply kd_bd
    | with_reducible apply knk_f_X5_isAtom_b27
    | intro _ _ _
theorem knk_f_X5_atomStands_b98  (σ : S5) (h : NKs σ) : Kd NKs (f_X5_atomStands_b98  σ) := by
  unfold f_X5_atomStands_b98
  repeat' first
    | assumption
    | with_reducible exact kd_none
    | with_reducible apply kd_some
    | with_reducible apply kd_ite
    | with_reducible apply kd_bd
    | intro _ _ _
theorem knk_f_X5_atomStands_b93  (σ : S5) (h : NKs σ) : Kd NKs (f_X5_atomStands_b93  σ) := by
  unfold f_X5_atomStands_b93
  repeat' first
    | assumption
    | with_reducible exact kd_none
    | with_reducible apply kd_some
    | with_reducible apply kd_ite
    | with_reducible apply kd_bd
    | with_reducible apply knk_f_X5_refuse
    | with_reducible apply knk_f_X5_atomStands_b98
    | intro _ _ _
theorem knk_f_X5_atomStands_b56  (σ : S5) (h : NKs σ) : Kd NKs (f_X5_atomStands_b56  σ) := by
  unfold f_X5_atomStands_b56
  repeat' first
    | assumption
    | with_reducible exact kd_none
    | with_reducible apply kd_some
    | with_reducible apply kd_ite
    | with_reducible apply kd_bd
    | with_reducible apply knk_f_X5_atomStands_b98
    | intro _ _ _
theorem knk_f_X5_atomStands  (σ : S5) (h : NKs σ) : Kd NKs (f_X5_atomStands  σ) := by
  unfold f_X5_atomStands
  repeat' first
    | assumption
    | with_reducible exact kd_none
    | with_reducible apply kd_some
    | with_reducible apply kd_ite
    | with_reducible apply kd_gd
    | with_reducible apply kd_bd
    | with_reducible apply knk_f_X4_constructorOf
    | with_reducible apply knk_f_X5_refuse
    | with_reducible apply knk_f_X5_isAtom
    | with_reducible apply knk_f_X5_atomStands_b98
    | with_reducible apply knk_f_X5_atomStands_b93
    | with_reducible apply knk_f_X5_atomStands_b56
    | intro _ _ _
theorem knk_f_X5_readSign  (σ : S5) (h : NKs σ) : Kd NKs (f_X5_readSign  σ) := by
  unfold f_X5_readSign
  repeat' first
    | assumption
    | with_reducible exact kd_none
    | with_reducible apply kd_some
    | with_reducible apply kd_ite
    | with_reducible apply kd_bd
    | with_reducible apply knk_f_X10_advance
    | with_reducible apply knk_f_X5_countPart
    | intro _ _ _
theorem knk_f_X5_join (a1 : Int32) (a2 : Int32) (a3 : Int32) (σ : S5) (h : NKs σ) : Kd NKs (f_X5_join a1 a2 a3 σ) := by
  unfold f_X5_join
  repeat' first
    | assumption
    | with_reducible exact kd_none
    | with_reducible apply kd_some
    | with_reducible apply kd_ite
    | with_reducible apply kd_gd
    | with_reducible apply kd_bd
    | with_reducible apply NKs_pA
    | with_reducible apply knk_f_X9_add
    | intro _ _ _
theorem knk_f_X5_readAtom_b185 (E : S5 → Option (Int32 × S5)) (hE : ∀  σ, NKs σ → Kd NKs (E  σ)) (v2 : Int32) (σ : S5) (h : NKs σ) : Kd NKs (f_X5_readAtom_b185 E v2 σ) := by
  unfold f_X5_readAtom_b185
  repeat' first
    | assumption
    | with_reducible exact kd_none
    | with_reducible apply kd_some
    | with_reducible apply kd_ite
    | with_reducible apply kd_bd
    | with_reducible apply knk_f_X10_advance
    | with_reducible apply hE
    | intro _ _ _
theorem knk_f_X5_readAtom (E : S5 → Option (Int32 × S5)) (hE : ∀  σ, NKs σ → Kd NKs (E  σ)) (σ : S5) (h : NKs σ) : Kd NKs (f_X5_readAtom E  σ) := by
  unfold f_X5_readAtom
  repeat' first
    | assumption
    | with_reducible exact kd_none
    | with_reducible apply kd_some
    | with_reducible apply kd_ite
    | with_reducible apply kd_bd
    | with_reducible apply NKs_pI _ _ _ (by decide)
    | with_reducible apply knk_f_X10_advance
    | with_reducible apply knk_f_X9_addLeaf
    | with_reducible apply knk_f_X4_constructorOf
    | with_reducible apply knk_f_X6_addUse
    | with_reducible apply knk_f_X5_expect
    | with_reducible apply knk_f_X5_countPart
    | with_reducible apply knk_f_X5_readAtom_b185 E hE
    | with_reducible apply hE
    | intro _ _ _
theorem knk_f_X5_readBuild_b81 (E : S5 → Option (Int32 × S5)) (hE : ∀  σ, NKs σ → Kd NKs (E  σ)) (v1 : Int32) (v2 : Int32) (σ : S5) (h : NKs σ) : Kd NKs (f_X5_readBuild_b81 E v1 v2 σ) := by
  unfold f_X5_readBuild_b81
  repeat' first
    | assumption
    | with_reducible exact kd_none
    | with_reducible apply kd_some
    | with_reducible apply kd_ite
    | with_reducible apply kd_bd
    | with_reducible apply knk_f_X9_add
    | with_reducible apply hE
    | intro _ _ _
theorem knk_f_X5_readBuild_b72 (E : S5 → Option (Int32 × S5)) (hE : ∀  σ, NKs σ → Kd NKs (E  σ)) (rec14 : Int32 → Int32 → Int32 → Int32 → S5 → Option (Int32 × S5)) (hrec14 : ∀ v0 v1 v2 v3 (σ : S5), NKs σ → Kd NKs (rec14 v0 v1 v2 v3 σ)) (v1 : Int32) (v2 : Int32) (v4 : Int32) (v5 : Int32) (σ : S5) (h : NKs σ) : Kd NKs (f_X5_readBuild_b72 E rec14 v1 v2 v4 v5 σ) := by
  unfold f_X5_readBuild_b72
  repeat' first
    | assumption
    | with_reducible exact kd_none
    | with_reducible apply kd_some
    | with_reducible apply kd_ite
    | with_reducible apply kd_bd
    | with_reducible apply hE
    | with_reducible apply hrec14
    | intro _ _ _
theorem knk_f_X5_readBuild_b44 (E : S5 → Option (Int32 × S5)) (hE : ∀  σ, NKs σ → Kd NKs (E  σ)) (rec14 : Int32 → Int32 → Int32 → Int32 → S5 → Option (Int32 × S5)) (hrec14 : ∀ v0 v1 v2 v3 (σ : S5), NKs σ → Kd NKs (rec14 v0 v1 v2 v3 σ)) (v1 : Int32) (v2 : Int32) (v3 : Int32) (v4 : Int32) (σ : S5) (h : NKs σ) : Kd NKs (f_X5_readBuild_b44 E rec14 v1 v2 v3 v4 σ) := by
  unfold f_X5_readBuild_b44
  repeat' first
    | assumption
    | with_reducible exact kd_none
    | with_reducible apply kd_some
    | with_reducible apply kd_ite
    | with_reducible apply kd_gd
    | with_reducible apply kd_bd
    | with_reducible apply NKs_pA
    | with_reducible apply knk_f_X5_readAtom E hE
    | with_reducible apply knk_f_X5_readBuild_b72 E hE
    | with_reducible apply hE
    | with_reducible apply hrec14
    | intro _ _ _
theorem knk_f_X5_readBuild_B14 (E : S5 → Option (Int32 × S5)) (hE : ∀  σ, NKs σ → Kd NKs (E  σ)) (rec14 : Int32 → Int32 → Int32 → Int32 → S5 → Option (Int32 × S5)) (hrec14 : ∀ v0 v1 v2 v3 (σ : S5), NKs σ → Kd NKs (rec14 v0 v1 v2 v3 σ)) (v1 : Int32) (v2 : Int32) (v3 : Int32) (v4 : Int32) (σ : S5) (h : NKs σ) : Kd NKs (f_X5_readBuild_B14 E rec14 v1 v2 v3 v4 σ) := by
  unfold f_X5_readBuild_B14
  repeat' first
    | assumption
    | with_reducible exact kd_none
    | with_reducible apply kd_some
    | with_reducible apply kd_ite
    | with_reducible apply kd_gd
    | with_reducible apply kd_bd
    | with_reducible apply knk_f_X5_countPart
    | with_reducible apply knk_f_X5_atomStands
    | with_reducible apply knk_f_X5_readBuild_b81 E hE
    | with_reducible apply knk_f_X5_readBuild_b44 E hE
    | with_reducible apply hE
    | with_reducible apply hrec14
    | intro _ _ _
theorem knk_f_X5_readBuild_L14 (E : S5 → Option (Int32 × S5)) (hE : ∀  σ, NKs σ → Kd NKs (E  σ)) : ∀ (n : Nat) v0 v1 v2 v3 (σ : S5), NKs σ → Kd NKs (f_X5_readBuild_L14 E n v0 v1 v2 v3 σ)
  | 0, _, _, _, _, _, _ => kd_none
  | n + 1, v0, v1, v2, v3, σ, h => by
    unfold f_X5_readBuild_L14
    exact knk_f_X5_readBuild_B14 E hE _ (knk_f_X5_readBuild_L14 E hE n) v0 v1 v2 v3 σ h
theorem knk_f_X5_readBuild (E : S5 → Option (Int32 × S5)) (hE : ∀  σ, NKs σ → Kd NKs (E  σ)) (a1 : Int32) (σ : S5) (h : NKs σ) : Kd NKs (f_X5_readBuild E a1 σ) := by
  unfold f_X5_readBuild
  repeat' first
    | assumption
    | with_reducible exact kd_none
    | with_reducible apply kd_some
    | with_reducible apply kd_ite
    | with_reducible apply kd_bd
    | with_reducible apply knk_f_X10_advance
    | with_reducible apply knk_f_X5_readBuild_L14 E hE
    | with_reducible apply hE
    | intro _ _ _
theorem knk_f_X5_readApplication_b139 (E : S5 → Option (Int32 × S5)) (hE : ∀  σ, NKs σ → Kd NKs (E  σ)) (v1 : Int32) (v3 : Int32) (σ : S5) (h : NKs σ) : Kd NKs (f_X5_readApplication_b139 E v1 v3 σ) := by
  unfold f_X5_readApplication_b139
  repeat' first
    | assumption
    | with_reducible exact kd_none
    | with_reducible apply kd_some
    | with_reducible apply kd_ite
    | with_reducible apply kd_bd
    | with_reducible apply knk_f_X9_add
    | with_reducible apply hE
    | intro _ _ _
theorem knk_f_X5_readApplication_b113 (E : S5 → Option (Int32 × S5)) (hE : ∀  σ, NKs σ → Kd NKs (E  σ)) (rec67 : Int32 → Int32 → Int32 → S5 → Option (Int32 × S5)) (hrec67 : ∀ v0 v1 v2 (σ : S5), NKs σ → Kd NKs (rec67 v0 v1 v2 σ)) (v1 : Int32) (v2 : Int32) (v3 : Int32) (σ : S5) (h : NKs σ) : Kd NKs (f_X5_readApplication_b113 E rec67 v1 v2 v3 σ) := by
  unfold f_X5_readApplication_b113
  repeat' first
    | assumption
    | with_reducible exact kd_none
    | with_reducible apply kd_some
    | with_reducible apply kd_ite
    | with_reducible apply kd_gd
    | with_reducible apply kd_bd
    | with_reducible apply NKs_pA
    | with_reducible apply knk_f_X5_readAtom E hE
    | with_reducible apply hE
    | with_reducible apply hrec67
    | intro _ _ _
theorem knk_f_X5_readApplication_B67 (E : S5 → Option (Int32 × S5)) (hE : ∀  σ, NKs σ → Kd NKs (E  σ)) (rec67 : Int32 → Int32 → Int32 → S5 → Option (Int32 × S5)) (hrec67 : ∀ v0 v1 v2 (σ : S5), NKs σ → Kd NKs (rec67 v0 v1 v2 σ)) (v1 : Int32) (v2 : Int32) (v3 : Int32) (σ : S5) (h : NKs σ) : Kd NKs (f_X5_readApplication_B67 E rec67 v1 v2 v3 σ) := by
  unfold f_X5_readApplication_B67
  repeat' first
    | assumption
    | with_reducible exact kd_none
    | with_reducible apply kd_some
    | with_reducible apply kd_ite
    | with_reducible apply kd_bd
    | with_reducible apply knk_f_X5_refuse
    | with_reducible apply knk_f_X5_countPart
    | with_reducible apply knk_f_X5_isAtom
    | with_reducible apply knk_f_X5_atomStands
    | with_reducible apply knk_f_X5_readApplication_b139 E hE
    | with_reducible apply knk_f_X5_readApplication_b113 E hE
    | with_reducible apply hE
    | with_reducible apply hrec67
    | intro _ _ _
theorem knk_f_X5_readApplication_L67 (E : S5 → Option (Int32 × S5)) (hE : ∀  σ, NKs σ → Kd NKs (E  σ)) : ∀ (n : Nat) v0 v1 v2 (σ : S5), NKs σ → Kd NKs (f_X5_readApplication_L67 E n v0 v1 v2 σ)
  | 0, _, _, _, _, _ => kd_none
  | n + 1, v0, v1, v2, σ, h => by
    unfold f_X5_readApplication_L67
    exact knk_f_X5_readApplication_B67 E hE _ (knk_f_X5_readApplication_L67 E hE n) v0 v1 v2 σ h
theorem knk_f_X5_readApplication_b49 (E : S5 → Option (Int32 × S5)) (hE : ∀  σ, NKs σ → Kd NKs (E  σ)) (σ : S5) (h : NKs σ) : Kd NKs (f_X5_readApplication_b49 E  σ) := by
  unfold f_X5_readApplication_b49
  repeat' first
    | assumption
    | with_reducible exact kd_none
    | with_reducible apply kd_some
    | with_reducible apply kd_ite
    | with_reducible apply kd_bd
    | with_reducible apply knk_f_X5_atomStands
    | with_reducible apply knk_f_X5_readAtom E hE
    | with_reducible apply knk_f_X5_readApplication_L67 E hE
    | with_reducible apply hE
    | intro _ _ _
theorem knk_f_X5_readApplication (E : S5 → Option (Int32 × S5)) (hE : ∀  σ, NKs σ → Kd NKs (E  σ)) (σ : S5) (h : NKs σ) : Kd NKs (f_X5_readApplication E  σ) := by
  unfold f_X5_readApplication
  repeat' first
    | assumption
    | with_reducible exact kd_none
    | with_reducible apply kd_some
    | with_reducible apply kd_ite
    | with_reducible apply kd_gd
    | with_reducible apply kd_bd
    | with_reducible apply knk_f_X4_constructorOf
    | with_reducible apply knk_f_X5_readBuild E hE
    | with_reducible apply knk_f_X5_readApplication_b49 E hE
    | with_reducible apply hE
    | intro _ _ _
theorem knk_f_X5_readProduct_b50 (E : S5 → Option (Int32 × S5)) (hE : ∀  σ, NKs σ → Kd NKs (E  σ)) (rec7 : Int32 → Int32 → S5 → Option (Int32 × S5)) (hrec7 : ∀ v0 v1 (σ : S5), NKs σ → Kd NKs (rec7 v0 v1 σ)) (v1 : Int32) (v2 : Int32) (σ : S5) (h : NKs σ) : Kd NKs (f_X5_readProduct_b50 E rec7 v1 v2 σ) := by
  unfold f_X5_readProduct_b50
  repeat' first
    | assumption
    | with_reducible exact kd_none
    | with_reducible apply kd_some
    | with_reducible apply kd_ite
    | with_reducible apply kd_bd
    | with_reducible apply knk_f_X5_readSign
    | with_reducible apply knk_f_X5_join
    | with_reducible apply knk_f_X5_readApplication E hE
    | with_reducible apply hE
    | with_reducible apply hrec7
    | intro _ _ _
theorem knk_f_X5_readProduct_B7 (E : S5 → Option (Int32 × S5)) (hE : ∀  σ, NKs σ → Kd NKs (E  σ)) (rec7 : Int32 → Int32 → S5 → Option (Int32 × S5)) (hrec7 : ∀ v0 v1 (σ : S5), NKs σ → Kd NKs (rec7 v0 v1 σ)) (v1 : Int32) (v2 : Int32) (σ : S5) (h : NKs σ) : Kd NKs (f_X5_readProduct_B7 E rec7 v1 v2 σ) := by
  unfold f_X5_readProduct_B7
  repeat' first
    | assumption
    | with_reducible exact kd_none
    | with_reducible apply kd_some
    | with_reducible apply kd_ite
    | with_reducible apply kd_bd
    | with_reducible apply knk_f_X5_readProduct_b50 E hE
    | with_reducible apply hE
    | with_reducible apply hrec7
    | intro _ _ _
theorem knk_f_X5_readProduct_L7 (E : S5 → Option (Int32 × S5)) (hE : ∀  σ, NKs σ → Kd NKs (E  σ)) : ∀ (n : Nat) v0 v1 (σ : S5), NKs σ → Kd NKs (f_X5_readProduct_L7 E n v0 v1 σ)
  | 0, _, _, _, _ => kd_none
  | n + 1, v0, v1, σ, h => by
    unfold f_X5_readProduct_L7
    exact knk_f_X5_readProduct_B7 E hE _ (knk_f_X5_readProduct_L7 E hE n) v0 v1 σ h
theorem knk_f_X5_readProduct (E : S5 → Option (Int32 × S5)) (hE : ∀  σ, NKs σ → Kd NKs (E  σ)) (σ : S5) (h : NKs σ) : Kd NKs (f_X5_readProduct E  σ) := by
  unfold f_X5_readProduct
  repeat' first
    | assumption
    | with_reducible exact kd_none
    | with_reducible apply kd_some
    | with_reducible apply kd_ite
    | with_reducible apply kd_bd
    | with_reducible apply knk_f_X5_readApplication E hE
    | with_reducible apply knk_f_X5_readProduct_L7 E hE
    | with_reducible apply hE
    | intro _ _ _
theorem knk_f_X5_readSum_b38 (E : S5 → Option (Int32 × S5)) (hE : ∀  σ, NKs σ → Kd NKs (E  σ)) (rec7 : Int32 → Int32 → S5 → Option (Int32 × S5)) (hrec7 : ∀ v0 v1 (σ : S5), NKs σ → Kd NKs (rec7 v0 v1 σ)) (v1 : Int32) (v2 : Int32) (σ : S5) (h : NKs σ) : Kd NKs (f_X5_readSum_b38 E rec7 v1 v2 σ) := by
  unfold f_X5_readSum_b38
  repeat' first
    | assumption
    | with_reducible exact kd_none
    | with_reducible apply kd_some
    | with_reducible apply kd_ite
    | with_reducible apply kd_bd
    | with_reducible apply knk_f_X5_readSign
    | with_reducible apply knk_f_X5_join
    | with_reducible apply knk_f_X5_readProduct E hE
    | with_reducible apply hE
    | with_reducible apply hrec7
    | intro _ _ _
theorem knk_f_X5_readSum_B7 (E : S5 → Option (Int32 × S5)) (hE : ∀  σ, NKs σ → Kd NKs (E  σ)) (rec7 : Int32 → Int32 → S5 → Option (Int32 × S5)) (hrec7 : ∀ v0 v1 (σ : S5), NKs σ → Kd NKs (rec7 v0 v1 σ)) (v1 : Int32) (v2 : Int32) (σ : S5) (h : NKs σ) : Kd NKs (f_X5_readSum_B7 E rec7 v1 v2 σ) := by
  unfold f_X5_readSum_B7
  repeat' first
    | assumption
    | with_reducible exact kd_none
    | with_reducible apply kd_some
    | with_reducible apply kd_ite
    | with_reducible apply kd_bd
    | with_reducible apply knk_f_X5_readSum_b38 E hE
    | with_reducible apply hE
    | with_reducible apply hrec7
    | intro _ _ _
theorem knk_f_X5_readSum_L7 (E : S5 → Option (Int32 × S5)) (hE : ∀  σ, NKs σ → Kd NKs (E  σ)) : ∀ (n : Nat) v0 v1 (σ : S5), NKs σ → Kd NKs (f_X5_readSum_L7 E n v0 v1 σ)
  | 0, _, _, _, _ => kd_none
  | n + 1, v0, v1, σ, h => by
    unfold f_X5_readSum_L7
    exact knk_f_X5_readSum_B7 E hE _ (knk_f_X5_readSum_L7 E hE n) v0 v1 σ h
theorem knk_f_X5_readSum (E : S5 → Option (Int32 × S5)) (hE : ∀  σ, NKs σ → Kd NKs (E  σ)) (σ : S5) (h : NKs σ) : Kd NKs (f_X5_readSum E  σ) := by
  unfold f_X5_readSum
  repeat' first
    | assumption
    | with_reducible exact kd_none
    | with_reducible apply kd_some
    | with_reducible apply kd_ite
    | with_reducible apply kd_bd
    | with_reducible apply knk_f_X5_readProduct E hE
    | with_reducible apply knk_f_X5_readSum_L7 E hE
    | with_reducible apply hE
    | intro _ _ _
theorem knk_f_X5_readComparison_b43 (E : S5 → Option (Int32 × S5)) (hE : ∀  σ, NKs σ → Kd NKs (E  σ)) (v1 : Int32) (σ : S5) (h : NKs σ) : Kd NKs (f_X5_readComparison_b43 E v1 σ) := by
  unfold f_X5_readComparison_b43
  repeat' first
    | assumption
    | with_reducible exact kd_none
    | with_reducible apply kd_some
    | with_reducible apply kd_ite
    | with_reducible apply kd_bd
    | with_reducible apply knk_f_X5_readSign
    | with_reducible apply knk_f_X5_join
    | with_reducible apply knk_f_X5_readSum E hE
    | with_reducible apply hE
    | intro _ _ _
theorem knk_f_X5_readComparison (E : S5 → Option (Int32 × S5)) (hE : ∀  σ, NKs σ → Kd NKs (E  σ)) (σ : S5) (h : NKs σ) : Kd NKs (f_X5_readComparison E  σ) := by
  unfold f_X5_readComparison
  repeat' first
    | assumption
    | with_reducible exact kd_none
    | with_reducible apply kd_some
    | with_reducible apply kd_ite
    | with_reducible apply kd_bd
    | with_reducible apply knk_f_X5_readSum E hE
    | with_reducible apply knk_f_X5_readComparison_b43 E hE
    | with_reducible apply hE
    | intro _ _ _
theorem knk_f_X5_readWithin (E : S5 → Option (Int32 × S5)) (hE : ∀  σ, NKs σ → Kd NKs (E  σ)) (a1 : Int32) (σ : S5) (h : NKs σ) : Kd NKs (f_X5_readWithin E a1 σ) := by
  unfold f_X5_readWithin
  repeat' first
    | assumption
    | with_reducible exact kd_none
    | with_reducible apply kd_some
    | with_reducible apply kd_ite
    | with_reducible apply kd_bd
    | with_reducible apply NKs_pI _ _ _ (by decide)
    | with_reducible apply hE
    | intro _ _ _
theorem knk_f_X5_readLifted_b66 (E : S5 → Option (Int32 × S5)) (hE : ∀  σ, NKs σ → Kd NKs (E  σ)) (v3 : Int32) (u0 : Int32) (σ : S5) (h : NKs σ) : Kd NKs (f_X5_readLifted_b66 E v3 u0 σ) := by
  unfold f_X5_readLifted_b66
  repeat' first
    | assumption
    | with_reducible exact kd_none
    | with_reducible apply kd_some
    | with_reducible apply kd_ite
    | with_reducible apply kd_gd
    | with_reducible apply kd_bd
    | with_reducible apply NKs_pA
    | with_reducible apply knk_f_X9_addLeaf
    | with_reducible apply knk_f_X5_expect
    | with_reducible apply knk_f_X5_readWithin E hE
    | with_reducible apply hE
    | intro _ _ _
theorem knk_f_X5_readLifted_b49 (E : S5 → Option (Int32 × S5)) (hE : ∀  σ, NKs σ → Kd NKs (E  σ)) (v2 : Int32) (v3 : Int32) (σ : S5) (h : NKs σ) : Kd NKs (f_X5_readLifted_b49 E v2 v3 σ) := by
  unfold f_X5_readLifted_b49
  repeat' first
    | assumption
    | with_reducible exact kd_none
    | with_reducible apply kd_some
    | with_reducible apply kd_ite
    | with_reducible apply kd_bd
    | with_reducible apply knk_f_X5_readParameters
    | with_reducible apply knk_f_X5_readLifted_b66 E hE
    | with_reducible apply hE
    | intro _ _ _
theorem knk_f_X5_readLifted_b17 (E : S5 → Option (Int32 × S5)) (hE : ∀  σ, NKs σ → Kd NKs (E  σ)) (v1 : Int32) (u0 : Int32) (σ : S5) (h : NKs σ) : Kd NKs (f_X5_readLifted_b17 E v1 u0 σ) := by
  unfold f_X5_readLifted_b17
  repeat' first
    | assumption
    | with_reducible exact kd_none
    | with_reducible apply kd_some
    | with_reducible apply kd_ite
    | with_reducible apply kd_bd
    | with_reducible apply knk_f_X10_advance
    | with_reducible apply knk_f_X6_add
    | with_reducible apply knk_f_X5_declare
    | with_reducible apply knk_f_X5_readLifted_b49 E hE
    | with_reducible apply hE
    | intro _ _ _
theorem knk_f_X5_readLifted (E : S5 → Option (Int32 × S5)) (hE : ∀  σ, NKs σ → Kd NKs (E  σ)) (a1 : Int32) (σ : S5) (h : NKs σ) : Kd NKs (f_X5_readLifted E a1 σ) := by
  unfold f_X5_readLifted
  repeat' first
    | assumption
    | with_reducible exact kd_none
    | with_reducible apply kd_some
    | with_reducible apply kd_ite
    | with_reducible apply kd_bd
    | with_reducible apply knk_f_X5_readLifted_b17 E hE
    | with_reducible apply hE
    | intro _ _ _
theorem knk_f_X5_readBinding_b52 (E : S5 → Option (Int32 × S5)) (hE : ∀  σ, NKs σ → Kd NKs (E  σ)) (v2 : Int32) (v3 : Int32) (σ : S5) (h : NKs σ) : Kd NKs (f_X5_readBinding_b52 E v2 v3 σ) := by
  unfold f_X5_readBinding_b52
  repeat' first
    | assumption
    | with_reducible exact kd_none
    | with_reducible apply kd_some
    | with_reducible apply kd_ite
    | with_reducible apply kd_bd
    | with_reducible apply knk_f_X9_add
    | with_reducible apply hE
    | intro _ _ _
theorem knk_f_X5_readBinding (E : S5 → Option (Int32 × S5)) (hE : ∀  σ, NKs σ → Kd NKs (E  σ)) (σ : S5) (h : NKs σ) : Kd NKs (f_X5_readBinding E  σ) := by
  unfold f_X5_readBinding
  repeat' first
    | assumption
    | with_reducible exact kd_none
    | with_reducible apply kd_some
    | with_reducible apply kd_ite
    | with_reducible apply kd_bd
    | with_reducible apply knk_f_X5_expect
    | with_reducible apply knk_f_X5_countPart
    | with_reducible apply knk_f_X5_declare
    | with_reducible apply knk_f_X5_readLifted E hE
    | with_reducible apply knk_f_X5_readBinding_b52 E hE
    | with_reducible apply hE
    | intro _ _ _
theorem knk_f_X5_readLet_b114 (E : S5 → Option (Int32 × S5)) (hE : ∀  σ, NKs σ → Kd NKs (E  σ)) (v1 : Int32) (v2 : Int32) (v3 : Int32) (σ : S5) (h : NKs σ) : Kd NKs (f_X5_readLet_b114 E v1 v2 v3 σ) := by
  unfold f_X5_readLet_b114
  repeat' first
    | assumption
    | with_reducible exact kd_none
    | with_reducible apply kd_some
    | with_reducible apply kd_ite
    | with_reducible apply kd_gd
    | with_reducible apply kd_bd
    | with_reducible apply NKs_pI _ _ _ (by decide)
    | with_reducible apply NKs_pA
    | with_reducible apply knk_f_X9_add
    | with_reducible apply knk_f_X5_expect
    | with_reducible apply hE
    | intro _ _ _
theorem knk_f_X5_readLet_B61 (E : S5 → Option (Int32 × S5)) (hE : ∀  σ, NKs σ → Kd NKs (E  σ)) (rec61 : Int32 → Int32 → Int32 → Int32 → Int32 → S5 → Option (Int32 × S5)) (hrec61 : ∀ v0 v1 v2 v3 v4 (σ : S5), NKs σ → Kd NKs (rec61 v0 v1 v2 v3 v4 σ)) (v1 : Int32) (v2 : Int32) (v3 : Int32) (v4 : Int32) (v5 : Int32) (σ : S5) (h : NKs σ) : Kd NKs (f_X5_readLet_B61 E rec61 v1 v2 v3 v4 v5 σ) := by
  unfold f_X5_readLet_B61
  repeat' first
    | assumption
    | with_reducible exact kd_none
    | with_reducible apply kd_some
    | with_reducible apply kd_ite
    | with_reducible apply kd_gd
    | with_reducible apply kd_bd
    | with_reducible apply NKs_pA
    | with_reducible apply knk_f_X10_advance
    | with_reducible apply knk_f_X5_readBinding E hE
    | with_reducible apply knk_f_X5_readLet_b114 E hE
    | with_reducible apply hE
    | with_reducible apply hrec61
    | intro _ _ _
theorem knk_f_X5_readLet_L61 (E : S5 → Option (Int32 × S5)) (hE : ∀  σ, NKs σ → Kd NKs (E  σ)) : ∀ (n : Nat) v0 v1 v2 v3 v4 (σ : S5), NKs σ → Kd NKs (f_X5_readLet_L61 E n v0 v1 v2 v3 v4 σ)
  | 0, _, _, _, _, _, _, _ => kd_none
  | n + 1, v0, v1, v2, v3, v4, σ, h => by
    unfold f_X5_readLet_L61
    exact knk_f_X5_readLet_B61 E hE _ (knk_f_X5_readLet_L61 E hE n) v0 v1 v2 v3 v4 σ h
theorem knk_f_X5_readLet (E : S5 → Option (Int32 × S5)) (hE : ∀  σ, NKs σ → Kd NKs (E  σ)) (σ : S5) (h : NKs σ) : Kd NKs (f_X5_readLet E  σ) := by
  unfold f_X5_readLet
  repeat' first
    | assumption
    | with_reducible exact kd_none
    | with_reducible apply kd_some
    | with_reducible apply kd_ite
    | with_reducible apply kd_bd
    | with_reducible apply NKs_pI _ _ _ (by decide)
    | with_reducible apply knk_f_X10_advance
    | with_reducible apply knk_f_X6_add
    | with_reducible apply knk_f_X5_countPart
    | with_reducible apply knk_f_X5_opens
    | with_reducible apply knk_f_X5_readBinding E hE
    | with_reducible apply knk_f_X5_readLet_L61 E hE
    | with_reducible apply hE
    | intro _ _ _
theorem knk_f_X5_readLambda (E : S5 → Option (Int32 × S5)) (hE : ∀  σ, NKs σ → Kd NKs (E  σ)) (σ : S5) (h : NKs σ) : Kd NKs (f_X5_readLambda E  σ) := by
  unfold f_X5_readLambda
  repeat' first
    | assumption
    | with_reducible exact kd_none
    | with_reducible apply kd_some
    | with_reducible apply kd_ite
    | with_reducible apply kd_bd
    | with_reducible apply NKs_pI _ _ _ (by decide)
    | with_reducible apply knk_f_X5_countPart
    | with_reducible apply knk_f_X5_opens
    | with_reducible apply knk_f_X5_readLifted E hE
    | with_reducible apply hE
    | intro _ _ _
theorem knk_f_X5_readAlternative_b214 (E : S5 → Option (Int32 × S5)) (hE : ∀  σ, NKs σ → Kd NKs (E  σ)) (v4 : Int32) (v6 : Int32) (u0 : Int32) (σ : S5) (h : NKs σ) : Kd NKs (f_X5_readAlternative_b214 E v4 v6 u0 σ) := by
  unfold f_X5_readAlternative_b214
  repeat' first
    | assumption
    | with_reducible exact kd_none
    | with_reducible apply kd_some
    | with_reducible apply kd_ite
    | with_reducible apply kd_bd
    | with_reducible apply knk_f_X9_add
    | with_reducible apply hE
    | intro _ _ _
theorem knk_f_X5_readAlternative_b163 (E : S5 → Option (Int32 × S5)) (hE : ∀  σ, NKs σ → Kd NKs (E  σ)) (v2 : Int32) (v3 : Int32) (v4 : Int32) (v5 : Int32) (σ : S5) (h : NKs σ) : Kd NKs (f_X5_readAlternative_b163 E v2 v3 v4 v5 σ) := by
  unfold f_X5_readAlternative_b163
  repeat' first
    | assumption
    | with_reducible exact kd_none
    | with_reducible apply kd_some
    | with_reducible apply kd_ite
    | with_reducible apply kd_bd
    | with_reducible apply knk_f_X9_add
    | with_reducible apply knk_f_X5_expect
    | with_reducible apply knk_f_X5_readWithin E hE
    | with_reducible apply knk_f_X5_readAlternative_b214 E hE
    | with_reducible apply hE
    | intro _ _ _
theorem knk_f_X5_readAlternative_B136 (E : S5 → Option (Int32 × S5)) (hE : ∀  σ, NKs σ → Kd NKs (E  σ)) (rec136 : Int32 → Int32 → Int32 → Int32 → Int32 → S5 → Option (Int32 × S5)) (hrec136 : ∀ v0 v1 v2 v3 v4 (σ : S5), NKs σ → Kd NKs (rec136 v0 v1 v2 v3 v4 σ)) (v2 : Int32) (v3 : Int32) (v4 : Int32) (v5 : Int32) (v6 : Int32) (σ : S5) (h : NKs σ) : Kd NKs (f_X5_readAlternative_B136 E rec136 v2 v3 v4 v5 v6 σ) := by
  unfold f_X5_readAlternative_B136
  repeat' first
    | assumption
    | with_reducible exact kd_none
    | with_reducible apply kd_some
    | with_reducible apply kd_ite
    | with_reducible apply kd_gd
    | with_reducible apply kd_bd
    | with_reducible apply knk_f_X5_declare
    | with_reducible apply knk_f_X5_readAlternative_b163 E hE
    | with_reducible apply hE
    | with_reducible apply hrec136
    | intro _ _ _
theorem knk_f_X5_readAlternative_L136 (E : S5 → Option (Int32 × S5)) (hE : ∀  σ, NKs σ → Kd NKs (E  σ)) : ∀ (n : Nat) v0 v1 v2 v3 v4 (σ : S5), NKs σ → Kd NKs (f_X5_readAlternative_L136 E n v0 v1 v2 v3 v4 σ)
  | 0, _, _, _, _, _, _, _ => kd_none
  | n + 1, v0, v1, v2, v3, v4, σ, h => by
    unfold f_X5_readAlternative_L136
    exact knk_f_X5_readAlternative_B136 E hE _ (knk_f_X5_readAlternative_L136 E hE n) v0 v1 v2 v3 v4 σ h
theorem knk_f_X5_readAlternative_b85 (E : S5 → Option (Int32 × S5)) (hE : ∀  σ, NKs σ → Kd NKs (E  σ)) (v2 : Int32) (v3 : Int32) (σ : S5) (h : NKs σ) : Kd NKs (f_X5_readAlternative_b85 E v2 v3 σ) := by
  unfold f_X5_readAlternative_b85
  repeat' first
    | assumption
    | with_reducible exact kd_none
    | with_reducible apply kd_some
    | with_reducible apply kd_ite
    | with_reducible apply kd_bd
    | with_reducible apply knk_f_X10_advance
    | with_reducible apply knk_f_X6_add
    | with_reducible apply knk_f_X5_readAlternative_b163 E hE
    | with_reducible apply knk_f_X5_readAlternative_L136 E hE
    | with_reducible apply hE
    | intro _ _ _
theorem knk_f_X5_readAlternative_b74 (E : S5 → Option (Int32 × S5)) (hE : ∀  σ, NKs σ → Kd NKs (E  σ)) (v1 : Int32) (v2 : Int32) (v3 : Int32) (σ : S5) (h : NKs σ) : Kd NKs (f_X5_readAlternative_b74 E v1 v2 v3 σ) := by
  unfold f_X5_readAlternative_b74
  repeat' first
    | assumption
    | with_reducible exact kd_none
    | with_reducible apply kd_some
    | with_reducible apply kd_ite
    | with_reducible apply kd_bd
    | with_reducible apply knk_f_X5_refuse
    | with_reducible apply knk_f_X5_readAlternative_b85 E hE
    | with_reducible apply hE
    | intro _ _ _
theorem knk_f_X5_readAlternative_b56 (E : S5 → Option (Int32 × S5)) (hE : ∀  σ, NKs σ → Kd NKs (E  σ)) (v1 : Int32) (v2 : Int32) (v3 : Int32) (σ : S5) (h : NKs σ) : Kd NKs (f_X5_readAlternative_b56 E v1 v2 v3 σ) := by
  unfold f_X5_readAlternative_b56
  repeat' first
    | assumption
    | with_reducible exact kd_none
    | with_reducible apply kd_some
    | with_reducible apply kd_ite
    | with_reducible apply kd_bd
    | with_reducible apply knk_f_X5_refuse
    | with_reducible apply knk_f_X5_readAlternative_b85 E hE
    | with_reducible apply knk_f_X5_readAlternative_b74 E hE
    | with_reducible apply hE
    | intro _ _ _
theorem knk_f_X5_readAlternative_b31 (E : S5 → Option (Int32 × S5)) (hE : ∀  σ, NKs σ → Kd NKs (E  σ)) (v1 : Int32) (v2 : Int32) (u0 : Int32) (σ : S5) (h : NKs σ) : Kd NKs (f_X5_readAlternative_b31 E v1 v2 u0 σ) := by
  unfold f_X5_readAlternative_b31
  repeat' first
    | assumption
    | with_reducible exact kd_none
    | with_reducible apply kd_some
    | with_reducible apply kd_ite
    | with_reducible apply kd_bd
    | with_reducible apply knk_f_X5_refuse
    | with_reducible apply knk_f_X5_readAlternative_b85 E hE
    | with_reducible apply knk_f_X5_readAlternative_b56 E hE
    | with_reducible apply hE
    | intro _ _ _
theorem knk_f_X5_readAlternative (E : S5 → Option (Int32 × S5)) (hE : ∀  σ, NKs σ → Kd NKs (E  σ)) (a1 : Int32) (σ : S5) (h : NKs σ) : Kd NKs (f_X5_readAlternative E a1 σ) := by
  unfold f_X5_readAlternative
  repeat' first
    | assumption
    | with_reducible exact kd_none
    | with_reducible apply kd_some
    | with_reducible apply kd_ite
    | with_reducible apply kd_bd
    | with_reducible apply knk_f_X4_constructorOf
    | with_reducible apply knk_f_X5_readAlternative_b31 E hE
    | with_reducible apply hE
    | intro _ _ _
theorem knk_f_X5_readCase_b107 (E : S5 → Option (Int32 × S5)) (hE : ∀  σ, NKs σ → Kd NKs (E  σ)) (v1 : Int32) (σ : S5) (h : NKs σ) : Kd NKs (f_X5_readCase_b107 E v1 σ) := by
  unfold f_X5_readCase_b107
  repeat' first
    | assumption
    | with_reducible exact kd_none
    | with_reducible apply kd_some
    | with_reducible apply kd_ite
    | with_reducible apply kd_bd
    | with_reducible apply NKs_pI _ _ _ (by decide)
    | with_reducible apply knk_f_X9_add
    | with_reducible apply knk_f_X5_expect
    | with_reducible apply hE
    | intro _ _ _
theorem knk_f_X5_readCase_B55 (E : S5 → Option (Int32 × S5)) (hE : ∀  σ, NKs σ → Kd NKs (E  σ)) (rec55 : Int32 → Int32 → Int32 → S5 → Option (Int32 × S5)) (hrec55 : ∀ v0 v1 v2 (σ : S5), NKs σ → Kd NKs (rec55 v0 v1 v2 σ)) (v1 : Int32) (v2 : Int32) (v3 : Int32) (σ : S5) (h : NKs σ) : Kd NKs (f_X5_readCase_B55 E rec55 v1 v2 v3 σ) := by
  unfold f_X5_readCase_B55
  repeat' first
    | assumption
    | with_reducible exact kd_none
    | with_reducible apply kd_some
    | with_reducible apply kd_ite
    | with_reducible apply kd_gd
    | with_reducible apply kd_bd
    | with_reducible apply NKs_pA
    | with_reducible apply knk_f_X10_advance
    | with_reducible apply knk_f_X5_readAlternative E hE
    | with_reducible apply knk_f_X5_readCase_b107 E hE
    | with_reducible apply hE
    | with_reducible apply hrec55
    | intro _ _ _
theorem knk_f_X5_readCase_L55 (E : S5 → Option (Int32 × S5)) (hE : ∀  σ, NKs σ → Kd NKs (E  σ)) : ∀ (n : Nat) v0 v1 v2 (σ : S5), NKs σ → Kd NKs (f_X5_readCase_L55 E n v0 v1 v2 σ)
  | 0, _, _, _, _, _ => kd_none
  | n + 1, v0, v1, v2, σ, h => by
    unfold f_X5_readCase_L55
    exact knk_f_X5_readCase_B55 E hE _ (knk_f_X5_readCase_L55 E hE n) v0 v1 v2 σ h
theorem knk_f_X5_readCase (E : S5 → Option (Int32 × S5)) (hE : ∀  σ, NKs σ → Kd NKs (E  σ)) (σ : S5) (h : NKs σ) : Kd NKs (f_X5_readCase E  σ) := by
  unfold f_X5_readCase
  repeat' first
    | assumption
    | with_reducible exact kd_none
    | with_reducible apply kd_some
    | with_reducible apply kd_ite
    | with_reducible apply kd_gd
    | with_reducible apply kd_bd
    | with_reducible apply NKs_pA
    | with_reducible apply knk_f_X10_advance
    | with_reducible apply knk_f_X5_expect
    | with_reducible apply knk_f_X5_countPart
    | with_reducible apply knk_f_X5_opens
    | with_reducible apply knk_f_X5_readAlternative E hE
    | with_reducible apply knk_f_X5_readCase_L55 E hE
    | with_reducible apply hE
    | intro _ _ _
theorem knk_f_X5_readExpression (E : S5 → Option (Int32 × S5)) (hE : ∀  σ, NKs σ → Kd NKs (E  σ)) (σ : S5) (h : NKs σ) : Kd NKs (f_X5_readExpression E  σ) := by
  unfold f_X5_readExpression
  repeat' first
    | assumption
    | with_reducible exact kd_none
    | with_reducible apply kd_some
    | with_reducible apply kd_ite
    | with_reducible apply kd_bd
    | with_reducible apply knk_f_X5_readComparison E hE
    | with_reducible apply knk_f_X5_readLet E hE
    | with_reducible apply knk_f_X5_readLambda E hE
    | with_reducible apply knk_f_X5_readCase E hE
    | with_reducible apply hE
    | intro _ _ _
theorem knk_f_X5_readFunction_b62 (E : S5 → Option (Int32 × S5)) (hE : ∀  σ, NKs σ → Kd NKs (E  σ)) (σ : S5) (h : NKs σ) : Kd NKs (f_X5_readFunction_b62 E  σ) := by
  unfold f_X5_readFunction_b62
  repeat' first
    | assumption
    | with_reducible exact kd_none
    | with_reducible apply kd_some
    | with_reducible apply kd_ite
    | with_reducible apply kd_gd
    | with_reducible apply kd_bd
    | with_reducible apply NKs_pA
    | with_reducible apply knk_f_X10_advance
    | with_reducible apply knk_f_X4_addTop
    | with_reducible apply knk_f_X6_add
    | with_reducible apply knk_f_X5_expect
    | with_reducible apply knk_f_X5_readParameters
    | with_reducible apply knk_f_X5_readWithin E hE
    | with_reducible apply hE
    | intro _ _ _
theorem knk_f_X5_readFunction (E : S5 → Option (Int32 × S5)) (hE : ∀  σ, NKs σ → Kd NKs (E  σ)) (σ : S5) (h : NKs σ) : Kd NKs (f_X5_readFunction E  σ) := by
  unfold f_X5_readFunction
  repeat' first
    | assumption
    | with_reducible exact kd_none
    | with_reducible apply kd_some
    | with_reducible apply kd_ite
    | with_reducible apply kd_bd
    | with_reducible apply knk_f_X4_topOf
    | with_reducible apply knk_f_X5_refuse
    | with_reducible apply knk_f_X5_readFunction_b62 E hE
    | with_reducible apply hE
    | intro _ _ _
theorem knk_f_X5_readText_B90 (E : S5 → Option (Int32 × S5)) (hE : ∀  σ, NKs σ → Kd NKs (E  σ)) (rec90 : Int32 → S5 → Option (Unit × S5)) (hrec90 : ∀ v0 (σ : S5), NKs σ → Kd NKs (rec90 v0 σ)) (v1 : Int32) (σ : S5) (h : NKs σ) : Kd NKs (f_X5_readText_B90 E rec90 v1 σ) := by
  unfold f_X5_readText_B90
  repeat' first
    | assumption
    | with_reducible exact kd_none
    | with_reducible apply kd_some
    | with_reducible apply kd_ite
    | with_reducible apply kd_bd
    | with_reducible apply knk_f_X5_readFunction E hE
    | with_reducible apply hE
    | with_reducible apply hrec90
    | intro _ _ _
theorem knk_f_X5_readText_L90 (E : S5 → Option (Int32 × S5)) (hE : ∀  σ, NKs σ → Kd NKs (E  σ)) : ∀ (n : Nat) v0 (σ : S5), NKs σ → Kd NKs (f_X5_readText_L90 E n v0 σ)
  | 0, _, _, _ => kd_none
  | n + 1, v0, σ, h => by
    unfold f_X5_readText_L90
    exact knk_f_X5_readText_B90 E hE _ (knk_f_X5_readText_L90 E hE n) v0 σ h
theorem knk_f_X5_readText_b84 (E : S5 → Option (Int32 × S5)) (hE : ∀  σ, NKs σ → Kd NKs (E  σ)) (σ : S5) (h : NKs σ) : Kd NKs (f_X5_readText_b84 E  σ) := by
  unfold f_X5_readText_b84
  repeat' first
    | assumption
    | with_reducible exact kd_none
    | with_reducible apply kd_some
    | with_reducible apply kd_ite
    | with_reducible apply kd_bd
    | with_reducible apply knk_f_X5_readFunction E hE
    | with_reducible apply knk_f_X5_readText_L90 E hE
    | with_reducible apply hE
    | intro _ _ _
theorem knk_f_X5_readText_B55 (E : S5 → Option (Int32 × S5)) (hE : ∀  σ, NKs σ → Kd NKs (E  σ)) (rec55 : Int32 → S5 → Option (Unit × S5)) (hrec55 : ∀ v0 (σ : S5), NKs σ → Kd NKs (rec55 v0 σ)) (v1 : Int32) (σ : S5) (h : NKs σ) : Kd NKs (f_X5_readText_B55 E rec55 v1 σ) := by
  unfold f_X5_readText_B55
  repeat' first
    | assumption
    | with_reducible exact kd_none
    | with_reducible apply kd_some
    | with_reducible apply kd_ite
    | with_reducible apply kd_bd
    | with_reducible apply knk_f_X5_readData
    | with_reducible apply knk_f_X5_readText_b84 E hE
    | with_reducible apply hE
    | with_reducible apply hrec55
    | intro _ _ _
theorem knk_f_X5_readText_L55 (E : S5 → Option (Int32 × S5)) (hE : ∀  σ, NKs σ → Kd NKs (E  σ)) : ∀ (n : Nat) v0 (σ : S5), NKs σ → Kd NKs (f_X5_readText_L55 E n v0 σ)
  | 0, _, _, _ => kd_none
  | n + 1, v0, σ, h => by
    unfold f_X5_readText_L55
    exact knk_f_X5_readText_B55 E hE _ (knk_f_X5_readText_L55 E hE n) v0 σ h
theorem knk_f_X5_readText (E : S5 → Option (Int32 × S5)) (hE : ∀  σ, NKs σ → Kd NKs (E  σ)) (σ : S5) (h : NKs σ) : Kd NKs (f_X5_readText E  σ) := by
  unfold f_X5_readText
  repeat' first
    | assumption
    | with_reducible exact kd_none
    | with_reducible apply kd_some
    | with_reducible apply kd_ite
    | with_reducible apply kd_bd
    | with_reducible apply NKs_pI _ _ _ (by decide)
    | with_reducible apply knk_f_X10_begin
    | with_reducible apply knk_f_X9_clear
    | with_reducible apply knk_f_X4_clear
    | with_reducible apply knk_f_X6_clear
    | with_reducible apply knk_f_X5_readText_L55 E hE
    | with_reducible apply hE
    | intro _ _ _
theorem knk_f_X2_refuse (a1 : Int32) (a2 : Int32) (σ : S5) (h : NKs σ) : Kd NKs (f_X2_refuse a1 a2 σ) := by
  unfold f_X2_refuse
  repeat' first
    | assumption
    | with_reducible exact kd_none
    | with_reducible apply kd_some
    | with_reducible apply kd_ite
    | with_reducible apply kd_bd
    | with_reducible apply NKs_pI _ _ _ (by decide)
    | intro _ _ _
theorem knk_f_X2_freeIndex_B2 (rec2 : Int32 → Int32 → Int32 → S5 → Option (Int32 × S5)) (hrec2 : ∀ v0 v1 v2 (σ : S5), NKs σ → Kd NKs (rec2 v0 v1 v2 σ)) (v1 : Int32) (v2 : Int32) (v3 : Int32) (σ : S5) (h : NKs σ) : Kd NKs (f_X2_freeIndex_B2 rec2 v1 v2 v3 σ) := by
  unfold f_X2_freeIndex_B2
  repeat' first
    | assumption
    | with_reducible exact kd_none
    | with_reducible apply kd_some
    | with_reducible apply kd_ite
    | with_reducible apply kd_gd
    | with_reducible apply kd_bd
    | with_reducible apply hrec2
    | intro _ _ _
theorem knk_f_X2_freeIndex_L2 : ∀ (n : Nat) v0 v1 v2 (σ : S5), NKs σ → Kd NKs (f_X2_freeIndex_L2 n v0 v1 v2 σ)
  | 0, _, _, _, _, _ => kd_none
  | n + 1, v0, v1, v2, σ, h => by
    unfold f_X2_freeIndex_L2
    exact knk_f_X2_freeIndex_B2 _ (knk_f_X2_freeIndex_L2 n) v0 v1 v2 σ h
theorem knk_f_X2_freeIndex (a1 : Int32) (a2 : Int32) (σ : S5) (h : NKs σ) : Kd NKs (f_X2_freeIndex a1 a2 σ) := by
  unfold f_X2_freeIndex
  repeat' first
    | assumption
    | with_reducible exact kd_none
    | with_reducible apply kd_some
    | with_reducible apply kd_ite
    | with_reducible apply kd_bd
    | with_reducible apply knk_f_X2_freeIndex_L2
    | intro _ _ _
theorem knk_f_X2_addFree_b48 (v1 : Int32) (σ : S5) (h : NKs σ) : Kd NKs (f_X2_addFree_b48 v1 σ) := by
  unfold f_X2_addFree_b48
  repeat' first
    | assumption
    | with_reducible exact kd_none
    | with_reducible apply kd_some
    | with_reducible apply kd_ite
    | with_reducible apply kd_gd
    | with_reducible apply kd_bd
    | with_reducible apply NKs_pA
    | intro _ _ _
theorem knk_f_X2_addFree (a1 : Int32) (a2 : Int32) (σ : S5) (h : NKs σ) : Kd NKs (f_X2_addFree a1 a2 σ) := by
  unfold f_X2_addFree
  repeat' first
    | assumption
    | with_reducible exact kd_none
    | with_reducible apply kd_some
    | with_reducible apply kd_ite
    | with_reducible apply kd_gd
    | with_reducible apply kd_bd
    | with_reducible apply NKs_pA
    | with_reducible apply knk_f_X2_freeIndex
    | with_reducible apply knk_f_X2_addFree_b48
    | intro _ _ _
theorem knk_f_X2_passThrough_B18 (rec18 : Int32 → Int32 → Int32 → Int32 → S5 → Option (Unit × S5)) (hrec18 : ∀ v0 v1 v2 v3 (σ : S5), NKs σ → Kd NKs (rec18 v0 v1 v2 v3 σ)) (v1 : Int32) (v3 : Int32) (v4 : Int32) (v5 : Int32) (σ : S5) (h : NKs σ) : Kd NKs (f_X2_passThrough_B18 rec18 v1 v3 v4 v5 σ) := by
  unfold f_X2_passThrough_B18
  repeat' first
    | assumption
    | with_reducible exact kd_none
    | with_reducible apply kd_some
    | with_reducible apply kd_ite
    | with_reducible apply kd_gd
    | with_reducible apply kd_bd
    | with_reducible apply knk_f_X2_addFree
    | with_reducible apply hrec18
    | intro _ _ _
theorem knk_f_X2_passThrough_L18 : ∀ (n : Nat) v0 v1 v2 v3 (σ : S5), NKs σ → Kd NKs (f_X2_passThrough_L18 n v0 v1 v2 v3 σ)
  | 0, _, _, _, _, _, _ => kd_none
  | n + 1, v0, v1, v2, v3, σ, h => by
    unfold f_X2_passThrough_L18
    exact knk_f_X2_passThrough_B18 _ (knk_f_X2_passThrough_L18 n) v0 v1 v2 v3 σ h
theorem knk_f_X2_passThrough (a1 : Int32) (a2 : Int32) (σ : S5) (h : NKs σ) : Kd NKs (f_X2_passThrough a1 a2 σ) := by
  unfold f_X2_passThrough
  repeat' first
    | assumption
    | with_reducible exact kd_none
    | with_reducible apply kd_some
    | with_reducible apply kd_ite
    | with_reducible apply kd_gd
    | with_reducible apply kd_bd
    | with_reducible apply knk_f_X2_passThrough_L18
    | intro _ _ _
theorem knk_f_X2_findFree_b49 (rec2 : Int32 → S5 → Option (Unit × S5)) (hrec2 : ∀ v0 (σ : S5), NKs σ → Kd NKs (rec2 v0 σ)) (v1 : Int32) (σ : S5) (h : NKs σ) : Kd NKs (f_X2_findFree_b49 rec2 v1 σ) := by
  unfold f_X2_findFree_b49
  repeat' first
    | assumption
    | with_reducible exact kd_none
    | with_reducible apply kd_some
    | with_reducible apply kd_ite
    | with_reducible apply kd_bd
    | with_reducible apply hrec2
    | intro _ _ _
theorem knk_f_X2_findFree_B2 (rec2 : Int32 → S5 → Option (Unit × S5)) (hrec2 : ∀ v0 (σ : S5), NKs σ → Kd NKs (rec2 v0 σ)) (v1 : Int32) (σ : S5) (h : NKs σ) : Kd NKs (f_X2_findFree_B2 rec2 v1 σ) := by
  unfold f_X2_findFree_B2
  repeat' first
    | assumption
    | with_reducible exact kd_none
    | with_reducible apply kd_some
    | with_reducible apply kd_ite
    | with_reducible apply kd_gd
    | with_reducible apply kd_bd
    | with_reducible apply knk_f_X2_passThrough
    | with_reducible apply knk_f_X2_findFree_b49
    | with_reducible apply hrec2
    | intro _ _ _
theorem knk_f_X2_findFree_L2 : ∀ (n : Nat) v0 (σ : S5), NKs σ → Kd NKs (f_X2_findFree_L2 n v0 σ)
  | 0, _, _, _ => kd_none
  | n + 1, v0, σ, h => by
    unfold f_X2_findFree_L2
    exact knk_f_X2_findFree_B2 _ (knk_f_X2_findFree_L2 n) v0 σ h
theorem knk_f_X2_findFree  (σ : S5) (h : NKs σ) : Kd NKs (f_X2_findFree  σ) := by
  unfold f_X2_findFree
  repeat' first
    | assumption
    | with_reducible exact kd_none
    | with_reducible apply kd_some
    | with_reducible apply kd_ite
    | with_reducible apply kd_bd
    | with_reducible apply knk_f_X2_findFree_L2
    | intro _ _ _
theorem knk_f_X2_numberFunctions_B99 (rec99 : Int32 → S5 → Option (Unit × S5)) (hrec99 : ∀ v0 (σ : S5), NKs σ → Kd NKs (rec99 v0 σ)) (v1 : Int32) (σ : S5) (h : NKs σ) : Kd NKs (f_X2_numberFunctions_B99 rec99 v1 σ) := by
  unfold f_X2_numberFunctions_B99
  repeat' first
    | assumption
    | with_reducible exact kd_none
    | with_reducible apply kd_some
    | with_reducible apply kd_ite
    | with_reducible apply kd_gd
    | with_reducible apply kd_bd
    | with_reducible apply NKs_pA
    | with_reducible apply hrec99
    | intro _ _ _
theorem knk_f_X2_numberFunctions_L99 : ∀ (n : Nat) v0 (σ : S5), NKs σ → Kd NKs (f_X2_numberFunctions_L99 n v0 σ)
  | 0, _, _, _ => kd_none
  | n + 1, v0, σ, h => by
    unfold f_X2_numberFunctions_L99
    exact knk_f_X2_numberFunctions_B99 _ (knk_f_X2_numberFunctions_L99 n) v0 σ h
theorem knk_f_X2_numberFunctions_b91 (rec39 : Int32 → S5 → Option (Unit × S5)) (hrec39 : ∀ v0 (σ : S5), NKs σ → Kd NKs (rec39 v0 σ)) (v1 : Int32) (σ : S5) (h : NKs σ) : Kd NKs (f_X2_numberFunctions_b91 rec39 v1 σ) := by
  unfold f_X2_numberFunctions_b91
  repeat' first
    | assumption
    | with_reducible exact kd_none
    | with_reducible apply kd_some
    | with_reducible apply kd_ite
    | with_reducible apply kd_bd
    | with_reducible apply hrec39
    | intro _ _ _
theorem knk_f_X2_numberFunctions_B39 (rec39 : Int32 → S5 → Option (Unit × S5)) (hrec39 : ∀ v0 (σ : S5), NKs σ → Kd NKs (rec39 v0 σ)) (v1 : Int32) (σ : S5) (h : NKs σ) : Kd NKs (f_X2_numberFunctions_B39 rec39 v1 σ) := by
  unfold f_X2_numberFunctions_B39
  repeat' first
    | assumption
    | with_reducible exact kd_none
    | with_reducible apply kd_some
    | with_reducible apply kd_ite
    | with_reducible apply kd_gd
    | with_reducible apply kd_bd
    | with_reducible apply NKs_pA
    | with_reducible apply knk_f_X4_addFunction
    | with_reducible apply knk_f_X6_owns
    | with_reducible apply knk_f_X2_numberFunctions_L99
    | with_reducible apply knk_f_X2_numberFunctions_b91
    | with_reducible apply hrec39
    | intro _ _ _
theorem knk_f_X2_numberFunctions_L39 : ∀ (n : Nat) v0 (σ : S5), NKs σ → Kd NKs (f_X2_numberFunctions_L39 n v0 σ)
  | 0, _, _, _ => kd_none
  | n + 1, v0, σ, h => by
    unfold f_X2_numberFunctions_L39
    exact knk_f_X2_numberFunctions_B39 _ (knk_f_X2_numberFunctions_L39 n) v0 σ h
theorem knk_f_X2_numberFunctions_B2 (rec2 : Int32 → S5 → Option (Unit × S5)) (hrec2 : ∀ v0 (σ : S5), NKs σ → Kd NKs (rec2 v0 σ)) (v1 : Int32) (σ : S5) (h : NKs σ) : Kd NKs (f_X2_numberFunctions_B2 rec2 v1 σ) := by
  unfold f_X2_numberFunctions_B2
  repeat' first
    | assumption
    | with_reducible exact kd_none
    | with_reducible apply kd_some
    | with_reducible apply kd_ite
    | with_reducible apply kd_gd
    | with_reducible apply kd_bd
    | with_reducible apply NKs_pA
    | with_reducible apply knk_f_X2_numberFunctions_L39
    | with_reducible apply hrec2
    | intro _ _ _
theorem knk_f_X2_numberFunctions_L2 : ∀ (n : Nat) v0 (σ : S5), NKs σ → Kd NKs (f_X2_numberFunctions_L2 n v0 σ)
  | 0, _, _, _ => kd_none
  | n + 1, v0, σ, h => by
    unfold f_X2_numberFunctions_L2
    exact knk_f_X2_numberFunctions_B2 _ (knk_f_X2_numberFunctions_L2 n) v0 σ h
theorem knk_f_X2_numberFunctions  (σ : S5) (h : NKs σ) : Kd NKs (f_X2_numberFunctions  σ) := by
  unfold f_X2_numberFunctions
  repeat' first
    | assumption
    | with_reducible exact kd_none
    | with_reducible apply kd_some
    | with_reducible apply kd_ite
    | with_reducible apply kd_bd
    | with_reducible apply knk_f_X2_numberFunctions_L2
    | intro _ _ _
theorem knk_f_X2_resolveUses_b85 (rec2 : Int32 → S5 → Option (Unit × S5)) (hrec2 : ∀ v0 (σ : S5), NKs σ → Kd NKs (rec2 v0 σ)) (v1 : Int32) (v2 : Int32) (σ : S5) (h : NKs σ) : Kd NKs (f_X2_resolveUses_b85 rec2 v1 v2 σ) := by
  unfold f_X2_resolveUses_b85
  repeat' first
    | assumption
    | with_reducible exact kd_none
    | with_reducible apply kd_some
    | with_reducible apply kd_ite
    | with_reducible apply kd_gd
    | with_reducible apply kd_bd
    | with_reducible apply NKs_pA
    | with_reducible apply hrec2
    | intro _ _ _
theorem knk_f_X2_resolveUses_b80 (rec2 : Int32 → S5 → Option (Unit × S5)) (hrec2 : ∀ v0 (σ : S5), NKs σ → Kd NKs (rec2 v0 σ)) (v1 : Int32) (v3 : Int32) (σ : S5) (h : NKs σ) : Kd NKs (f_X2_resolveUses_b80 rec2 v1 v3 σ) := by
  unfold f_X2_resolveUses_b80
  repeat' first
    | assumption
    | with_reducible exact kd_none
    | with_reducible apply kd_some
    | with_reducible apply kd_ite
    | with_reducible apply kd_bd
    | with_reducible apply knk_f_X2_resolveUses_b85
    | with_reducible apply hrec2
    | intro _ _ _
theorem knk_f_X2_resolveUses_B2 (rec2 : Int32 → S5 → Option (Unit × S5)) (hrec2 : ∀ v0 (σ : S5), NKs σ → Kd NKs (rec2 v0 σ)) (v1 : Int32) (σ : S5) (h : NKs σ) : Kd NKs (f_X2_resolveUses_B2 rec2 v1 σ) := by
  unfold f_X2_resolveUses_B2
  repeat' first
    | assumption
    | with_reducible exact kd_none
    | with_reducible apply kd_some
    | with_reducible apply kd_ite
    | with_reducible apply kd_gd
    | with_reducible apply kd_bd
    | with_reducible apply knk_f_X4_topOf
    | with_reducible apply knk_f_X6_find
    | with_reducible apply knk_f_X2_refuse
    | with_reducible apply knk_f_X2_resolveUses_b85
    | with_reducible apply knk_f_X2_resolveUses_b80
    | with_reducible apply hrec2
    | intro _ _ _
theorem knk_f_X2_resolveUses_L2 : ∀ (n : Nat) v0 (σ : S5), NKs σ → Kd NKs (f_X2_resolveUses_L2 n v0 σ)
  | 0, _, _, _ => kd_none
  | n + 1, v0, σ, h => by
    unfold f_X2_resolveUses_L2
    exact knk_f_X2_resolveUses_B2 _ (knk_f_X2_resolveUses_L2 n) v0 σ h
theorem knk_f_X2_resolveUses  (σ : S5) (h : NKs σ) : Kd NKs (f_X2_resolveUses  σ) := by
  unfold f_X2_resolveUses
  repeat' first
    | assumption
    | with_reducible exact kd_none
    | with_reducible apply kd_some
    | with_reducible apply kd_ite
    | with_reducible apply kd_bd
    | with_reducible apply knk_f_X2_resolveUses_L2
    | intro _ _ _
theorem knk_f_X2_refuseManyParameters_b80 (rec2 : Int32 → S5 → Option (Unit × S5)) (hrec2 : ∀ v0 (σ : S5), NKs σ → Kd NKs (rec2 v0 σ)) (v1 : Int32) (σ : S5) (h : NKs σ) : Kd NKs (f_X2_refuseManyParameters_b80 rec2 v1 σ) := by
  unfold f_X2_refuseManyParameters_b80
  repeat' first
    | assumption
    | with_reducible exact kd_none
    | with_reducible apply kd_some
    | with_reducible apply kd_ite
    | with_reducible apply kd_bd
    | with_reducible apply hrec2
    | intro _ _ _
theorem knk_f_X2_refuseManyParameters_B2 (rec2 : Int32 → S5 → Option (Unit × S5)) (hrec2 : ∀ v0 (σ : S5), NKs σ → Kd NKs (rec2 v0 σ)) (v1 : Int32) (σ : S5) (h : NKs σ) : Kd NKs (f_X2_refuseManyParameters_B2 rec2 v1 σ) := by
  unfold f_X2_refuseManyParameters_B2
  repeat' first
    | assumption
    | with_reducible exact kd_none
    | with_reducible apply kd_some
    | with_reducible apply kd_ite
    | with_reducible apply kd_gd
    | with_reducible apply kd_bd
    | with_reducible apply NKs_pA
    | with_reducible apply knk_f_X2_refuse
    | with_reducible apply knk_f_X2_refuseManyParameters_b80
    | with_reducible apply hrec2
    | intro _ _ _
theorem knk_f_X2_refuseManyParameters_L2 : ∀ (n : Nat) v0 (σ : S5), NKs σ → Kd NKs (f_X2_refuseManyParameters_L2 n v0 σ)
  | 0, _, _, _ => kd_none
  | n + 1, v0, σ, h => by
    unfold f_X2_refuseManyParameters_L2
    exact knk_f_X2_refuseManyParameters_B2 _ (knk_f_X2_refuseManyParameters_L2 n) v0 σ h
theorem knk_f_X2_refuseManyParameters  (σ : S5) (h : NKs σ) : Kd NKs (f_X2_refuseManyParameters  σ) := by
  unfold f_X2_refuseManyParameters
  repeat' first
    | assumption
    | with_reducible exact kd_none
    | with_reducible apply kd_some
    | with_reducible apply kd_ite
    | with_reducible apply kd_bd
    | with_reducible apply knk_f_X2_refuseManyParameters_L2
    | intro _ _ _
theorem knk_f_X2_findMain_b46  (σ : S5) (h : NKs σ) : Kd NKs (f_X2_findMain_b46  σ) := by
  unfold f_X2_findMain_b46
  repeat' first
    | assumption
    | with_reducible exact kd_none
    | with_reducible apply kd_some
    | with_reducible apply kd_ite
    | with_reducible apply kd_bd
    | with_reducible apply knk_f_X2_refuse
    | intro _ _ _
theorem knk_f_X2_findMain  (σ : S5) (h : NKs σ) : Kd NKs (f_X2_findMain  σ) := by
  unfold f_X2_findMain
  repeat' first
    | assumption
    | with_reducible exact kd_none
    | with_reducible apply kd_some
    | with_reducible apply kd_ite
    | with_reducible apply kd_gd
    | with_reducible apply kd_bd
    | with_reducible apply NKs_pI _ _ _ (by decide)
    | with_reducible apply knk_f_X4_topOf
    | with_reducible apply knk_f_X2_findMain_b46
    | intro _ _ _
theorem knk_f_X2_numberVariables_b144 (rec65 : Int32 → S5 → Option (Unit × S5)) (hrec65 : ∀ v0 (σ : S5), NKs σ → Kd NKs (rec65 v0 σ)) (v1 : Int32) (σ : S5) (h : NKs σ) : Kd NKs (f_X2_numberVariables_b144 rec65 v1 σ) := by
  unfold f_X2_numberVariables_b144
  repeat' first
    | assumption
    | with_reducible exact kd_none
    | with_reducible apply kd_some
    | with_reducible apply kd_ite
    | with_reducible apply kd_bd
    | with_reducible apply hrec65
    | intro _ _ _
theorem knk_f_X2_numberVariables_B65 (rec65 : Int32 → S5 → Option (Unit × S5)) (hrec65 : ∀ v0 (σ : S5), NKs σ → Kd NKs (rec65 v0 σ)) (v1 : Int32) (σ : S5) (h : NKs σ) : Kd NKs (f_X2_numberVariables_B65 rec65 v1 σ) := by
  unfold f_X2_numberVariables_B65
  repeat' first
    | assumption
    | with_reducible exact kd_none
    | with_reducible apply kd_some
    | with_reducible apply kd_ite
    | with_reducible apply kd_gd
    | with_reducible apply kd_bd
    | with_reducible apply NKs_pA
    | with_reducible apply knk_f_X6_owns
    | with_reducible apply knk_f_X2_numberVariables_b144
    | with_reducible apply hrec65
    | intro _ _ _
theorem knk_f_X2_numberVariables_L65 : ∀ (n : Nat) v0 (σ : S5), NKs σ → Kd NKs (f_X2_numberVariables_L65 n v0 σ)
  | 0, _, _, _ => kd_none
  | n + 1, v0, σ, h => by
    unfold f_X2_numberVariables_L65
    exact knk_f_X2_numberVariables_B65 _ (knk_f_X2_numberVariables_L65 n) v0 σ h
theorem knk_f_X2_numberVariables_B2 (rec2 : Int32 → S5 → Option (Unit × S5)) (hrec2 : ∀ v0 (σ : S5), NKs σ → Kd NKs (rec2 v0 σ)) (v1 : Int32) (σ : S5) (h : NKs σ) : Kd NKs (f_X2_numberVariables_B2 rec2 v1 σ) := by
  unfold f_X2_numberVariables_B2
  repeat' first
    | assumption
    | with_reducible exact kd_none
    | with_reducible apply kd_some
    | with_reducible apply kd_ite
    | with_reducible apply kd_gd
    | with_reducible apply kd_bd
    | with_reducible apply NKs_pA
    | with_reducible apply knk_f_X2_numberVariables_L65
    | with_reducible apply hrec2
    | intro _ _ _
theorem knk_f_X2_numberVariables_L2 : ∀ (n : Nat) v0 (σ : S5), NKs σ → Kd NKs (f_X2_numberVariables_L2 n v0 σ)
  | 0, _, _, _ => kd_none
  | n + 1, v0, σ, h => by
    unfold f_X2_numberVariables_L2
    exact knk_f_X2_numberVariables_B2 _ (knk_f_X2_numberVariables_L2 n) v0 σ h
theorem knk_f_X2_numberVariables  (σ : S5) (h : NKs σ) : Kd NKs (f_X2_numberVariables  σ) := by
  unfold f_X2_numberVariables
  repeat' first
    | assumption
    | with_reducible exact kd_none
    | with_reducible apply kd_some
    | with_reducible apply kd_ite
    | with_reducible apply kd_bd
    | with_reducible apply knk_f_X2_numberVariables_L2
    | intro _ _ _
theorem knk_f_X2_numberIn (a1 : Int32) (a2 : Int32) (σ : S5) (h : NKs σ) : Kd NKs (f_X2_numberIn a1 a2 σ) := by
  unfold f_X2_numberIn
  repeat' first
    | assumption
    | with_reducible exact kd_none
    | with_reducible apply kd_some
    | with_reducible apply kd_ite
    | with_reducible apply kd_gd
    | with_reducible apply kd_bd
    | with_reducible apply knk_f_X2_freeIndex
    | intro _ _ _
theorem knk_f_X2_plantUses_b96 (rec2 : Int32 → S5 → Option (Unit × S5)) (hrec2 : ∀ v0 (σ : S5), NKs σ → Kd NKs (rec2 v0 σ)) (v1 : Int32) (σ : S5) (h : NKs σ) : Kd NKs (f_X2_plantUses_b96 rec2 v1 σ) := by
  unfold f_X2_plantUses_b96
  repeat' first
    | assumption
    | with_reducible exact kd_none
    | with_reducible apply kd_some
    | with_reducible apply kd_ite
    | with_reducible apply kd_bd
    | with_reducible apply hrec2
    | intro _ _ _
theorem knk_f_X2_plantUses_B2 (rec2 : Int32 → S5 → Option (Unit × S5)) (hrec2 : ∀ v0 (σ : S5), NKs σ → Kd NKs (rec2 v0 σ)) (v1 : Int32) (σ : S5) (h : NKs σ) : Kd NKs (f_X2_plantUses_B2 rec2 v1 σ) := by
  unfold f_X2_plantUses_B2
  repeat' first
    | assumption
    | with_reducible exact kd_none
    | with_reducible apply kd_some
    | with_reducible apply kd_ite
    | with_reducible apply kd_gd
    | with_reducible apply kd_bd
    | with_reducible apply knk_f_X9_change
    | with_reducible apply knk_f_X2_numberIn
    | with_reducible apply knk_f_X2_plantUses_b96
    | with_reducible apply hrec2
    | intro _ _ _
theorem knk_f_X2_plantUses_L2 : ∀ (n : Nat) v0 (σ : S5), NKs σ → Kd NKs (f_X2_plantUses_L2 n v0 σ)
  | 0, _, _, _ => kd_none
  | n + 1, v0, σ, h => by
    unfold f_X2_plantUses_L2
    exact knk_f_X2_plantUses_B2 _ (knk_f_X2_plantUses_L2 n) v0 σ h
theorem knk_f_X2_plantUses  (σ : S5) (h : NKs σ) : Kd NKs (f_X2_plantUses  σ) := by
  unfold f_X2_plantUses
  repeat' first
    | assumption
    | with_reducible exact kd_none
    | with_reducible apply kd_some
    | with_reducible apply kd_ite
    | with_reducible apply kd_bd
    | with_reducible apply knk_f_X2_plantUses_L2
    | intro _ _ _
theorem knk_f_X2_plantLeaf (a1 : Int32) (a2 : Int32) (σ : S5) (h : NKs σ) : Kd NKs (f_X2_plantLeaf a1 a2 σ) := by
  unfold f_X2_plantLeaf
  repeat' first
    | assumption
    | with_reducible exact kd_none
    | with_reducible apply kd_some
    | with_reducible apply kd_ite
    | with_reducible apply kd_bd
    | with_reducible apply knk_f_X9_addLeaf
    | with_reducible apply knk_f_X9_measureLeaf
    | intro _ _ _
theorem knk_f_X2_plantLifted_B111 (rec111 : Int32 → Int32 → Int32 → Int32 → S5 → Option (Unit × S5)) (hrec111 : ∀ v0 v1 v2 v3 (σ : S5), NKs σ → Kd NKs (rec111 v0 v1 v2 v3 σ)) (v3 : Int32) (v4 : Int32) (v5 : Int32) (v6 : Int32) (σ : S5) (h : NKs σ) : Kd NKs (f_X2_plantLifted_B111 rec111 v3 v4 v5 v6 σ) := by
  unfold f_X2_plantLifted_B111
  repeat' first
    | assumption
    | with_reducible exact kd_none
    | with_reducible apply kd_some
    | with_reducible apply kd_ite
    | with_reducible apply kd_gd
    | with_reducible apply kd_bd
    | with_reducible apply NKs_pA
    | with_reducible apply knk_f_X2_numberIn
    | with_reducible apply knk_f_X2_plantLeaf
    | with_reducible apply hrec111
    | intro _ _ _
theorem knk_f_X2_plantLifted_L111 : ∀ (n : Nat) v0 v1 v2 v3 (σ : S5), NKs σ → Kd NKs (f_X2_plantLifted_L111 n v0 v1 v2 v3 σ)
  | 0, _, _, _, _, _, _ => kd_none
  | n + 1, v0, v1, v2, v3, σ, h => by
    unfold f_X2_plantLifted_L111
    exact knk_f_X2_plantLifted_B111 _ (knk_f_X2_plantLifted_L111 n) v0 v1 v2 v3 σ h
theorem knk_f_X2_plantLifted (a1 : Int32) (a2 : Int32) (σ : S5) (h : NKs σ) : Kd NKs (f_X2_plantLifted a1 a2 σ) := by
  unfold f_X2_plantLifted
  repeat' first
    | assumption
    | with_reducible exact kd_none
    | with_reducible apply kd_some
    | with_reducible apply kd_ite
    | with_reducible apply kd_gd
    | with_reducible apply kd_bd
    | with_reducible apply NKs_pA
    | with_reducible apply knk_f_X9_change
    | with_reducible apply knk_f_X2_plantLeaf
    | with_reducible apply knk_f_X2_plantLifted_L111
    | intro _ _ _
theorem knk_f_X2_plantNode (a1 : Int32) (σ : S5) (h : NKs σ) : Kd NKs (f_X2_plantNode a1 σ) := by
  unfold f_X2_plantNode
  repeat' first
    | assumption
    | with_reducible exact kd_none
    | with_reducible apply kd_some
    | with_reducible apply kd_ite
    | with_reducible apply kd_gd
    | with_reducible apply kd_bd
    | with_reducible apply NKs_pA
    | with_reducible apply knk_f_X2_plantLifted
    | intro _ _ _
theorem knk_f_X2_plantNodes_b89 (rec10 : Int32 → Int32 → S5 → Option (Unit × S5)) (hrec10 : ∀ v0 v1 (σ : S5), NKs σ → Kd NKs (rec10 v0 v1 σ)) (v1 : Int32) (v2 : Int32) (σ : S5) (h : NKs σ) : Kd NKs (f_X2_plantNodes_b89 rec10 v1 v2 σ) := by
  unfold f_X2_plantNodes_b89
  repeat' first
    | assumption
    | with_reducible exact kd_none
    | with_reducible apply kd_some
    | with_reducible apply kd_ite
    | with_reducible apply kd_bd
    | with_reducible apply hrec10
    | intro _ _ _
theorem knk_f_X2_plantNodes_b86 (rec10 : Int32 → Int32 → S5 → Option (Unit × S5)) (hrec10 : ∀ v0 v1 (σ : S5), NKs σ → Kd NKs (rec10 v0 v1 σ)) (v1 : Int32) (v2 : Int32) (u0 : Int32) (u1 : Int32) (σ : S5) (h : NKs σ) : Kd NKs (f_X2_plantNodes_b86 rec10 v1 v2 u0 u1 σ) := by
  unfold f_X2_plantNodes_b86
  repeat' first
    | assumption
    | with_reducible exact kd_none
    | with_reducible apply kd_some
    | with_reducible apply kd_ite
    | with_reducible apply kd_bd
    | with_reducible apply knk_f_X9_measure
    | with_reducible apply knk_f_X2_plantNodes_b89
    | with_reducible apply hrec10
    | intro _ _ _
theorem knk_f_X2_plantNodes_B10 (rec10 : Int32 → Int32 → S5 → Option (Unit × S5)) (hrec10 : ∀ v0 v1 (σ : S5), NKs σ → Kd NKs (rec10 v0 v1 σ)) (v1 : Int32) (v2 : Int32) (σ : S5) (h : NKs σ) : Kd NKs (f_X2_plantNodes_B10 rec10 v1 v2 σ) := by
  unfold f_X2_plantNodes_B10
  repeat' first
    | assumption
    | with_reducible exact kd_none
    | with_reducible apply kd_some
    | with_reducible apply kd_ite
    | with_reducible apply kd_gd
    | with_reducible apply kd_bd
    | with_reducible apply knk_f_X9_measureLeaf
    | with_reducible apply knk_f_X2_plantNode
    | with_reducible apply knk_f_X2_plantNodes_b89
    | with_reducible apply knk_f_X2_plantNodes_b86
    | with_reducible apply hrec10
    | intro _ _ _
theorem knk_f_X2_plantNodes_L10 : ∀ (n : Nat) v0 v1 (σ : S5), NKs σ → Kd NKs (f_X2_plantNodes_L10 n v0 v1 σ)
  | 0, _, _, _, _ => kd_none
  | n + 1, v0, v1, σ, h => by
    unfold f_X2_plantNodes_L10
    exact knk_f_X2_plantNodes_B10 _ (knk_f_X2_plantNodes_L10 n) v0 v1 σ h
theorem knk_f_X2_plantNodes  (σ : S5) (h : NKs σ) : Kd NKs (f_X2_plantNodes  σ) := by
  unfold f_X2_plantNodes
  repeat' first
    | assumption
    | with_reducible exact kd_none
    | with_reducible apply kd_some
    | with_reducible apply kd_ite
    | with_reducible apply kd_bd
    | with_reducible apply knk_f_X2_plantNodes_L10
    | intro _ _ _
theorem knk_f_X2_keepMeasures_b116 (rec2 : Int32 → S5 → Option (Unit × S5)) (hrec2 : ∀ v0 (σ : S5), NKs σ → Kd NKs (rec2 v0 σ)) (v1 : Int32) (σ : S5) (h : NKs σ) : Kd NKs (f_X2_keepMeasures_b116 rec2 v1 σ) := by
  unfold f_X2_keepMeasures_b116
  repeat' first
    | assumption
    | with_reducible exact kd_none
    | with_reducible apply kd_some
    | with_reducible apply kd_ite
    | with_reducible apply kd_bd
    | with_reducible apply hrec2
    | intro _ _ _
theorem knk_f_X2_keepMeasures_b93 (rec2 : Int32 → S5 → Option (Unit × S5)) (hrec2 : ∀ v0 (σ : S5), NKs σ → Kd NKs (rec2 v0 σ)) (v1 : Int32) (σ : S5) (h : NKs σ) : Kd NKs (f_X2_keepMeasures_b93 rec2 v1 σ) := by
  unfold f_X2_keepMeasures_b93
  repeat' first
    | assumption
    | with_reducible exact kd_none
    | with_reducible apply kd_some
    | with_reducible apply kd_ite
    | with_reducible apply kd_gd
    | with_reducible apply kd_bd
    | with_reducible apply knk_f_X2_refuse
    | with_reducible apply knk_f_X2_keepMeasures_b116
    | with_reducible apply hrec2
    | intro _ _ _
theorem knk_f_X2_keepMeasures_B2 (rec2 : Int32 → S5 → Option (Unit × S5)) (hrec2 : ∀ v0 (σ : S5), NKs σ → Kd NKs (rec2 v0 σ)) (v1 : Int32) (σ : S5) (h : NKs σ) : Kd NKs (f_X2_keepMeasures_B2 rec2 v1 σ) := by
  unfold f_X2_keepMeasures_B2
  repeat' first
    | assumption
    | with_reducible exact kd_none
    | with_reducible apply kd_some
    | with_reducible apply kd_ite
    | with_reducible apply kd_gd
    | with_reducible apply kd_bd
    | with_reducible apply NKs_pA
    | with_reducible apply knk_f_X2_keepMeasures_b116
    | with_reducible apply knk_f_X2_keepMeasures_b93
    | with_reducible apply hrec2
    | intro _ _ _
theorem knk_f_X2_keepMeasures_L2 : ∀ (n : Nat) v0 (σ : S5), NKs σ → Kd NKs (f_X2_keepMeasures_L2 n v0 σ)
  | 0, _, _, _ => kd_none
  | n + 1, v0, σ, h => by
    unfold f_X2_keepMeasures_L2
    exact knk_f_X2_keepMeasures_B2 _ (knk_f_X2_keepMeasures_L2 n) v0 σ h
theorem knk_f_X2_keepMeasures  (σ : S5) (h : NKs σ) : Kd NKs (f_X2_keepMeasures  σ) := by
  unfold f_X2_keepMeasures
  repeat' first
    | assumption
    | with_reducible exact kd_none
    | with_reducible apply kd_some
    | with_reducible apply kd_ite
    | with_reducible apply kd_bd
    | with_reducible apply knk_f_X2_keepMeasures_L2
    | intro _ _ _
theorem knk_f_X2_lift_b44  (σ : S5) (h : NKs σ) : Kd NKs (f_X2_lift_b44  σ) := by
  unfold f_X2_lift_b44
  repeat' first
    | assumption
    | with_reducible exact kd_none
    | with_reducible apply kd_some
    | with_reducible apply kd_ite
    | with_reducible apply kd_bd
    | with_reducible apply knk_f_X2_numberVariables
    | with_reducible apply knk_f_X2_plantUses
    | with_reducible apply knk_f_X2_plantNodes
    | with_reducible apply knk_f_X2_keepMeasures
    | intro _ _ _
theorem knk_f_X2_lift_b33  (σ : S5) (h : NKs σ) : Kd NKs (f_X2_lift_b33  σ) := by
  unfold f_X2_lift_b33
  repeat' first
    | assumption
    | with_reducible exact kd_none
    | with_reducible apply kd_some
    | with_reducible apply kd_ite
    | with_reducible apply kd_bd
    | with_reducible apply knk_f_X2_findMain
    | with_reducible apply knk_f_X2_lift_b44
    | intro _ _ _
theorem knk_f_X2_lift  (σ : S5) (h : NKs σ) : Kd NKs (f_X2_lift  σ) := by
  unfold f_X2_lift
  repeat' first
    | assumption
    | with_reducible exact kd_none
    | with_reducible apply kd_some
    | with_reducible apply kd_ite
    | with_reducible apply kd_bd
    | with_reducible apply NKs_pI _ _ _ (by decide)
    | with_reducible apply knk_f_X2_findFree
    | with_reducible apply knk_f_X2_numberFunctions
    | with_reducible apply knk_f_X2_resolveUses
    | with_reducible apply knk_f_X2_refuseManyParameters
    | with_reducible apply knk_f_X2_lift_b33
    | intro _ _ _
theorem knk_f_J7_rangeCheck_23922 (a0 : Int32) (a1 : Int32) (a2 : Int32) (σ : S5) (h : NKs σ) : Kd NKs (f_J7_rangeCheck_23922 a0 a1 a2 σ) := by
  unfold f_J7_rangeCheck_23922
  repeat' first
    | assumption
    | with_reducible exact kd_none
    | with_reducible apply kd_some
    | with_reducible apply kd_ite
    | with_reducible apply kd_bd
    | intro _ _ _
theorem knk_f_J7_fill_bad5a_dem_table_B10 (rec10 : Int32 → Int64 → Int32 → S5 → Option (Unit × S5)) (hrec10 : ∀ v0 v1 v2 (σ : S5), NKs σ → Kd NKs (rec10 v0 v1 v2 σ)) (v2 : Int32) (v3 : Int64) (v5 : Int32) (σ : S5) (h : NKs σ) : Kd NKs (f_J7_fill_bad5a_dem_table_B10 rec10 v2 v3 v5 σ) := by
  unfold f_J7_fill_bad5a_dem_table_B10
  repeat' first
    | assumption
    | with_reducible exact kd_none
    | with_reducible apply kd_some
    | with_reducible apply kd_ite
    | with_reducible apply kd_gd
    | with_reducible apply kd_bd
    | with_reducible apply NKs_pB _ _ _ _ (by decide)
    | with_reducible apply hrec10
    | intro _ _ _
theorem knk_f_J7_fill_bad5a_dem_table_L10 : ∀ (n : Nat) v0 v1 v2 (σ : S5), NKs σ → Kd NKs (f_J7_fill_bad5a_dem_table_L10 n v0 v1 v2 σ)
  | 0, _, _, _, _, _ => kd_none
  | n + 1, v0, v1, v2, σ, h => by
    unfold f_J7_fill_bad5a_dem_table_L10
    exact knk_f_J7_fill_bad5a_dem_table_B10 _ (knk_f_J7_fill_bad5a_dem_table_L10 n) v0 v1 v2 σ h
theorem knk_f_J7_fill_bad5a_dem_table (a1 : Int32) (a2 : Int32) (a3 : Int64) (σ : S5) (h : NKs σ) : Kd NKs (f_J7_fill_bad5a_dem_table a1 a2 a3 σ) := by
  unfold f_J7_fill_bad5a_dem_table
  repeat' first
    | assumption
    | with_reducible exact kd_none
    | with_reducible apply kd_some
    | with_reducible apply kd_ite
    | with_reducible apply kd_bd
    | with_reducible apply knk_f_J7_rangeCheck_23922
    | with_reducible apply knk_f_J7_fill_bad5a_dem_table_L10
    | intro _ _ _
theorem knk_f_J7_fill_bad5a_dem_bits_B10 (rec10 : Int32 → Int64 → Int32 → S5 → Option (Unit × S5)) (hrec10 : ∀ v0 v1 v2 (σ : S5), NKs σ → Kd NKs (rec10 v0 v1 v2 σ)) (v2 : Int32) (v3 : Int64) (v5 : Int32) (σ : S5) (h : NKs σ) : Kd NKs (f_J7_fill_bad5a_dem_bits_B10 rec10 v2 v3 v5 σ) := by
  unfold f_J7_fill_bad5a_dem_bits_B10
  repeat' first
    | assumption
    | with_reducible exact kd_none
    | with_reducible apply kd_some
    | with_reducible apply kd_ite
    | with_reducible apply kd_gd
    | with_reducible apply kd_bd
    | with_reducible apply NKs_pB _ _ _ _ (by decide)
    | with_reducible apply hrec10
    | intro _ _ _
theorem knk_f_J7_fill_bad5a_dem_bits_L10 : ∀ (n : Nat) v0 v1 v2 (σ : S5), NKs σ → Kd NKs (f_J7_fill_bad5a_dem_bits_L10 n v0 v1 v2 σ)
  | 0, _, _, _, _, _ => kd_none
  | n + 1, v0, v1, v2, σ, h => by
    unfold f_J7_fill_bad5a_dem_bits_L10
    exact knk_f_J7_fill_bad5a_dem_bits_B10 _ (knk_f_J7_fill_bad5a_dem_bits_L10 n) v0 v1 v2 σ h
theorem knk_f_J7_fill_bad5a_dem_bits (a1 : Int32) (a2 : Int32) (a3 : Int64) (σ : S5) (h : NKs σ) : Kd NKs (f_J7_fill_bad5a_dem_bits a1 a2 a3 σ) := by
  unfold f_J7_fill_bad5a_dem_bits
  repeat' first
    | assumption
    | with_reducible exact kd_none
    | with_reducible apply kd_some
    | with_reducible apply kd_ite
    | with_reducible apply kd_bd
    | with_reducible apply knk_f_J7_rangeCheck_23922
    | with_reducible apply knk_f_J7_fill_bad5a_dem_bits_L10
    | intro _ _ _
theorem knk_f_X1_look (a1 : Int32) (a2 : Int32) (σ : S5) (h : NKs σ) : Kd NKs (f_X1_look a1 a2 σ) := by
  unfold f_X1_look
  repeat' first
    | assumption
    | with_reducible exact kd_none
    | with_reducible apply kd_some
    | with_reducible apply kd_ite
    | with_reducible apply kd_gd
    | with_reducible apply kd_bd
    | intro _ _ _
theorem knk_f_X1_alone (a1 : Int32) (σ : S5) (h : NKs σ) : Kd NKs (f_X1_alone a1 σ) := by
  unfold f_X1_alone
  repeat' first
    | assumption
    | with_reducible exact kd_none
    | with_reducible apply kd_some
    | with_reducible apply kd_ite
    | with_reducible apply kd_gd
    | with_reducible apply kd_bd
    | intro _ _ _
theorem knk_f_X1_compose_B20 (rec5 : Int32 → Int32 → Int64 → Int32 → S5 → Option (Int64 × S5)) (hrec5 : ∀ v0 v1 v2 v3 (σ : S5), NKs σ → Kd NKs (rec5 v0 v1 v2 v3 σ)) (rec20 : Int32 → Int32 → Int64 → Int32 → Int32 → Int32 → S5 → Option (Int64 × S5)) (hrec20 : ∀ v0 v1 v2 v3 v4 v5 (σ : S5), NKs σ → Kd NKs (rec20 v0 v1 v2 v3 v4 v5 σ)) (v1 : Int32) (v2 : Int32) (v3 : Int64) (v5 : Int32) (v6 : Int32) (v7 : Int32) (σ : S5) (h : NKs σ) : Kd NKs (f_X1_compose_B20 rec5 rec20 v1 v2 v3 v5 v6 v7 σ) := by
  unfold f_X1_compose_B20
  repeat' first
    | assumption
    | with_reducible exact kd_none
    | with_reducible apply kd_some
    | with_reducible apply kd_ite
    | with_reducible apply kd_gd
    | with_reducible apply kd_bd
    | with_reducible apply knk_f_X1_look
    | with_reducible apply hrec5
    | with_reducible apply hrec20
    | intro _ _ _
theorem knk_f_X1_compose_L20 (rec5 : Int32 → Int32 → Int64 → Int32 → S5 → Option (Int64 × S5)) (hrec5 : ∀ v0 v1 v2 v3 (σ : S5), NKs σ → Kd NKs (rec5 v0 v1 v2 v3 σ)) : ∀ (n : Nat) v0 v1 v2 v3 v4 v5 (σ : S5), NKs σ → Kd NKs (f_X1_compose_L20 rec5 n v0 v1 v2 v3 v4 v5 σ)
  | 0, _, _, _, _, _, _, _, _ => kd_none
  | n + 1, v0, v1, v2, v3, v4, v5, σ, h => by
    unfold f_X1_compose_L20
    exact knk_f_X1_compose_B20 rec5 hrec5 _ (knk_f_X1_compose_L20 rec5 hrec5 n) v0 v1 v2 v3 v4 v5 σ h
theorem knk_f_X1_compose_B5 (rec5 : Int32 → Int32 → Int64 → Int32 → S5 → Option (Int64 × S5)) (hrec5 : ∀ v0 v1 v2 v3 (σ : S5), NKs σ → Kd NKs (rec5 v0 v1 v2 v3 σ)) (v1 : Int32) (v2 : Int32) (v3 : Int64) (v5 : Int32) (σ : S5) (h : NKs σ) : Kd NKs (f_X1_compose_B5 rec5 v1 v2 v3 v5 σ) := by
  unfold f_X1_compose_B5
  repeat' first
    | assumption
    | with_reducible exact kd_none
    | with_reducible apply kd_some
    | with_reducible apply kd_ite
    | with_reducible apply kd_bd
    | with_reducible apply knk_f_X1_compose_L20
    | with_reducible apply hrec5
    | intro _ _ _
theorem knk_f_X1_compose_L5 : ∀ (n : Nat) v0 v1 v2 v3 (σ : S5), NKs σ → Kd NKs (f_X1_compose_L5 n v0 v1 v2 v3 σ)
  | 0, _, _, _, _, _, _ => kd_none
  | n + 1, v0, v1, v2, v3, σ, h => by
    unfold f_X1_compose_L5
    exact knk_f_X1_compose_B5 _ (knk_f_X1_compose_L5 n) v0 v1 v2 v3 σ h
theorem knk_f_X1_compose (a1 : Int32) (a2 : Int32) (σ : S5) (h : NKs σ) : Kd NKs (f_X1_compose a1 a2 σ) := by
  unfold f_X1_compose
  repeat' first
    | assumption
    | with_reducible exact kd_none
    | with_reducible apply kd_some
    | with_reducible apply kd_ite
    | with_reducible apply kd_bd
    | with_reducible apply knk_f_X1_compose_L5
    | intro _ _ _
theorem knk_f_X1_neededOf_b58 (rec19 : Int32 → Int32 → Int32 → Int32 → S5 → Option (Int32 × S5)) (hrec19 : ∀ v0 v1 v2 v3 (σ : S5), NKs σ → Kd NKs (rec19 v0 v1 v2 v3 σ)) (v1 : Int32) (v2 : Int32) (v4 : Int32) (u0 : Int32) (u1 : Int32) (σ : S5) (h : NKs σ) : Kd NKs (f_X1_neededOf_b58 rec19 v1 v2 v4 u0 u1 σ) := by
  unfold f_X1_neededOf_b58
  repeat' first
    | assumption
    | with_reducible exact kd_none
    | with_reducible apply kd_some
    | with_reducible apply kd_ite
    | with_reducible apply kd_bd
    | with_reducible apply hrec19
    | intro _ _ _
theorem knk_f_X1_neededOf_B19 (rec19 : Int32 → Int32 → Int32 → Int32 → S5 → Option (Int32 × S5)) (hrec19 : ∀ v0 v1 v2 v3 (σ : S5), NKs σ → Kd NKs (rec19 v0 v1 v2 v3 σ)) (v1 : Int32) (v2 : Int32) (v3 : Int32) (v4 : Int32) (σ : S5) (h : NKs σ) : Kd NKs (f_X1_neededOf_B19 rec19 v1 v2 v3 v4 σ) := by
  unfold f_X1_neededOf_B19
  repeat' first
    | assumption
    | with_reducible exact kd_none
    | with_reducible apply kd_some
    | with_reducible apply kd_ite
    | with_reducible apply kd_gd
    | with_reducible apply kd_bd
    | with_reducible apply knk_f_X1_look
    | with_reducible apply knk_f_X1_neededOf_b58
    | with_reducible apply hrec19
    | intro _ _ _
theorem knk_f_X1_neededOf_L19 : ∀ (n : Nat) v0 v1 v2 v3 (σ : S5), NKs σ → Kd NKs (f_X1_neededOf_L19 n v0 v1 v2 v3 σ)
  | 0, _, _, _, _, _, _ => kd_none
  | n + 1, v0, v1, v2, v3, σ, h => by
    unfold f_X1_neededOf_L19
    exact knk_f_X1_neededOf_B19 _ (knk_f_X1_neededOf_L19 n) v0 v1 v2 v3 σ h
theorem knk_f_X1_neededOf (a1 : Int32) (σ : S5) (h : NKs σ) : Kd NKs (f_X1_neededOf a1 σ) := by
  unfold f_X1_neededOf
  repeat' first
    | assumption
    | with_reducible exact kd_none
    | with_reducible apply kd_some
    | with_reducible apply kd_ite
    | with_reducible apply kd_gd
    | with_reducible apply kd_bd
    | with_reducible apply knk_f_X1_neededOf_L19
    | intro _ _ _
theorem knk_f_X1_wordOfAlternatives_b89 (E : Int32 → S5 → Option (Int64 × S5)) (hE : ∀ x0 σ, NKs σ → Kd NKs (E x0 σ)) (rec8 : Int64 → Int32 → Int32 → S5 → Option (Int64 × S5)) (hrec8 : ∀ v0 v1 v2 (σ : S5), NKs σ → Kd NKs (rec8 v0 v1 v2 σ)) (v2 : Int64) (v4 : Int32) (v5 : Int32) (σ : S5) (h : NKs σ) : Kd NKs (f_X1_wordOfAlternatives_b89 E rec8 v2 v4 v5 σ) := by
  unfold f_X1_wordOfAlternatives_b89
  repeat' first
    | assumption
    | with_reducible exact kd_none
    | with_reducible apply kd_some
    | with_reducible apply kd_ite
    | with_reducible apply kd_gd
    | with_reducible apply kd_bd
    | with_reducible apply hE
    | with_reducible apply hrec8
    | intro _ _ _
theorem knk_f_X1_wordOfAlternatives_B39 (E : Int32 → S5 → Option (Int64 × S5)) (hE : ∀ x0 σ, NKs σ → Kd NKs (E x0 σ)) (rec8 : Int64 → Int32 → Int32 → S5 → Option (Int64 × S5)) (hrec8 : ∀ v0 v1 v2 (σ : S5), NKs σ → Kd NKs (rec8 v0 v1 v2 σ)) (rec39 : Int64 → Int32 → Int32 → Int32 → S5 → Option (Int64 × S5)) (hrec39 : ∀ v0 v1 v2 v3 (σ : S5), NKs σ → Kd NKs (rec39 v0 v1 v2 v3 σ)) (v2 : Int64) (v4 : Int32) (v5 : Int32) (v6 : Int32) (σ : S5) (h : NKs σ) : Kd NKs (f_X1_wordOfAlternatives_B39 E rec8 rec39 v2 v4 v5 v6 σ) := by
  unfold f_X1_wordOfAlternatives_B39
  repeat' first
    | assumption
    | with_reducible exact kd_none
    | with_reducible apply kd_some
    | with_reducible apply kd_ite
    | with_reducible apply kd_gd
    | with_reducible apply kd_bd
    | with_reducible apply NKs_pB _ _ _ _ (by decide)
    | with_reducible apply knk_f_X1_wordOfAlternatives_b89 E hE
    | with_reducible apply hE
    | with_reducible apply hrec8
    | with_reducible apply hrec39
    | intro _ _ _
theorem knk_f_X1_wordOfAlternatives_L39 (E : Int32 → S5 → Option (Int64 × S5)) (hE : ∀ x0 σ, NKs σ → Kd NKs (E x0 σ)) (rec8 : Int64 → Int32 → Int32 → S5 → Option (Int64 × S5)) (hrec8 : ∀ v0 v1 v2 (σ : S5), NKs σ → Kd NKs (rec8 v0 v1 v2 σ)) : ∀ (n : Nat) v0 v1 v2 v3 (σ : S5), NKs σ → Kd NKs (f_X1_wordOfAlternatives_L39 E rec8 n v0 v1 v2 v3 σ)
  | 0, _, _, _, _, _, _ => kd_none
  | n + 1, v0, v1, v2, v3, σ, h => by
    unfold f_X1_wordOfAlternatives_L39
    exact knk_f_X1_wordOfAlternatives_B39 E hE rec8 hrec8 _ (knk_f_X1_wordOfAlternatives_L39 E hE rec8 hrec8 n) v0 v1 v2 v3 σ h
theorem knk_f_X1_wordOfAlternatives_B8 (E : Int32 → S5 → Option (Int64 × S5)) (hE : ∀ x0 σ, NKs σ → Kd NKs (E x0 σ)) (rec8 : Int64 → Int32 → Int32 → S5 → Option (Int64 × S5)) (hrec8 : ∀ v0 v1 v2 (σ : S5), NKs σ → Kd NKs (rec8 v0 v1 v2 σ)) (v2 : Int64) (v4 : Int32) (v5 : Int32) (σ : S5) (h : NKs σ) : Kd NKs (f_X1_wordOfAlternatives_B8 E rec8 v2 v4 v5 σ) := by
  unfold f_X1_wordOfAlternatives_B8
  repeat' first
    | assumption
    | with_reducible exact kd_none
    | with_reducible apply kd_some
    | with_reducible apply kd_ite
    | with_reducible apply kd_gd
    | with_reducible apply kd_bd
    | with_reducible apply knk_f_X1_wordOfAlternatives_b89 E hE
    | with_reducible apply knk_f_X1_wordOfAlternatives_L39 E hE
    | with_reducible apply hE
    | with_reducible apply hrec8
    | intro _ _ _
theorem knk_f_X1_wordOfAlternatives_L8 (E : Int32 → S5 → Option (Int64 × S5)) (hE : ∀ x0 σ, NKs σ → Kd NKs (E x0 σ)) : ∀ (n : Nat) v0 v1 v2 (σ : S5), NKs σ → Kd NKs (f_X1_wordOfAlternatives_L8 E n v0 v1 v2 σ)
  | 0, _, _, _, _, _ => kd_none
  | n + 1, v0, v1, v2, σ, h => by
    unfold f_X1_wordOfAlternatives_L8
    exact knk_f_X1_wordOfAlternatives_B8 E hE _ (knk_f_X1_wordOfAlternatives_L8 E hE n) v0 v1 v2 σ h
theorem knk_f_X1_wordOfAlternatives (E : Int32 → S5 → Option (Int64 × S5)) (hE : ∀ x0 σ, NKs σ → Kd NKs (E x0 σ)) (a1 : Int32) (σ : S5) (h : NKs σ) : Kd NKs (f_X1_wordOfAlternatives E a1 σ) := by
  unfold f_X1_wordOfAlternatives
  repeat' first
    | assumption
    | with_reducible exact kd_none
    | with_reducible apply kd_some
    | with_reducible apply kd_ite
    | with_reducible apply kd_bd
    | with_reducible apply knk_f_X1_wordOfAlternatives_L8 E hE
    | with_reducible apply hE
    | intro _ _ _
theorem knk_f_X1_wordOfLet_b109 (E : Int32 → S5 → Option (Int64 × S5)) (hE : ∀ x0 σ, NKs σ → Kd NKs (E x0 σ)) (v1 : Int32) (σ : S5) (h : NKs σ) : Kd NKs (f_X1_wordOfLet_b109 E v1 σ) := by
  unfold f_X1_wordOfLet_b109
  repeat' first
    | assumption
    | with_reducible exact kd_none
    | with_reducible apply kd_some
    | with_reducible apply kd_ite
    | with_reducible apply kd_bd
    | with_reducible apply hE
    | intro _ _ _
theorem knk_f_X1_wordOfLet_b80 (E : Int32 → S5 → Option (Int64 × S5)) (hE : ∀ x0 σ, NKs σ → Kd NKs (E x0 σ)) (rec12 : Int32 → Int32 → Int32 → S5 → Option (Int64 × S5)) (hrec12 : ∀ v0 v1 v2 (σ : S5), NKs σ → Kd NKs (rec12 v0 v1 v2 σ)) (v1 : Int32) (v2 : Int32) (v3 : Int32) (v4 : Int32) (v5 : Int64) (u0 : Int32) (u1 : Int32) (σ : S5) (h : NKs σ) : Kd NKs (f_X1_wordOfLet_b80 E rec12 v1 v2 v3 v4 v5 u0 u1 σ) := by
  unfold f_X1_wordOfLet_b80
  repeat' first
    | assumption
    | with_reducible exact kd_none
    | with_reducible apply kd_some
    | with_reducible apply kd_ite
    | with_reducible apply kd_gd
    | with_reducible apply kd_g_t
    | with_reducible apply kd_bd
    | with_reducible apply NKs_pI _ _ _ (by decide)
    | with_reducible apply NKs_pB _ _ _ _ (by decide)
    | with_reducible apply hE
    | with_reducible apply hrec12
    | intro _ _ _
theorem knk_f_X1_wordOfLet_B12 (E : Int32 → S5 → Option (Int64 × S5)) (hE : ∀ x0 σ, NKs σ → Kd NKs (E x0 σ)) (rec12 : Int32 → Int32 → Int32 → S5 → Option (Int64 × S5)) (hrec12 : ∀ v0 v1 v2 (σ : S5), NKs σ → Kd NKs (rec12 v0 v1 v2 σ)) (v1 : Int32) (v2 : Int32) (v3 : Int32) (σ : S5) (h : NKs σ) : Kd NKs (f_X1_wordOfLet_B12 E rec12 v1 v2 v3 σ) := by
  unfold f_X1_wordOfLet_B12
  repeat' first
    | assumption
    | with_reducible exact kd_none
    | with_reducible apply kd_some
    | with_reducible apply kd_ite
    | with_reducible apply kd_gd
    | with_reducible apply kd_bd
    | with_reducible apply knk_f_X1_wordOfLet_b109 E hE
    | with_reducible apply knk_f_X1_wordOfLet_b80 E hE
    | with_reducible apply hE
    | with_reducible apply hrec12
    | intro _ _ _
theorem knk_f_X1_wordOfLet_L12 (E : Int32 → S5 → Option (Int64 × S5)) (hE : ∀ x0 σ, NKs σ → Kd NKs (E x0 σ)) : ∀ (n : Nat) v0 v1 v2 (σ : S5), NKs σ → Kd NKs (f_X1_wordOfLet_L12 E n v0 v1 v2 σ)
  | 0, _, _, _, _, _ => kd_none
  | n + 1, v0, v1, v2, σ, h => by
    unfold f_X1_wordOfLet_L12
    exact knk_f_X1_wordOfLet_B12 E hE _ (knk_f_X1_wordOfLet_L12 E hE n) v0 v1 v2 σ h
theorem knk_f_X1_wordOfLet (E : Int32 → S5 → Option (Int64 × S5)) (hE : ∀ x0 σ, NKs σ → Kd NKs (E x0 σ)) (a1 : Int32) (σ : S5) (h : NKs σ) : Kd NKs (f_X1_wordOfLet E a1 σ) := by
  unfold f_X1_wordOfLet
  repeat' first
    | assumption
    | with_reducible exact kd_none
    | with_reducible apply kd_some
    | with_reducible apply kd_ite
    | with_reducible apply kd_gd
    | with_reducible apply kd_bd
    | with_reducible apply knk_f_X1_wordOfLet_L12 E hE
    | with_reducible apply hE
    | intro _ _ _
theorem knk_f_X1_wordOfApplication_b167 (E : Int32 → S5 → Option (Int64 × S5)) (hE : ∀ x0 σ, NKs σ → Kd NKs (E x0 σ)) (v3 : Int32) (v5 : Int32) (σ : S5) (h : NKs σ) : Kd NKs (f_X1_wordOfApplication_b167 E v3 v5 σ) := by
  unfold f_X1_wordOfApplication_b167
  repeat' first
    | assumption
    | with_reducible exact kd_none
    | with_reducible apply kd_some
    | with_reducible apply kd_ite
    | with_reducible apply kd_bd
    | with_reducible apply NKs_pI _ _ _ (by decide)
    | with_reducible apply knk_f_X1_compose
    | with_reducible apply hE
    | intro _ _ _
theorem knk_f_X1_wordOfApplication_B95 (E : Int32 → S5 → Option (Int64 × S5)) (hE : ∀ x0 σ, NKs σ → Kd NKs (E x0 σ)) (rec95 : Int32 → Int32 → Int32 → Int32 → Int32 → S5 → Option (Int64 × S5)) (hrec95 : ∀ v0 v1 v2 v3 v4 (σ : S5), NKs σ → Kd NKs (rec95 v0 v1 v2 v3 v4 σ)) (v3 : Int32) (v4 : Int32) (v5 : Int32) (v6 : Int32) (v7 : Int32) (σ : S5) (h : NKs σ) : Kd NKs (f_X1_wordOfApplication_B95 E rec95 v3 v4 v5 v6 v7 σ) := by
  unfold f_X1_wordOfApplication_B95
  repeat' first
    | assumption
    | with_reducible exact kd_none
    | with_reducible apply kd_some
    | with_reducible apply kd_ite
    | with_reducible apply kd_gd
    | with_reducible apply kd_bd
    | with_reducible apply NKs_pI _ _ _ (by decide)
    | with_reducible apply NKs_pB _ _ _ _ (by decide)
    | with_reducible apply knk_f_X1_wordOfApplication_b167 E hE
    | with_reducible apply hE
    | with_reducible apply hrec95
    | intro _ _ _
theorem knk_f_X1_wordOfApplication_L95 (E : Int32 → S5 → Option (Int64 × S5)) (hE : ∀ x0 σ, NKs σ → Kd NKs (E x0 σ)) : ∀ (n : Nat) v0 v1 v2 v3 v4 (σ : S5), NKs σ → Kd NKs (f_X1_wordOfApplication_L95 E n v0 v1 v2 v3 v4 σ)
  | 0, _, _, _, _, _, _, _ => kd_none
  | n + 1, v0, v1, v2, v3, v4, σ, h => by
    unfold f_X1_wordOfApplication_L95
    exact knk_f_X1_wordOfApplication_B95 E hE _ (knk_f_X1_wordOfApplication_L95 E hE n) v0 v1 v2 v3 v4 σ h
theorem knk_f_X1_wordOfApplication_b69 (E : Int32 → S5 → Option (Int64 × S5)) (hE : ∀ x0 σ, NKs σ → Kd NKs (E x0 σ)) (v3 : Int32) (σ : S5) (h : NKs σ) : Kd NKs (f_X1_wordOfApplication_b69 E v3 σ) := by
  unfold f_X1_wordOfApplication_b69
  repeat' first
    | assumption
    | with_reducible exact kd_none
    | with_reducible apply kd_some
    | with_reducible apply kd_ite
    | with_reducible apply kd_bd
    | with_reducible apply knk_f_X1_alone
    | with_reducible apply hE
    | intro _ _ _
theorem knk_f_X1_wordOfApplication (E : Int32 → S5 → Option (Int64 × S5)) (hE : ∀ x0 σ, NKs σ → Kd NKs (E x0 σ)) (a1 : Int32) (σ : S5) (h : NKs σ) : Kd NKs (f_X1_wordOfApplication E a1 σ) := by
  unfold f_X1_wordOfApplication
  repeat' first
    | assumption
    | with_reducible exact kd_none
    | with_reducible apply kd_some
    | with_reducible apply kd_ite
    | with_reducible apply kd_gd
    | with_reducible apply kd_bd
    | with_reducible apply knk_f_X1_wordOfApplication_L95 E hE
    | with_reducible apply knk_f_X1_wordOfApplication_b69 E hE
    | with_reducible apply hE
    | intro _ _ _
theorem knk_f_X1_wordOf (E : Int32 → S5 → Option (Int64 × S5)) (hE : ∀ x0 σ, NKs σ → Kd NKs (E x0 σ)) (a1 : Int32) (σ : S5) (h : NKs σ) : Kd NKs (f_X1_wordOf E a1 σ) := by
  unfold f_X1_wordOf
  repeat' first
    | assumption
    | with_reducible exact kd_none
    | with_reducible apply kd_some
    | with_reducible apply kd_ite
    | with_reducible apply kd_gd
    | with_reducible apply kd_bd
    | with_reducible apply knk_f_X1_alone
    | with_reducible apply knk_f_X1_wordOfAlternatives E hE
    | with_reducible apply knk_f_X1_wordOfLet E hE
    | with_reducible apply knk_f_X1_wordOfApplication E hE
    | with_reducible apply hE
    | intro _ _ _
theorem knk_f_X1_settle_b66 (E : Int32 → S5 → Option (Int64 × S5)) (hE : ∀ x0 σ, NKs σ → Kd NKs (E x0 σ)) (v4 : Int64) (σ : S5) (h : NKs σ) : Kd NKs (f_X1_settle_b66 E v4 σ) := by
  unfold f_X1_settle_b66
  repeat' first
    | assumption
    | with_reducible exact kd_none
    | with_reducible apply kd_some
    | with_reducible apply kd_ite
    | with_reducible apply kd_bd
    | with_reducible apply hE
    | intro _ _ _
theorem knk_f_X1_settle_B34 (E : Int32 → S5 → Option (Int64 × S5)) (hE : ∀ x0 σ, NKs σ → Kd NKs (E x0 σ)) (rec34 : Int32 → Int64 → Int32 → S5 → Option (Int64 × S5)) (hrec34 : ∀ v0 v1 v2 (σ : S5), NKs σ → Kd NKs (rec34 v0 v1 v2 σ)) (v1 : Int32) (v4 : Int64) (v6 : Int32) (σ : S5) (h : NKs σ) : Kd NKs (f_X1_settle_B34 E rec34 v1 v4 v6 σ) := by
  unfold f_X1_settle_B34
  repeat' first
    | assumption
    | with_reducible exact kd_none
    | with_reducible apply kd_some
    | with_reducible apply kd_ite
    | with_reducible apply kd_bd
    | with_reducible apply NKs_pI _ _ _ (by decide)
    | with_reducible apply knk_f_X1_settle_b66 E hE
    | with_reducible apply hE
    | with_reducible apply hrec34
    | intro _ _ _
theorem knk_f_X1_settle_L34 (E : Int32 → S5 → Option (Int64 × S5)) (hE : ∀ x0 σ, NKs σ → Kd NKs (E x0 σ)) : ∀ (n : Nat) v0 v1 v2 (σ : S5), NKs σ → Kd NKs (f_X1_settle_L34 E n v0 v1 v2 σ)
  | 0, _, _, _, _, _ => kd_none
  | n + 1, v0, v1, v2, σ, h => by
    unfold f_X1_settle_L34
    exact knk_f_X1_settle_B34 E hE _ (knk_f_X1_settle_L34 E hE n) v0 v1 v2 σ h
theorem knk_f_X1_settle_B3 (E : Int32 → S5 → Option (Int64 × S5)) (hE : ∀ x0 σ, NKs σ → Kd NKs (E x0 σ)) (rec3 : Int32 → Int32 → Int32 → S5 → Option (Int64 × S5)) (hrec3 : ∀ v0 v1 v2 (σ : S5), NKs σ → Kd NKs (rec3 v0 v1 v2 σ)) (v1 : Int32) (v3 : Int32) (v4 : Int32) (σ : S5) (h : NKs σ) : Kd NKs (f_X1_settle_B3 E rec3 v1 v3 v4 σ) := by
  unfold f_X1_settle_B3
  repeat' first
    | assumption
    | with_reducible exact kd_none
    | with_reducible apply kd_some
    | with_reducible apply kd_ite
    | with_reducible apply kd_gd
    | with_reducible apply kd_bd
    | with_reducible apply NKs_pI _ _ _ (by decide)
    | with_reducible apply NKs_pB _ _ _ _ (by decide)
    | with_reducible apply knk_f_X1_settle_L34 E hE
    | with_reducible apply hE
    | with_reducible apply hrec3
    | intro _ _ _
theorem knk_f_X1_settle_L3 (E : Int32 → S5 → Option (Int64 × S5)) (hE : ∀ x0 σ, NKs σ → Kd NKs (E x0 σ)) : ∀ (n : Nat) v0 v1 v2 (σ : S5), NKs σ → Kd NKs (f_X1_settle_L3 E n v0 v1 v2 σ)
  | 0, _, _, _, _, _ => kd_none
  | n + 1, v0, v1, v2, σ, h => by
    unfold f_X1_settle_L3
    exact knk_f_X1_settle_B3 E hE _ (knk_f_X1_settle_L3 E hE n) v0 v1 v2 σ h
theorem knk_f_X1_settle (E : Int32 → S5 → Option (Int64 × S5)) (hE : ∀ x0 σ, NKs σ → Kd NKs (E x0 σ)) (a1 : Int32) (a2 : Int32) (a3 : Int32) (σ : S5) (h : NKs σ) : Kd NKs (f_X1_settle E a1 a2 a3 σ) := by
  unfold f_X1_settle
  repeat' first
    | assumption
    | with_reducible exact kd_none
    | with_reducible apply kd_some
    | with_reducible apply kd_ite
    | with_reducible apply kd_bd
    | with_reducible apply knk_f_X1_settle_L3 E hE
    | with_reducible apply hE
    | intro _ _ _
theorem knk_f_X1_improve_b156 (E : Int32 → S5 → Option (Int64 × S5)) (hE : ∀ x0 σ, NKs σ → Kd NKs (E x0 σ)) (rec51 : Int32 → Int32 → Int32 → Int32 → Int32 → S5 → Option (Int32 × S5)) (hrec51 : ∀ v0 v1 v2 v3 v4 (σ : S5), NKs σ → Kd NKs (rec51 v0 v1 v2 v3 v4 σ)) (v1 : Int32) (v2 : Int32) (v3 : Int32) (v5 : Int32) (v6 : Int64) (u0 : Int32) (u1 : Int32) (σ : S5) (h : NKs σ) : Kd NKs (f_X1_improve_b156 E rec51 v1 v2 v3 v5 v6 u0 u1 σ) := by
  unfold f_X1_improve_b156
  repeat' first
    | assumption
    | with_reducible exact kd_none
    | with_reducible apply kd_some
    | with_reducible apply kd_ite
    | with_reducible apply kd_gd
    | with_reducible apply kd_bd
    | with_reducible apply NKs_pB _ _ _ _ (by decide)
    | with_reducible apply hE
    | with_reducible apply hrec51
    | intro _ _ _
theorem knk_f_X1_improve_b100 (E : Int32 → S5 → Option (Int64 × S5)) (hE : ∀ x0 σ, NKs σ → Kd NKs (E x0 σ)) (rec51 : Int32 → Int32 → Int32 → Int32 → Int32 → S5 → Option (Int32 × S5)) (hrec51 : ∀ v0 v1 v2 v3 v4 (σ : S5), NKs σ → Kd NKs (rec51 v0 v1 v2 v3 v4 σ)) (rec60 : Int32 → Int32 → Int32 → Int32 → Int32 → Int32 → S5 → Option (Int32 × S5)) (hrec60 : ∀ v0 v1 v2 v3 v4 v5 (σ : S5), NKs σ → Kd NKs (rec60 v0 v1 v2 v3 v4 v5 σ)) (v1 : Int32) (v2 : Int32) (v3 : Int32) (v4 : Int32) (v5 : Int32) (v6 : Int32) (u0 : Int64) (u1 : Int32) (σ : S5) (h : NKs σ) : Kd NKs (f_X1_improve_b100 E rec51 rec60 v1 v2 v3 v4 v5 v6 u0 u1 σ) := by
  unfold f_X1_improve_b100
  repeat' first
    | assumption
    | with_reducible exact kd_none
    | with_reducible apply kd_some
    | with_reducible apply kd_ite
    | with_reducible apply kd_gd
    | with_reducible apply kd_bd
    | with_reducible apply NKs_pB _ _ _ _ (by decide)
    | with_reducible apply hE
    | with_reducible apply hrec51
    | with_reducible apply hrec60
    | intro _ _ _
theorem knk_f_X1_improve_B60 (E : Int32 → S5 → Option (Int64 × S5)) (hE : ∀ x0 σ, NKs σ → Kd NKs (E x0 σ)) (rec51 : Int32 → Int32 → Int32 → Int32 → Int32 → S5 → Option (Int32 × S5)) (hrec51 : ∀ v0 v1 v2 v3 v4 (σ : S5), NKs σ → Kd NKs (rec51 v0 v1 v2 v3 v4 σ)) (rec60 : Int32 → Int32 → Int32 → Int32 → Int32 → Int32 → S5 → Option (Int32 × S5)) (hrec60 : ∀ v0 v1 v2 v3 v4 v5 (σ : S5), NKs σ → Kd NKs (rec60 v0 v1 v2 v3 v4 v5 σ)) (v1 : Int32) (v2 : Int32) (v3 : Int32) (v4 : Int32) (v5 : Int32) (v6 : Int32) (σ : S5) (h : NKs σ) : Kd NKs (f_X1_improve_B60 E rec51 rec60 v1 v2 v3 v4 v5 v6 σ) := by
  unfold f_X1_improve_B60
  repeat' first
    | assumption
    | with_reducible exact kd_none
    | with_reducible apply kd_some
    | with_reducible apply kd_ite
    | with_reducible apply kd_gd
    | with_reducible apply kd_bd
    | with_reducible apply knk_f_X1_settle E hE
    | with_reducible apply knk_f_X1_improve_b156 E hE
    | with_reducible apply knk_f_X1_improve_b100 E hE
    | with_reducible apply hE
    | with_reducible apply hrec51
    | with_reducible apply hrec60
    | intro _ _ _
theorem knk_f_X1_improve_L60 (E : Int32 → S5 → Option (Int64 × S5)) (hE : ∀ x0 σ, NKs σ → Kd NKs (E x0 σ)) (rec51 : Int32 → Int32 → Int32 → Int32 → Int32 → S5 → Option (Int32 × S5)) (hrec51 : ∀ v0 v1 v2 v3 v4 (σ : S5), NKs σ → Kd NKs (rec51 v0 v1 v2 v3 v4 σ)) : ∀ (n : Nat) v0 v1 v2 v3 v4 v5 (σ : S5), NKs σ → Kd NKs (f_X1_improve_L60 E rec51 n v0 v1 v2 v3 v4 v5 σ)
  | 0, _, _, _, _, _, _, _, _ => kd_none
  | n + 1, v0, v1, v2, v3, v4, v5, σ, h => by
    unfold f_X1_improve_L60
    exact knk_f_X1_improve_B60 E hE rec51 hrec51 _ (knk_f_X1_improve_L60 E hE rec51 hrec51 n) v0 v1 v2 v3 v4 v5 σ h
theorem knk_f_X1_improve_B51 (E : Int32 → S5 → Option (Int64 × S5)) (hE : ∀ x0 σ, NKs σ → Kd NKs (E x0 σ)) (rec51 : Int32 → Int32 → Int32 → Int32 → Int32 → S5 → Option (Int32 × S5)) (hrec51 : ∀ v0 v1 v2 v3 v4 (σ : S5), NKs σ → Kd NKs (rec51 v0 v1 v2 v3 v4 σ)) (v1 : Int32) (v2 : Int32) (v3 : Int32) (v4 : Int32) (v5 : Int32) (σ : S5) (h : NKs σ) : Kd NKs (f_X1_improve_B51 E rec51 v1 v2 v3 v4 v5 σ) := by
  unfold f_X1_improve_B51
  repeat' first
    | assumption
    | with_reducible exact kd_none
    | with_reducible apply kd_some
    | with_reducible apply kd_ite
    | with_reducible apply kd_g_t
    | with_reducible apply kd_bd
    | with_reducible apply knk_f_X1_improve_L60 E hE
    | with_reducible apply hE
    | with_reducible apply hrec51
    | intro _ _ _
theorem knk_f_X1_improve_L51 (E : Int32 → S5 → Option (Int64 × S5)) (hE : ∀ x0 σ, NKs σ → Kd NKs (E x0 σ)) : ∀ (n : Nat) v0 v1 v2 v3 v4 (σ : S5), NKs σ → Kd NKs (f_X1_improve_L51 E n v0 v1 v2 v3 v4 σ)
  | 0, _, _, _, _, _, _, _ => kd_none
  | n + 1, v0, v1, v2, v3, v4, σ, h => by
    unfold f_X1_improve_L51
    exact knk_f_X1_improve_B51 E hE _ (knk_f_X1_improve_L51 E hE n) v0 v1 v2 v3 v4 σ h
theorem knk_f_X1_improve_b44 (E : Int32 → S5 → Option (Int64 × S5)) (hE : ∀ x0 σ, NKs σ → Kd NKs (E x0 σ)) (v1 : Int32) (v2 : Int32) (u0 : Int32) (σ : S5) (h : NKs σ) : Kd NKs (f_X1_improve_b44 E v1 v2 u0 σ) := by
  unfold f_X1_improve_b44
  repeat' first
    | assumption
    | with_reducible exact kd_none
    | with_reducible apply kd_some
    | with_reducible apply kd_ite
    | with_reducible apply kd_bd
    | with_reducible apply knk_f_X1_improve_L51 E hE
    | with_reducible apply hE
    | intro _ _ _
theorem knk_f_X1_improve_b25 (E : Int32 → S5 → Option (Int64 × S5)) (hE : ∀ x0 σ, NKs σ → Kd NKs (E x0 σ)) (v1 : Int32) (v2 : Int32) (u0 : Int32) (σ : S5) (h : NKs σ) : Kd NKs (f_X1_improve_b25 E v1 v2 u0 σ) := by
  unfold f_X1_improve_b25
  repeat' first
    | assumption
    | with_reducible exact kd_none
    | with_reducible apply kd_some
    | with_reducible apply kd_ite
    | with_reducible apply kd_bd
    | with_reducible apply NKs_pI _ _ _ (by decide)
    | with_reducible apply knk_f_X1_improve_b44 E hE
    | with_reducible apply hE
    | intro _ _ _
theorem knk_f_X1_improve (E : Int32 → S5 → Option (Int64 × S5)) (hE : ∀ x0 σ, NKs σ → Kd NKs (E x0 σ)) (a1 : Int32) (σ : S5) (h : NKs σ) : Kd NKs (f_X1_improve E a1 σ) := by
  unfold f_X1_improve
  repeat' first
    | assumption
    | with_reducible exact kd_none
    | with_reducible apply kd_some
    | with_reducible apply kd_ite
    | with_reducible apply kd_gd
    | with_reducible apply kd_bd
    | with_reducible apply knk_f_X1_improve_b25 E hE
    | with_reducible apply hE
    | intro _ _ _
theorem knk_f_X1_markLet (E : Int32 → S5 → Option (Int64 × S5)) (hE : ∀ x0 σ, NKs σ → Kd NKs (E x0 σ)) (a1 : Int32) (σ : S5) (h : NKs σ) : Kd NKs (f_X1_markLet E a1 σ) := by
  unfold f_X1_markLet
  repeat' first
    | assumption
    | with_reducible exact kd_none
    | with_reducible apply kd_some
    | with_reducible apply kd_ite
    | with_reducible apply kd_gd
    | with_reducible apply kd_bd
    | with_reducible apply NKs_pI _ _ _ (by decide)
    | with_reducible apply NKs_pA
    | with_reducible apply knk_f_J7_fill_bad5a_dem_bits
    | with_reducible apply knk_f_X1_settle E hE
    | with_reducible apply hE
    | intro _ _ _
theorem knk_f_X1_solve_b133 (E : Int32 → S5 → Option (Int64 × S5)) (hE : ∀ x0 σ, NKs σ → Kd NKs (E x0 σ)) (rec103 : Int32 → S5 → Option (Unit × S5)) (hrec103 : ∀ v0 (σ : S5), NKs σ → Kd NKs (rec103 v0 σ)) (v2 : Int32) (σ : S5) (h : NKs σ) : Kd NKs (f_X1_solve_b133 E rec103 v2 σ) := by
  unfold f_X1_solve_b133
  repeat' first
    | assumption
    | with_reducible exact kd_none
    | with_reducible apply kd_some
    | with_reducible apply kd_ite
    | with_reducible apply kd_bd
    | with_reducible apply hE
    | with_reducible apply hrec103
    | intro _ _ _
theorem knk_f_X1_solve_B103 (E : Int32 → S5 → Option (Int64 × S5)) (hE : ∀ x0 σ, NKs σ → Kd NKs (E x0 σ)) (rec103 : Int32 → S5 → Option (Unit × S5)) (hrec103 : ∀ v0 (σ : S5), NKs σ → Kd NKs (rec103 v0 σ)) (v2 : Int32) (σ : S5) (h : NKs σ) : Kd NKs (f_X1_solve_B103 E rec103 v2 σ) := by
  unfold f_X1_solve_B103
  repeat' first
    | assumption
    | with_reducible exact kd_none
    | with_reducible apply kd_some
    | with_reducible apply kd_ite
    | with_reducible apply kd_gd
    | with_reducible apply kd_bd
    | with_reducible apply knk_f_X1_markLet E hE
    | with_reducible apply knk_f_X1_solve_b133 E hE
    | with_reducible apply hE
    | with_reducible apply hrec103
    | intro _ _ _
theorem knk_f_X1_solve_L103 (E : Int32 → S5 → Option (Int64 × S5)) (hE : ∀ x0 σ, NKs σ → Kd NKs (E x0 σ)) : ∀ (n : Nat) v0 (σ : S5), NKs σ → Kd NKs (f_X1_solve_L103 E n v0 σ)
  | 0, _, _, _ => kd_none
  | n + 1, v0, σ, h => by
    unfold f_X1_solve_L103
    exact knk_f_X1_solve_B103 E hE _ (knk_f_X1_solve_L103 E hE n) v0 σ h
theorem knk_f_X1_solve_B70 (E : Int32 → S5 → Option (Int64 × S5)) (hE : ∀ x0 σ, NKs σ → Kd NKs (E x0 σ)) (rec70 : Int32 → S5 → Option (Unit × S5)) (hrec70 : ∀ v0 (σ : S5), NKs σ → Kd NKs (rec70 v0 σ)) (v2 : Int32) (σ : S5) (h : NKs σ) : Kd NKs (f_X1_solve_B70 E rec70 v2 σ) := by
  unfold f_X1_solve_B70
  repeat' first
    | assumption
    | with_reducible exact kd_none
    | with_reducible apply kd_some
    | with_reducible apply kd_ite
    | with_reducible apply kd_gd
    | with_reducible apply kd_bd
    | with_reducible apply NKs_pA
    | with_reducible apply knk_f_X1_neededOf
    | with_reducible apply knk_f_X1_solve_L103 E hE
    | with_reducible apply hE
    | with_reducible apply hrec70
    | intro _ _ _
theorem knk_f_X1_solve_L70 (E : Int32 → S5 → Option (Int64 × S5)) (hE : ∀ x0 σ, NKs σ → Kd NKs (E x0 σ)) : ∀ (n : Nat) v0 (σ : S5), NKs σ → Kd NKs (f_X1_solve_L70 E n v0 σ)
  | 0, _, _, _ => kd_none
  | n + 1, v0, σ, h => by
    unfold f_X1_solve_L70
    exact knk_f_X1_solve_B70 E hE _ (knk_f_X1_solve_L70 E hE n) v0 σ h
theorem knk_f_X1_solve_b68 (E : Int32 → S5 → Option (Int64 × S5)) (hE : ∀ x0 σ, NKs σ → Kd NKs (E x0 σ)) (σ : S5) (h : NKs σ) : Kd NKs (f_X1_solve_b68 E  σ) := by
  unfold f_X1_solve_b68
  repeat' first
    | assumption
    | with_reducible exact kd_none
    | with_reducible apply kd_some
    | with_reducible apply kd_ite
    | with_reducible apply kd_bd
    | with_reducible apply knk_f_X1_solve_L70 E hE
    | with_reducible apply hE
    | intro _ _ _
theorem knk_f_X1_solve_B44 (E : Int32 → S5 → Option (Int64 × S5)) (hE : ∀ x0 σ, NKs σ → Kd NKs (E x0 σ)) (rec22 : Int32 → Int32 → S5 → Option (Unit × S5)) (hrec22 : ∀ v0 v1 (σ : S5), NKs σ → Kd NKs (rec22 v0 v1 σ)) (rec44 : Int32 → Int32 → Int32 → S5 → Option (Unit × S5)) (hrec44 : ∀ v0 v1 v2 (σ : S5), NKs σ → Kd NKs (rec44 v0 v1 v2 σ)) (v1 : Int32) (v2 : Int32) (v3 : Int32) (σ : S5) (h : NKs σ) : Kd NKs (f_X1_solve_B44 E rec22 rec44 v1 v2 v3 σ) := by
  unfold f_X1_solve_B44
  repeat' first
    | assumption
    | with_reducible exact kd_none
    | with_reducible apply kd_some
    | with_reducible apply kd_ite
    | with_reducible apply kd_bd
    | with_reducible apply knk_f_X1_improve E hE
    | with_reducible apply hE
    | with_reducible apply hrec22
    | with_reducible apply hrec44
    | intro _ _ _
theorem knk_f_X1_solve_L44 (E : Int32 → S5 → Option (Int64 × S5)) (hE : ∀ x0 σ, NKs σ → Kd NKs (E x0 σ)) (rec22 : Int32 → Int32 → S5 → Option (Unit × S5)) (hrec22 : ∀ v0 v1 (σ : S5), NKs σ → Kd NKs (rec22 v0 v1 σ)) : ∀ (n : Nat) v0 v1 v2 (σ : S5), NKs σ → Kd NKs (f_X1_solve_L44 E rec22 n v0 v1 v2 σ)
  | 0, _, _, _, _, _ => kd_none
  | n + 1, v0, v1, v2, σ, h => by
    unfold f_X1_solve_L44
    exact knk_f_X1_solve_B44 E hE rec22 hrec22 _ (knk_f_X1_solve_L44 E hE rec22 hrec22 n) v0 v1 v2 σ h
theorem knk_f_X1_solve_B22 (E : Int32 → S5 → Option (Int64 × S5)) (hE : ∀ x0 σ, NKs σ → Kd NKs (E x0 σ)) (rec22 : Int32 → Int32 → S5 → Option (Unit × S5)) (hrec22 : ∀ v0 v1 (σ : S5), NKs σ → Kd NKs (rec22 v0 v1 σ)) (v1 : Int32) (v2 : Int32) (σ : S5) (h : NKs σ) : Kd NKs (f_X1_solve_B22 E rec22 v1 v2 σ) := by
  unfold f_X1_solve_B22
  repeat' first
    | assumption
    | with_reducible exact kd_none
    | with_reducible apply kd_some
    | with_reducible apply kd_ite
    | with_reducible apply kd_bd
    | with_reducible apply knk_f_X1_solve_b68 E hE
    | with_reducible apply knk_f_X1_solve_L44 E hE
    | with_reducible apply hE
    | with_reducible apply hrec22
    | intro _ _ _
theorem knk_f_X1_solve_L22 (E : Int32 → S5 → Option (Int64 × S5)) (hE : ∀ x0 σ, NKs σ → Kd NKs (E x0 σ)) : ∀ (n : Nat) v0 v1 (σ : S5), NKs σ → Kd NKs (f_X1_solve_L22 E n v0 v1 σ)
  | 0, _, _, _, _ => kd_none
  | n + 1, v0, v1, σ, h => by
    unfold f_X1_solve_L22
    exact knk_f_X1_solve_B22 E hE _ (knk_f_X1_solve_L22 E hE n) v0 v1 σ h
theorem knk_f_X1_solve (E : Int32 → S5 → Option (Int64 × S5)) (hE : ∀ x0 σ, NKs σ → Kd NKs (E x0 σ)) (σ : S5) (h : NKs σ) : Kd NKs (f_X1_solve E  σ) := by
  unfold f_X1_solve
  repeat' first
    | assumption
    | with_reducible exact kd_none
    | with_reducible apply kd_some
    | with_reducible apply kd_ite
    | with_reducible apply kd_bd
    | with_reducible apply knk_f_J7_fill_bad5a_dem_table
    | with_reducible apply knk_f_X1_solve_L22 E hE
    | with_reducible apply hE
    | intro _ _ _
theorem knk_f_readE : ∀ (d : Nat) (σ : S5), NKs σ → Kd NKs (f_readE d σ)
  | 0, _, _ => kd_none
  | d + 1, σ, h => by
    unfold f_readE
    exact knk_f_X5_readExpression _ (knk_f_readE d) σ h
theorem knk_f_wordE : ∀ (d : Nat) (a : Int32) (σ : S5), NKs σ → Kd NKs (f_wordE d a σ)
  | 0, _, _, _ => kd_none
  | d + 1, a, σ, h => by
    unfold f_wordE
    exact knk_f_X1_wordOf _ (knk_f_wordE d) a σ h
