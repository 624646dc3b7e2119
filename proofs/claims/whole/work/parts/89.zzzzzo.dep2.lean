theorem kp_f_X8_signAt_text {D : Int32 → Nat} {c h : Int32} {o : Nat}  (a1 : Int32) (σ : S5) (q : DP D c h o σ) : Kd (DP D c h o) (f_X8_signAt_text a1 σ) := by
  unfold f_X8_signAt_text
  repeat' first
    | assumption
    | with_reducible exact kd_none
    | with_reducible apply kd_some
    | with_reducible apply kd_ite
    | with_reducible apply kd_gd
    | with_reducible apply kd_bd
    | intro _ _ _
theorem kp_f_J0_coder_7d493 {D : Int32 → Nat} {c h : Int32} {o : Nat}  (zi : Nat) (σ : S5) (q : DP D c h o σ) : Kd (DP D c h o) (f_J0_coder_7d493 zi σ) := by
  unfold f_J0_coder_7d493
  repeat' first
    | assumption
    | with_reducible exact kd_none
    | with_reducible apply kd_some
    | with_reducible apply kd_ite
    | with_reducible apply kd_gs
    | with_reducible apply kd_bd
    | intro _ _ _
theorem kp_f_J0_isLatin1_aae02 {D : Int32 → Nat} {c h : Int32} {o : Nat}  (zi : Nat) (σ : S5) (q : DP D c h o σ) : Kd (DP D c h o) (f_J0_isLatin1_aae02 zi σ) := by
  unfold f_J0_isLatin1_aae02
  repeat' first
    | assumption
    | with_reducible exact kd_none
    | with_reducible apply kd_some
    | with_reducible apply kd_ite
    | with_reducible apply kd_gs
    | with_reducible apply kd_bd
    | intro _ _ _
theorem kp_f_J0_length_8abf5 {D : Int32 → Nat} {c h : Int32} {o : Nat}  (zi : Nat) (σ : S5) (q : DP D c h o σ) : Kd (DP D c h o) (f_J0_length_8abf5 zi σ) := by
  unfold f_J0_length_8abf5
  repeat' first
    | assumption
    | with_reducible exact kd_none
    | with_reducible apply kd_some
    | with_reducible apply kd_ite
    | with_reducible apply kd_gs
    | with_reducible apply kd_bd
    | with_reducible apply kp_f_J0_coder_7d493
    | intro _ _ _
theorem kp_f_J1_canEncode_9a6ad {D : Int32 → Nat} {c h : Int32} {o : Nat}  (a0 : Int32) (σ : S5) (q : DP D c h o σ) : Kd (DP D c h o) (f_J1_canEncode_9a6ad a0 σ) := by
  unfold f_J1_canEncode_9a6ad
  repeat' first
    | assumption
    | with_reducible exact kd_none
    | with_reducible apply kd_some
    | with_reducible apply kd_ite
    | with_reducible apply kd_bd
    | intro _ _ _
theorem kp_f_J1_indexOfChar_4cfef_B7 {D : Int32 → Nat} {c h : Int32} {o : Nat} (rec7 : Nat → Int32 → Int32 → Int32 → S5 → Option (Int32 × S5)) (hrec7 : ∀ v0 v1 v2 v3 (σ : S5), DP D c h o σ → Kd (DP D c h o) (rec7 v0 v1 v2 v3 σ)) (zi : Nat) (v3 : Int32) (v4 : Int32) (v5 : Int32) (σ : S5) (q : DP D c h o σ) : Kd (DP D c h o) (f_J1_indexOfChar_4cfef_B7 rec7 zi v3 v4 v5 σ) := by
  unfold f_J1_indexOfChar_4cfef_B7
  repeat' first
    | assumption
    | with_reducible exact kd_none
    | with_reducible apply kd_some
    | with_reducible apply kd_ite
    | with_reducible apply kd_gd
    | with_reducible apply kd_gs
    | with_reducible apply kd_bd
    | with_reducible apply hrec7
    | intro _ _ _
theorem kp_f_J1_indexOfChar_4cfef_L7 {D : Int32 → Nat} {c h : Int32} {o : Nat} : ∀ (n : Nat) v0 v1 v2 v3 (σ : S5), DP D c h o σ → Kd (DP D c h o) (f_J1_indexOfChar_4cfef_L7 n v0 v1 v2 v3 σ)
  | 0, _, _, _, _, _, _ => kd_none
  | n + 1, v0, v1, v2, v3, σ, q => by
    unfold f_J1_indexOfChar_4cfef_L7
    exact kp_f_J1_indexOfChar_4cfef_B7 _ (kp_f_J1_indexOfChar_4cfef_L7 n) v0 v1 v2 v3 σ q
theorem kp_f_J1_indexOfChar_4cfef {D : Int32 → Nat} {c h : Int32} {o : Nat}  (zi : Nat) (a1 : Int32) (a2 : Int32) (a3 : Int32) (σ : S5) (q : DP D c h o σ) : Kd (DP D c h o) (f_J1_indexOfChar_4cfef zi a1 a2 a3 σ) := by
  unfold f_J1_indexOfChar_4cfef
  repeat' first
    | assumption
    | with_reducible exact kd_none
    | with_reducible apply kd_some
    | with_reducible apply kd_ite
    | with_reducible apply kd_bd
    | with_reducible apply kp_f_J1_indexOfChar_4cfef_L7
    | intro _ _ _
theorem kp_f_J1_indexOf_4cfef {D : Int32 → Nat} {c h : Int32} {o : Nat}  (zi : Nat) (a1 : Int32) (a2 : Int32) (a3 : Int32) (σ : S5) (q : DP D c h o σ) : Kd (DP D c h o) (f_J1_indexOf_4cfef zi a1 a2 a3 σ) := by
  unfold f_J1_indexOf_4cfef
  repeat' first
    | assumption
    | with_reducible exact kd_none
    | with_reducible apply kd_some
    | with_reducible apply kd_ite
    | with_reducible apply kd_gs
    | with_reducible apply kd_bd
    | with_reducible apply kp_f_J1_canEncode_9a6ad
    | with_reducible apply kp_f_J1_indexOfChar_4cfef
    | intro _ _ _
theorem kp_f_J0_indexOf_7cf53 {D : Int32 → Nat} {c h : Int32} {o : Nat}  (zi : Nat) (a1 : Int32) (a2 : Int32) (σ : S5) (q : DP D c h o σ) : Kd (DP D c h o) (f_J0_indexOf_7cf53 zi a1 a2 σ) := by
  unfold f_J0_indexOf_7cf53
  repeat' first
    | assumption
    | with_reducible exact kd_none
    | with_reducible apply kd_some
    | with_reducible apply kd_ite
    | with_reducible apply kd_gs
    | with_reducible apply kd_bd
    | with_reducible apply kp_f_J0_isLatin1_aae02
    | with_reducible apply kp_f_J0_length_8abf5
    | with_reducible apply kp_f_J1_indexOf_4cfef
    | intro _ _ _
theorem kp_f_J0_indexOf_0f7a4 {D : Int32 → Nat} {c h : Int32} {o : Nat}  (zi : Nat) (a1 : Int32) (σ : S5) (q : DP D c h o σ) : Kd (DP D c h o) (f_J0_indexOf_0f7a4 zi a1 σ) := by
  unfold f_J0_indexOf_0f7a4
  repeat' first
    | assumption
    | with_reducible exact kd_none
    | with_reducible apply kd_some
    | with_reducible apply kd_ite
    | with_reducible apply kd_gs
    | with_reducible apply kd_bd
    | with_reducible apply kp_f_J0_indexOf_7cf53
    | intro _ _ _
theorem kp_f_X10_isSmall {D : Int32 → Nat} {c h : Int32} {o : Nat}  (a0 : Int32) (σ : S5) (q : DP D c h o σ) : Kd (DP D c h o) (f_X10_isSmall a0 σ) := by
  unfold f_X10_isSmall
  repeat' first
    | assumption
    | with_reducible exact kd_none
    | with_reducible apply kd_some
    | with_reducible apply kd_ite
    | with_reducible apply kd_bd
    | intro _ _ _
theorem kp_f_X10_isGreat {D : Int32 → Nat} {c h : Int32} {o : Nat}  (a0 : Int32) (σ : S5) (q : DP D c h o σ) : Kd (DP D c h o) (f_X10_isGreat a0 σ) := by
  unfold f_X10_isGreat
  repeat' first
    | assumption
    | with_reducible exact kd_none
    | with_reducible apply kd_some
    | with_reducible apply kd_ite
    | with_reducible apply kd_bd
    | intro _ _ _
theorem kp_f_X10_isDigit {D : Int32 → Nat} {c h : Int32} {o : Nat}  (a0 : Int32) (σ : S5) (q : DP D c h o σ) : Kd (DP D c h o) (f_X10_isDigit a0 σ) := by
  unfold f_X10_isDigit
  repeat' first
    | assumption
    | with_reducible exact kd_none
    | with_reducible apply kd_some
    | with_reducible apply kd_ite
    | with_reducible apply kd_bd
    | intro _ _ _
theorem kp_f_X10_stop {D : Int32 → Nat} {c h : Int32} {o : Nat}   (σ : S5) (q : DP D c h o σ) : Kd (DP D c h o) (f_X10_stop  σ) := by
  unfold f_X10_stop
  repeat' first
    | assumption
    | with_reducible exact kd_none
    | with_reducible apply kd_some
    | with_reducible apply kd_ite
    | with_reducible apply kd_bd
    | with_reducible apply DP_pI _ _ _ (by decide)
    | intro _ _ _
theorem kp_f_X10_passBlanks_b61 {D : Int32 → Nat} {c h : Int32} {o : Nat} (rec2 : Int32 → S5 → Option (Unit × S5)) (hrec2 : ∀ v0 (σ : S5), DP D c h o σ → Kd (DP D c h o) (rec2 v0 σ)) (v1 : Int32) (σ : S5) (q : DP D c h o σ) : Kd (DP D c h o) (f_X10_passBlanks_b61 rec2 v1 σ) := by
  unfold f_X10_passBlanks_b61
  repeat' first
    | assumption
    | with_reducible exact kd_none
    | with_reducible apply kd_some
    | with_reducible apply kd_ite
    | with_reducible apply kd_bd
    | with_reducible apply DP_pI _ _ _ (by decide)
    | with_reducible apply hrec2
    | intro _ _ _
theorem kp_f_X10_passBlanks_B2 {D : Int32 → Nat} {c h : Int32} {o : Nat} (rec2 : Int32 → S5 → Option (Unit × S5)) (hrec2 : ∀ v0 (σ : S5), DP D c h o σ → Kd (DP D c h o) (rec2 v0 σ)) (v1 : Int32) (σ : S5) (q : DP D c h o σ) : Kd (DP D c h o) (f_X10_passBlanks_B2 rec2 v1 σ) := by
  unfold f_X10_passBlanks_B2
  repeat' first
    | assumption
    | with_reducible exact kd_none
    | with_reducible apply kd_some
    | with_reducible apply kd_ite
    | with_reducible apply kd_bd
    | with_reducible apply kp_f_X8_signAt_text
    | with_reducible apply kp_f_X10_passBlanks_b61
    | with_reducible apply hrec2
    | intro _ _ _
theorem kp_f_X10_passBlanks_L2 {D : Int32 → Nat} {c h : Int32} {o : Nat} : ∀ (n : Nat) v0 (σ : S5), DP D c h o σ → Kd (DP D c h o) (f_X10_passBlanks_L2 n v0 σ)
  | 0, _, _, _ => kd_none
  | n + 1, v0, σ, q => by
    unfold f_X10_passBlanks_L2
    exact kp_f_X10_passBlanks_B2 _ (kp_f_X10_passBlanks_L2 n) v0 σ q
theorem kp_f_X10_passBlanks {D : Int32 → Nat} {c h : Int32} {o : Nat}   (σ : S5) (q : DP D c h o σ) : Kd (DP D c h o) (f_X10_passBlanks  σ) := by
  unfold f_X10_passBlanks
  repeat' first
    | assumption
    | with_reducible exact kd_none
    | with_reducible apply kd_some
    | with_reducible apply kd_ite
    | with_reducible apply kd_bd
    | with_reducible apply kp_f_X10_passBlanks_L2
    | intro _ _ _
theorem kp_f_X10_kindOfName {D : Int32 → Nat} {c h : Int32} {o : Nat}   (σ : S5) (q : DP D c h o σ) : Kd (DP D c h o) (f_X10_kindOfName  σ) := by
  unfold f_X10_kindOfName
  repeat' first
    | assumption
    | with_reducible exact kd_none
    | with_reducible apply kd_some
    | with_reducible apply kd_ite
    | with_reducible apply kd_bd
    | intro _ _ _
theorem kp_f_X10_readName_b113 {D : Int32 → Nat} {c h : Int32} {o : Nat}  (u0 : Int32) (σ : S5) (q : DP D c h o σ) : Kd (DP D c h o) (f_X10_readName_b113 u0 σ) := by
  unfold f_X10_readName_b113
  repeat' first
    | assumption
    | with_reducible exact kd_none
    | with_reducible apply kd_some
    | with_reducible apply kd_ite
    | with_reducible apply kd_bd
    | with_reducible apply DP_pI _ _ _ (by decide)
    | intro _ _ _
theorem kp_f_X10_readName_b83 {D : Int32 → Nat} {c h : Int32} {o : Nat}  (v1 : Int32) (v2 : Int32) (σ : S5) (q : DP D c h o σ) : Kd (DP D c h o) (f_X10_readName_b83 v1 v2 σ) := by
  unfold f_X10_readName_b83
  repeat' first
    | assumption
    | with_reducible exact kd_none
    | with_reducible apply kd_some
    | with_reducible apply kd_ite
    | with_reducible apply kd_bd
    | with_reducible apply DP_pI _ _ _ (by decide)
    | with_reducible apply kp_f_X10_isGreat
    | with_reducible apply kp_f_X10_kindOfName
    | with_reducible apply kp_f_X10_readName_b113
    | intro _ _ _
theorem kp_f_X10_readName_b41 {D : Int32 → Nat} {c h : Int32} {o : Nat} (rec9 : Int32 → Int32 → Int32 → S5 → Option (Unit × S5)) (hrec9 : ∀ v0 v1 v2 (σ : S5), DP D c h o σ → Kd (DP D c h o) (rec9 v0 v1 v2 σ)) (v1 : Int32) (v2 : Int32) (v3 : Int32) (σ : S5) (q : DP D c h o σ) : Kd (DP D c h o) (f_X10_readName_b41 rec9 v1 v2 v3 σ) := by
  unfold f_X10_readName_b41
  repeat' first
    | assumption
    | with_reducible exact kd_none
    | with_reducible apply kd_some
    | with_reducible apply kd_ite
    | with_reducible apply kd_bd
    | with_reducible apply DP_pI _ _ _ (by decide)
    | with_reducible apply DP_pJ
    | with_reducible apply kp_f_X8_signAt_text
    | with_reducible apply hrec9
    | intro _ _ _
theorem kp_f_X10_readName_B9 {D : Int32 → Nat} {c h : Int32} {o : Nat} (rec9 : Int32 → Int32 → Int32 → S5 → Option (Unit × S5)) (hrec9 : ∀ v0 v1 v2 (σ : S5), DP D c h o σ → Kd (DP D c h o) (rec9 v0 v1 v2 σ)) (v1 : Int32) (v2 : Int32) (v3 : Int32) (σ : S5) (q : DP D c h o σ) : Kd (DP D c h o) (f_X10_readName_B9 rec9 v1 v2 v3 σ) := by
  unfold f_X10_readName_B9
  repeat' first
    | assumption
    | with_reducible exact kd_none
    | with_reducible apply kd_some
    | with_reducible apply kd_ite
    | with_reducible apply kd_bd
    | with_reducible apply kp_f_X10_isSmall
    | with_reducible apply kp_f_X10_isDigit
    | with_reducible apply kp_f_X10_readName_b83
    | with_reducible apply kp_f_X10_readName_b41
    | with_reducible apply hrec9
    | intro _ _ _
theorem kp_f_X10_readName_L9 {D : Int32 → Nat} {c h : Int32} {o : Nat} : ∀ (n : Nat) v0 v1 v2 (σ : S5), DP D c h o σ → Kd (DP D c h o) (f_X10_readName_L9 n v0 v1 v2 σ)
  | 0, _, _, _, _, _ => kd_none
  | n + 1, v0, v1, v2, σ, q => by
    unfold f_X10_readName_L9
    exact kp_f_X10_readName_B9 _ (kp_f_X10_readName_L9 n) v0 v1 v2 σ q
theorem kp_f_X10_readName {D : Int32 → Nat} {c h : Int32} {o : Nat}  (a1 : Int32) (σ : S5) (q : DP D c h o σ) : Kd (DP D c h o) (f_X10_readName a1 σ) := by
  unfold f_X10_readName
  repeat' first
    | assumption
    | with_reducible exact kd_none
    | with_reducible apply kd_some
    | with_reducible apply kd_ite
    | with_reducible apply kd_bd
    | with_reducible apply DP_pJ
    | with_reducible apply kp_f_X10_readName_L9
    | intro _ _ _
theorem kp_f_X10_readNumber_b126 {D : Int32 → Nat} {c h : Int32} {o : Nat}  (u0 : Int32) (σ : S5) (q : DP D c h o σ) : Kd (DP D c h o) (f_X10_readNumber_b126 u0 σ) := by
  unfold f_X10_readNumber_b126
  repeat' first
    | assumption
    | with_reducible exact kd_none
    | with_reducible apply kd_some
    | with_reducible apply kd_ite
    | with_reducible apply kd_bd
    | with_reducible apply DP_pI _ _ _ (by decide)
    | intro _ _ _
theorem kp_f_X10_readNumber_b111 {D : Int32 → Nat} {c h : Int32} {o : Nat}  (v1 : Int64) (v4 : Int32) (u0 : Int32) (σ : S5) (q : DP D c h o σ) : Kd (DP D c h o) (f_X10_readNumber_b111 v1 v4 u0 σ) := by
  unfold f_X10_readNumber_b111
  repeat' first
    | assumption
    | with_reducible exact kd_none
    | with_reducible apply kd_some
    | with_reducible apply kd_ite
    | with_reducible apply kd_bd
    | with_reducible apply DP_pI _ _ _ (by decide)
    | with_reducible apply kp_f_X10_readNumber_b126
    | intro _ _ _
theorem kp_f_X10_readNumber_b98 {D : Int32 → Nat} {c h : Int32} {o : Nat}  (v1 : Int64) (u0 : Int32) (σ : S5) (q : DP D c h o σ) : Kd (DP D c h o) (f_X10_readNumber_b98 v1 u0 σ) := by
  unfold f_X10_readNumber_b98
  repeat' first
    | assumption
    | with_reducible exact kd_none
    | with_reducible apply kd_some
    | with_reducible apply kd_ite
    | with_reducible apply kd_bd
    | with_reducible apply kp_f_X10_readNumber_b111
    | intro _ _ _
theorem kp_f_X10_readNumber_b97 {D : Int32 → Nat} {c h : Int32} {o : Nat}  (v1 : Int64) (σ : S5) (q : DP D c h o σ) : Kd (DP D c h o) (f_X10_readNumber_b97 v1 σ) := by
  unfold f_X10_readNumber_b97
  repeat' first
    | assumption
    | with_reducible exact kd_none
    | with_reducible apply kd_some
    | with_reducible apply kd_ite
    | with_reducible apply kd_bd
    | with_reducible apply kp_f_X10_readNumber_b98
    | intro _ _ _
theorem kp_f_X10_readNumber_b79 {D : Int32 → Nat} {c h : Int32} {o : Nat}  (v1 : Int64) (v3 : Int32) (σ : S5) (q : DP D c h o σ) : Kd (DP D c h o) (f_X10_readNumber_b79 v1 v3 σ) := by
  unfold f_X10_readNumber_b79
  repeat' first
    | assumption
    | with_reducible exact kd_none
    | with_reducible apply kd_some
    | with_reducible apply kd_ite
    | with_reducible apply kd_bd
    | with_reducible apply kp_f_X10_readNumber_b98
    | with_reducible apply kp_f_X10_readNumber_b97
    | intro _ _ _
theorem kp_f_X10_readNumber_b66 {D : Int32 → Nat} {c h : Int32} {o : Nat} (rec4 : Int64 → Int32 → S5 → Option (Unit × S5)) (hrec4 : ∀ v0 v1 (σ : S5), DP D c h o σ → Kd (DP D c h o) (rec4 v0 v1 σ)) (v1 : Int64) (v3 : Int32) (σ : S5) (q : DP D c h o σ) : Kd (DP D c h o) (f_X10_readNumber_b66 rec4 v1 v3 σ) := by
  unfold f_X10_readNumber_b66
  repeat' first
    | assumption
    | with_reducible exact kd_none
    | with_reducible apply kd_some
    | with_reducible apply kd_ite
    | with_reducible apply kd_bd
    | with_reducible apply DP_pI _ _ _ (by decide)
    | with_reducible apply hrec4
    | intro _ _ _
theorem kp_f_X10_readNumber_B4 {D : Int32 → Nat} {c h : Int32} {o : Nat} (rec4 : Int64 → Int32 → S5 → Option (Unit × S5)) (hrec4 : ∀ v0 v1 (σ : S5), DP D c h o σ → Kd (DP D c h o) (rec4 v0 v1 σ)) (v1 : Int64) (v3 : Int32) (σ : S5) (q : DP D c h o σ) : Kd (DP D c h o) (f_X10_readNumber_B4 rec4 v1 v3 σ) := by
  unfold f_X10_readNumber_B4
  repeat' first
    | assumption
    | with_reducible exact kd_none
    | with_reducible apply kd_some
    | with_reducible apply kd_ite
    | with_reducible apply kd_bd
    | with_reducible apply kp_f_X8_signAt_text
    | with_reducible apply kp_f_X10_isDigit
    | with_reducible apply kp_f_X10_readNumber_b79
    | with_reducible apply kp_f_X10_readNumber_b66
    | with_reducible apply hrec4
    | intro _ _ _
theorem kp_f_X10_readNumber_L4 {D : Int32 → Nat} {c h : Int32} {o : Nat} : ∀ (n : Nat) v0 v1 (σ : S5), DP D c h o σ → Kd (DP D c h o) (f_X10_readNumber_L4 n v0 v1 σ)
  | 0, _, _, _, _ => kd_none
  | n + 1, v0, v1, σ, q => by
    unfold f_X10_readNumber_L4
    exact kp_f_X10_readNumber_B4 _ (kp_f_X10_readNumber_L4 n) v0 v1 σ q
theorem kp_f_X10_readNumber {D : Int32 → Nat} {c h : Int32} {o : Nat}   (σ : S5) (q : DP D c h o σ) : Kd (DP D c h o) (f_X10_readNumber  σ) := by
  unfold f_X10_readNumber
  repeat' first
    | assumption
    | with_reducible exact kd_none
    | with_reducible apply kd_some
    | with_reducible apply kd_ite
    | with_reducible apply kd_bd
    | with_reducible apply kp_f_X10_readNumber_L4
    | intro _ _ _
theorem kp_f_X10_readSign_b119 {D : Int32 → Nat} {c h : Int32} {o : Nat}  (u0 : Int32) (u1 : Int32) (σ : S5) (q : DP D c h o σ) : Kd (DP D c h o) (f_X10_readSign_b119 u0 u1 σ) := by
  unfold f_X10_readSign_b119
  repeat' first
    | assumption
    | with_reducible exact kd_none
    | with_reducible apply kd_some
    | with_reducible apply kd_ite
    | with_reducible apply kd_bd
    | with_reducible apply DP_pI _ _ _ (by decide)
    | intro _ _ _
theorem kp_f_X10_readSign_b99 {D : Int32 → Nat} {c h : Int32} {o : Nat}   (σ : S5) (q : DP D c h o σ) : Kd (DP D c h o) (f_X10_readSign_b99  σ) := by
  unfold f_X10_readSign_b99
  repeat' first
    | assumption
    | with_reducible exact kd_none
    | with_reducible apply kd_some
    | with_reducible apply kd_ite
    | with_reducible apply kd_bd
    | with_reducible apply kp_f_X10_readSign_b119
    | intro _ _ _
theorem kp_f_X10_readSign_b96 {D : Int32 → Nat} {c h : Int32} {o : Nat}  (u0 : Int32) (σ : S5) (q : DP D c h o σ) : Kd (DP D c h o) (f_X10_readSign_b96 u0 σ) := by
  unfold f_X10_readSign_b96
  repeat' first
    | assumption
    | with_reducible exact kd_none
    | with_reducible apply kd_some
    | with_reducible apply kd_ite
    | with_reducible apply kd_bd
    | with_reducible apply DP_pI _ _ _ (by decide)
    | with_reducible apply kp_f_X10_readSign_b99
    | intro _ _ _
theorem kp_f_X10_readSign_b80 {D : Int32 → Nat} {c h : Int32} {o : Nat}  (v1 : Int32) (σ : S5) (q : DP D c h o σ) : Kd (DP D c h o) (f_X10_readSign_b80 v1 σ) := by
  unfold f_X10_readSign_b80
  repeat' first
    | assumption
    | with_reducible exact kd_none
    | with_reducible apply kd_some
    | with_reducible apply kd_ite
    | with_reducible apply kd_gs
    | with_reducible apply kd_bd
    | with_reducible apply kp_f_J0_indexOf_0f7a4
    | with_reducible apply kp_f_X10_readSign_b96
    | intro _ _ _
theorem kp_f_X10_readSign_b58 {D : Int32 → Nat} {c h : Int32} {o : Nat}  (v1 : Int32) (v2 : Int32) (σ : S5) (q : DP D c h o σ) : Kd (DP D c h o) (f_X10_readSign_b58 v1 v2 σ) := by
  unfold f_X10_readSign_b58
  repeat' first
    | assumption
    | with_reducible exact kd_none
    | with_reducible apply kd_some
    | with_reducible apply kd_ite
    | with_reducible apply kd_bd
    | with_reducible apply DP_pI _ _ _ (by decide)
    | with_reducible apply kp_f_X10_readSign_b99
    | with_reducible apply kp_f_X10_readSign_b80
    | intro _ _ _
theorem kp_f_X10_readSign_b36 {D : Int32 → Nat} {c h : Int32} {o : Nat}  (v1 : Int32) (v2 : Int32) (σ : S5) (q : DP D c h o σ) : Kd (DP D c h o) (f_X10_readSign_b36 v1 v2 σ) := by
  unfold f_X10_readSign_b36
  repeat' first
    | assumption
    | with_reducible exact kd_none
    | with_reducible apply kd_some
    | with_reducible apply kd_ite
    | with_reducible apply kd_bd
    | with_reducible apply DP_pI _ _ _ (by decide)
    | with_reducible apply kp_f_X10_readSign_b99
    | with_reducible apply kp_f_X10_readSign_b58
    | intro _ _ _
theorem kp_f_X10_readSign {D : Int32 → Nat} {c h : Int32} {o : Nat}  (a1 : Int32) (σ : S5) (q : DP D c h o σ) : Kd (DP D c h o) (f_X10_readSign a1 σ) := by
  unfold f_X10_readSign
  repeat' first
    | assumption
    | with_reducible exact kd_none
    | with_reducible apply kd_some
    | with_reducible apply kd_ite
    | with_reducible apply kd_bd
    | with_reducible apply DP_pI _ _ _ (by decide)
    | with_reducible apply kp_f_X8_signAt_text
    | with_reducible apply kp_f_X10_readSign_b99
    | with_reducible apply kp_f_X10_readSign_b36
    | intro _ _ _
theorem kp_f_X10_advance_b59 {D : Int32 → Nat} {c h : Int32} {o : Nat}  (v1 : Int32) (σ : S5) (q : DP D c h o σ) : Kd (DP D c h o) (f_X10_advance_b59 v1 σ) := by
  unfold f_X10_advance_b59
  repeat' first
    | assumption
    | with_reducible exact kd_none
    | with_reducible apply kd_some
    | with_reducible apply kd_ite
    | with_reducible apply kd_bd
    | with_reducible apply kp_f_X10_readName
    | intro _ _ _
theorem kp_f_X10_advance {D : Int32 → Nat} {c h : Int32} {o : Nat}   (σ : S5) (q : DP D c h o σ) : Kd (DP D c h o) (f_X10_advance  σ) := by
  unfold f_X10_advance
  repeat' first
    | assumption
    | with_reducible exact kd_none
    | with_reducible apply kd_some
    | with_reducible apply kd_ite
    | with_reducible apply kd_bd
    | with_reducible apply DP_pI _ _ _ (by decide)
    | with_reducible apply kp_f_X8_signAt_text
    | with_reducible apply kp_f_X10_isSmall
    | with_reducible apply kp_f_X10_isGreat
    | with_reducible apply kp_f_X10_isDigit
    | with_reducible apply kp_f_X10_passBlanks
    | with_reducible apply kp_f_X10_readNumber
    | with_reducible apply kp_f_X10_readSign
    | with_reducible apply kp_f_X10_advance_b59
    | intro _ _ _
theorem kp_f_X10_begin {D : Int32 → Nat} {c h : Int32} {o : Nat}   (σ : S5) (q : DP D c h o σ) : Kd (DP D c h o) (f_X10_begin  σ) := by
  unfold f_X10_begin
  repeat' first
    | assumption
    | with_reducible exact kd_none
    | with_reducible apply kd_some
    | with_reducible apply kd_ite
    | with_reducible apply kd_bd
    | with_reducible apply DP_pI _ _ _ (by decide)
    | with_reducible apply kp_f_X10_advance
    | intro _ _ _
theorem kp_f_X4_addConstructor {D : Int32 → Nat} {c h : Int32} {o : Nat}  (a1 : Int64) (a3 : Int32) (σ : S5) (q : DP D c h o σ) : Kd (DP D c h o) (f_X4_addConstructor a1 a3 σ) := by
  unfold f_X4_addConstructor
  repeat' first
    | assumption
    | with_reducible exact kd_none
    | with_reducible apply kd_some
    | with_reducible apply kd_ite
    | with_reducible apply kd_gd
    | with_reducible apply kd_bd
    | with_reducible apply DP_pI _ _ _ (by decide)
    | with_reducible apply DP_pA _ _ _ _ (by decide)
    | with_reducible apply DP_pB
    | intro _ _ _
theorem kp_f_X4_constructorOf_B2 {D : Int32 → Nat} {c h : Int32} {o : Nat} (rec2 : Int64 → Int32 → S5 → Option (Int32 × S5)) (hrec2 : ∀ v0 v1 (σ : S5), DP D c h o σ → Kd (DP D c h o) (rec2 v0 v1 σ)) (v1 : Int64) (v3 : Int32) (σ : S5) (q : DP D c h o σ) : Kd (DP D c h o) (f_X4_constructorOf_B2 rec2 v1 v3 σ) := by
  unfold f_X4_constructorOf_B2
  repeat' first
    | assumption
    | with_reducible exact kd_none
    | with_reducible apply kd_some
    | with_reducible apply kd_ite
    | with_reducible apply kd_gd
    | with_reducible apply kd_bd
    | with_reducible apply hrec2
    | intro _ _ _
theorem kp_f_X4_constructorOf_L2 {D : Int32 → Nat} {c h : Int32} {o : Nat} : ∀ (n : Nat) v0 v1 (σ : S5), DP D c h o σ → Kd (DP D c h o) (f_X4_constructorOf_L2 n v0 v1 σ)
  | 0, _, _, _, _ => kd_none
  | n + 1, v0, v1, σ, q => by
    unfold f_X4_constructorOf_L2
    exact kp_f_X4_constructorOf_B2 _ (kp_f_X4_constructorOf_L2 n) v0 v1 σ q
theorem kp_f_X4_constructorOf {D : Int32 → Nat} {c h : Int32} {o : Nat}  (a1 : Int64) (σ : S5) (q : DP D c h o σ) : Kd (DP D c h o) (f_X4_constructorOf a1 σ) := by
  unfold f_X4_constructorOf
  repeat' first
    | assumption
    | with_reducible exact kd_none
    | with_reducible apply kd_some
    | with_reducible apply kd_ite
    | with_reducible apply kd_bd
    | with_reducible apply kp_f_X4_constructorOf_L2
    | intro _ _ _
theorem kp_f_X4_addFunction {D : Int32 → Nat} {c h : Int32} {o : Nat}  (a1 : Int32) (σ : S5) (q : DP D c h o σ) : Kd (DP D c h o) (f_X4_addFunction a1 σ) := by
  unfold f_X4_addFunction
  repeat' first
    | assumption
    | with_reducible exact kd_none
    | with_reducible apply kd_some
    | with_reducible apply kd_ite
    | with_reducible apply kd_gd
    | with_reducible apply kd_bd
    | with_reducible apply DP_pI _ _ _ (by decide)
    | with_reducible apply DP_pA _ _ _ _ (by decide)
    | intro _ _ _
theorem kp_f_X4_addTop {D : Int32 → Nat} {c h : Int32} {o : Nat}  (a1 : Int64) (a3 : Int32) (σ : S5) (q : DP D c h o σ) : Kd (DP D c h o) (f_X4_addTop a1 a3 σ) := by
  unfold f_X4_addTop
  repeat' first
    | assumption
    | with_reducible exact kd_none
    | with_reducible apply kd_some
    | with_reducible apply kd_ite
    | with_reducible apply kd_gd
    | with_reducible apply kd_bd
    | with_reducible apply DP_pI _ _ _ (by decide)
    | with_reducible apply DP_pB
    | with_reducible apply kp_f_X4_addFunction
    | intro _ _ _
theorem kp_f_X4_topOf_B2 {D : Int32 → Nat} {c h : Int32} {o : Nat} (rec2 : Int64 → Int32 → S5 → Option (Int32 × S5)) (hrec2 : ∀ v0 v1 (σ : S5), DP D c h o σ → Kd (DP D c h o) (rec2 v0 v1 σ)) (v1 : Int64) (v3 : Int32) (σ : S5) (q : DP D c h o σ) : Kd (DP D c h o) (f_X4_topOf_B2 rec2 v1 v3 σ) := by
  unfold f_X4_topOf_B2
  repeat' first
    | assumption
    | with_reducible exact kd_none
    | with_reducible apply kd_some
    | with_reducible apply kd_ite
    | with_reducible apply kd_gd
    | with_reducible apply kd_bd
    | with_reducible apply hrec2
    | intro _ _ _
theorem kp_f_X4_topOf_L2 {D : Int32 → Nat} {c h : Int32} {o : Nat} : ∀ (n : Nat) v0 v1 (σ : S5), DP D c h o σ → Kd (DP D c h o) (f_X4_topOf_L2 n v0 v1 σ)
  | 0, _, _, _, _ => kd_none
  | n + 1, v0, v1, σ, q => by
    unfold f_X4_topOf_L2
    exact kp_f_X4_topOf_B2 _ (kp_f_X4_topOf_L2 n) v0 v1 σ q
theorem kp_f_X4_topOf {D : Int32 → Nat} {c h : Int32} {o : Nat}  (a1 : Int64) (σ : S5) (q : DP D c h o σ) : Kd (DP D c h o) (f_X4_topOf a1 σ) := by
  unfold f_X4_topOf
  repeat' first
    | assumption
    | with_reducible exact kd_none
    | with_reducible apply kd_some
    | with_reducible apply kd_ite
    | with_reducible apply kd_bd
    | with_reducible apply kp_f_X4_topOf_L2
    | intro _ _ _
theorem kp_f_X6_addName {D : Int32 → Nat} {c h : Int32} {o : Nat}  (a1 : Int32) (a2 : Int64) (σ : S5) (q : DP D c h o σ) : Kd (DP D c h o) (f_X6_addName a1 a2 σ) := by
  unfold f_X6_addName
  repeat' first
    | assumption
    | with_reducible exact kd_none
    | with_reducible apply kd_some
    | with_reducible apply kd_ite
    | with_reducible apply kd_gd
    | with_reducible apply kd_bd
    | with_reducible apply DP_pA _ _ _ _ (by decide)
    | with_reducible apply DP_pB
    | intro _ _ _
theorem kp_f_X6_variableIn_B3 {D : Int32 → Nat} {c h : Int32} {o : Nat} (rec3 : Int32 → Int64 → Int32 → S5 → Option (Int32 × S5)) (hrec3 : ∀ v0 v1 v2 (σ : S5), DP D c h o σ → Kd (DP D c h o) (rec3 v0 v1 v2 σ)) (v1 : Int32) (v2 : Int64) (v4 : Int32) (σ : S5) (q : DP D c h o σ) : Kd (DP D c h o) (f_X6_variableIn_B3 rec3 v1 v2 v4 σ) := by
  unfold f_X6_variableIn_B3
  repeat' first
    | assumption
    | with_reducible exact kd_none
    | with_reducible apply kd_some
    | with_reducible apply kd_ite
    | with_reducible apply kd_gd
    | with_reducible apply kd_bd
    | with_reducible apply hrec3
    | intro _ _ _
theorem kp_f_X6_variableIn_L3 {D : Int32 → Nat} {c h : Int32} {o : Nat} : ∀ (n : Nat) v0 v1 v2 (σ : S5), DP D c h o σ → Kd (DP D c h o) (f_X6_variableIn_L3 n v0 v1 v2 σ)
  | 0, _, _, _, _, _ => kd_none
  | n + 1, v0, v1, v2, σ, q => by
    unfold f_X6_variableIn_L3
    exact kp_f_X6_variableIn_B3 _ (kp_f_X6_variableIn_L3 n) v0 v1 v2 σ q
theorem kp_f_X6_variableIn {D : Int32 → Nat} {c h : Int32} {o : Nat}  (a1 : Int32) (a2 : Int64) (σ : S5) (q : DP D c h o σ) : Kd (DP D c h o) (f_X6_variableIn a1 a2 σ) := by
  unfold f_X6_variableIn
  repeat' first
    | assumption
    | with_reducible exact kd_none
    | with_reducible apply kd_some
    | with_reducible apply kd_ite
    | with_reducible apply kd_bd
    | with_reducible apply kp_f_X6_variableIn_L3
    | intro _ _ _
theorem kp_f_X6_has {D : Int32 → Nat} {c h : Int32} {o : Nat}  (a1 : Int32) (a2 : Int64) (σ : S5) (q : DP D c h o σ) : Kd (DP D c h o) (f_X6_has a1 a2 σ) := by
  unfold f_X6_has
  repeat' first
    | assumption
    | with_reducible exact kd_none
    | with_reducible apply kd_some
    | with_reducible apply kd_ite
    | with_reducible apply kd_bd
    | with_reducible apply kp_f_X6_variableIn
    | intro _ _ _
theorem kp_f_X5_refuse {D : Int32 → Nat} {c h : Int32} {o : Nat}  (a1 : Int32) (σ : S5) (q : DP D c h o σ) : Kd (DP D c h o) (f_X5_refuse a1 σ) := by
  unfold f_X5_refuse
  repeat' first
    | assumption
    | with_reducible exact kd_none
    | with_reducible apply kd_some
    | with_reducible apply kd_ite
    | with_reducible apply kd_bd
    | with_reducible apply DP_pI _ _ _ (by decide)
    | with_reducible apply kp_f_X10_stop
    | intro _ _ _
theorem kp_f_X5_expect {D : Int32 → Nat} {c h : Int32} {o : Nat}  (a1 : Int32) (σ : S5) (q : DP D c h o σ) : Kd (DP D c h o) (f_X5_expect a1 σ) := by
  unfold f_X5_expect
  repeat' first
    | assumption
    | with_reducible exact kd_none
    | with_reducible apply kd_some
    | with_reducible apply kd_ite
    | with_reducible apply kd_bd
    | with_reducible apply kp_f_X10_advance
    | with_reducible apply kp_f_X5_refuse
    | intro _ _ _
theorem kp_f_X5_readConstructor_b93 {D : Int32 → Nat} {c h : Int32} {o : Nat}   (σ : S5) (q : DP D c h o σ) : Kd (DP D c h o) (f_X5_readConstructor_b93  σ) := by
  unfold f_X5_readConstructor_b93
  repeat' first
    | assumption
    | with_reducible exact kd_none
    | with_reducible apply kd_some
    | with_reducible apply kd_ite
    | with_reducible apply kd_bd
    | with_reducible apply kp_f_X5_refuse
    | intro _ _ _
theorem kp_f_X5_readConstructor_b64 {D : Int32 → Nat} {c h : Int32} {o : Nat}  (v1 : Int64) (σ : S5) (q : DP D c h o σ) : Kd (DP D c h o) (f_X5_readConstructor_b64 v1 σ) := by
  unfold f_X5_readConstructor_b64
  repeat' first
    | assumption
    | with_reducible exact kd_none
    | with_reducible apply kd_some
    | with_reducible apply kd_ite
    | with_reducible apply kd_bd
    | with_reducible apply kp_f_X10_advance
    | with_reducible apply kp_f_X4_addConstructor
    | with_reducible apply kp_f_X5_readConstructor_b93
    | intro _ _ _
theorem kp_f_X5_readConstructor {D : Int32 → Nat} {c h : Int32} {o : Nat}   (σ : S5) (q : DP D c h o σ) : Kd (DP D c h o) (f_X5_readConstructor  σ) := by
  unfold f_X5_readConstructor
  repeat' first
    | assumption
    | with_reducible exact kd_none
    | with_reducible apply kd_some
    | with_reducible apply kd_ite
    | with_reducible apply kd_bd
    | with_reducible apply kp_f_X4_constructorOf
    | with_reducible apply kp_f_X5_refuse
    | with_reducible apply kp_f_X5_readConstructor_b64
    | intro _ _ _
theorem kp_f_X5_readData_b49 {D : Int32 → Nat} {c h : Int32} {o : Nat}   (σ : S5) (q : DP D c h o σ) : Kd (DP D c h o) (f_X5_readData_b49  σ) := by
  unfold f_X5_readData_b49
  repeat' first
    | assumption
    | with_reducible exact kd_none
    | with_reducible apply kd_some
    | with_reducible apply kd_ite
    | with_reducible apply kd_bd
    | with_reducible apply kp_f_X5_expect
    | intro _ _ _
theorem kp_f_X5_readData_B13 {D : Int32 → Nat} {c h : Int32} {o : Nat} (rec13 : Int32 → S5 → Option (Unit × S5)) (hrec13 : ∀ v0 (σ : S5), DP D c h o σ → Kd (DP D c h o) (rec13 v0 σ)) (v1 : Int32) (σ : S5) (q : DP D c h o σ) : Kd (DP D c h o) (f_X5_readData_B13 rec13 v1 σ) := by
  unfold f_X5_readData_B13
  repeat' first
    | assumption
    | with_reducible exact kd_none
    | with_reducible apply kd_some
    | with_reducible apply kd_ite
    | with_reducible apply kd_bd
    | with_reducible apply kp_f_X10_advance
    | with_reducible apply kp_f_X5_readConstructor
    | with_reducible apply kp_f_X5_readData_b49
    | with_reducible apply hrec13
    | intro _ _ _
theorem kp_f_X5_readData_L13 {D : Int32 → Nat} {c h : Int32} {o : Nat} : ∀ (n : Nat) v0 (σ : S5), DP D c h o σ → Kd (DP D c h o) (f_X5_readData_L13 n v0 σ)
  | 0, _, _, _ => kd_none
  | n + 1, v0, σ, q => by
    unfold f_X5_readData_L13
    exact kp_f_X5_readData_B13 _ (kp_f_X5_readData_L13 n) v0 σ q
theorem kp_f_X5_readData {D : Int32 → Nat} {c h : Int32} {o : Nat}   (σ : S5) (q : DP D c h o σ) : Kd (DP D c h o) (f_X5_readData  σ) := by
  unfold f_X5_readData
  repeat' first
    | assumption
    | with_reducible exact kd_none
    | with_reducible apply kd_some
    | with_reducible apply kd_ite
    | with_reducible apply kd_bd
    | with_reducible apply kp_f_X10_advance
    | with_reducible apply kp_f_X5_readConstructor
    | with_reducible apply kp_f_X5_readData_L13
    | intro _ _ _
theorem kp_f_X5_declare {D : Int32 → Nat} {c h : Int32} {o : Nat}  (a1 : Int32) (σ : S5) (q : DP D c h o σ) : Kd (DP D c h o) (f_X5_declare a1 σ) := by
  unfold f_X5_declare
  repeat' first
    | assumption
    | with_reducible exact kd_none
    | with_reducible apply kd_some
    | with_reducible apply kd_ite
    | with_reducible apply kd_gd
    | with_reducible apply kd_bd
    | with_reducible apply kp_f_X10_advance
    | with_reducible apply kp_f_X6_addName
    | with_reducible apply kp_f_X6_has
    | with_reducible apply kp_f_X5_refuse
    | intro _ _ _
theorem kp_f_X5_readParameters_B2 {D : Int32 → Nat} {c h : Int32} {o : Nat} (rec2 : Int32 → Int32 → S5 → Option (Unit × S5)) (hrec2 : ∀ v0 v1 (σ : S5), DP D c h o σ → Kd (DP D c h o) (rec2 v0 v1 σ)) (v1 : Int32) (v2 : Int32) (σ : S5) (q : DP D c h o σ) : Kd (DP D c h o) (f_X5_readParameters_B2 rec2 v1 v2 σ) := by
  unfold f_X5_readParameters_B2
  repeat' first
    | assumption
    | with_reducible exact kd_none
    | with_reducible apply kd_some
    | with_reducible apply kd_ite
    | with_reducible apply kd_bd
    | with_reducible apply kp_f_X5_declare
    | with_reducible apply hrec2
    | intro _ _ _
theorem kp_f_X5_readParameters_L2 {D : Int32 → Nat} {c h : Int32} {o : Nat} : ∀ (n : Nat) v0 v1 (σ : S5), DP D c h o σ → Kd (DP D c h o) (f_X5_readParameters_L2 n v0 v1 σ)
  | 0, _, _, _, _ => kd_none
  | n + 1, v0, v1, σ, q => by
    unfold f_X5_readParameters_L2
    exact kp_f_X5_readParameters_B2 _ (kp_f_X5_readParameters_L2 n) v0 v1 σ q
theorem kp_f_X5_readParameters {D : Int32 → Nat} {c h : Int32} {o : Nat}  (a1 : Int32) (σ : S5) (q : DP D c h o σ) : Kd (DP D c h o) (f_X5_readParameters a1 σ) := by
  unfold f_X5_readParameters
  repeat' first
    | assumption
    | with_reducible exact kd_none
    | with_reducible apply kd_some
    | with_reducible apply kd_ite
    | with_reducible apply kd_bd
    | with_reducible apply kp_f_X5_readParameters_L2
    | intro _ _ _
theorem kp_f_X5_readWithin {j : Nat} (E : S5 → Option (Int32 × S5)) (hE : ES j E) {D : Int32 → Nat} {c h : Int32} {o : Nat} {r : Int32} (hs : S1 D c r o j) (σ : S5) (q : DP D c h o σ) : Kd (DP D c h o) (f_X5_readWithin E r σ) := by
  have e := q.2.2.1
  unfold f_X5_readWithin
  rw [e]
  exact kd_bd2 (hE _ _ _ _ hs _ (DP_hr q)) (fun _ _ q1 => kd_some (DP_hr q1))
theorem kp_f_X5_readFunction_b62 (E : S5 → Option (Int32 × S5)) (hE : ES 64 E) {D : Int32 → Nat} {c : Int32} (σ : S5) (q : DP D c (-1) 0 σ) : Kd (DP D c (-1) 0) (f_X5_readFunction_b62 E σ) := by
  refine kd_ite (kd_some q) ?_
  intro r τ e
  obtain ⟨a, t, e1, e2⟩ := bd_some e
  obtain ⟨D1, d1, d2, d3, d4, d5, d6⟩ := add_go (w := 1) q (by omega) (Or.inl ⟨rfl, by omega⟩) _ _ e1
  have hs : S1 D1 (gI t 9) a 0 64 := ⟨by omega, d3, d4, by omega⟩
  exact DP_dn q d1 d2 ((kd_bd (kp_f_X4_addTop _ _ _ d6) (fun _ _ q => kd_bd (kp_f_X10_advance _ q) (fun _ _ q => kd_bd (kp_f_X5_readParameters _ _ q) (fun _ _ q => kd_bd (kp_f_X5_expect _ _ q) (fun _ _ q => kd_bd (kp_f_X5_readWithin E hE hs _ q) (fun _ _ q => kd_gd (kd_bd (kp_f_X5_expect _ _ (DP_pA _ _ _ _ (by decide) q)) (fun _ _ q => kd_some q)))))))) _ _ e2)
theorem kp_f_X5_readFunction (E : S5 → Option (Int32 × S5)) (hE : ES 64 E) {D : Int32 → Nat} {c : Int32} (σ : S5) (q : DP D c (-1) 0 σ) : Kd (DP D c (-1) 0) (f_X5_readFunction E σ) := kd_ite (kd_bd (kp_f_X4_topOf _ _ q) (fun _ _ q => kd_ite (kd_ite (kp_f_X5_readFunction_b62 E hE _ q) (kd_bd (kp_f_X5_refuse _ _ q) (fun _ _ q => kp_f_X5_readFunction_b62 E hE _ q))) (kd_bd (kp_f_X5_refuse _ _ q) (fun _ _ q => kp_f_X5_readFunction_b62 E hE _ q)))) (kd_bd (kp_f_X5_refuse _ _ q) (fun _ _ q => kp_f_X5_readFunction_b62 E hE _ q))
theorem kp_f_X5_readText_L90 (E : S5 → Option (Int32 × S5)) (hE : ES 64 E) {D : Int32 → Nat} {c : Int32} : ∀ (n : Nat) (v1 : Int32) (σ : S5), DP D c (-1) 0 σ → Kd (DP D c (-1) 0) (f_X5_readText_L90 E n v1 σ)
  | 0, _, _, _ => kd_none
  | n + 1, _, _, q => kd_ite (kd_some q) (kd_ite (kd_some q) (kd_ite (kd_some q) (kd_bd (kp_f_X5_readFunction E hE _ q) (fun _ _ q => kp_f_X5_readText_L90 E hE n _ _ q))))
theorem kp_f_X5_readText_b84 (E : S5 → Option (Int32 × S5)) (hE : ES 64 E) {D : Int32 → Nat} {c : Int32} (σ : S5) (q : DP D c (-1) 0 σ) : Kd (DP D c (-1) 0) (f_X5_readText_b84 E σ) := kd_bd (kp_f_X5_readFunction E hE _ q) (fun _ _ q => kp_f_X5_readText_L90 E hE _ _ _ q)
theorem kp_f_X5_readText_L55 (E : S5 → Option (Int32 × S5)) (hE : ES 64 E) {D : Int32 → Nat} {c : Int32} : ∀ (n : Nat) (v1 : Int32) (σ : S5), DP D c (-1) 0 σ → Kd (DP D c (-1) 0) (f_X5_readText_L55 E n v1 σ)
  | 0, _, _, _ => kd_none
  | n + 1, _, _, q => kd_ite (kp_f_X5_readText_b84 E hE _ q) (kd_ite (kd_bd (kp_f_X5_readData _ q) (fun _ _ q => kp_f_X5_readText_L55 E hE n _ _ q)) (kp_f_X5_readText_b84 E hE _ q))
theorem es_readE : ∀ j : Nat, ES j (f_readE j)
  | 0 => fun _ _ _ _ _ _ _ => kd_none
  | j + 1 => fun _ _ _ _ hs σ q => kp_f_X5_readExpression _ (es_readE j) hs σ q
/-- depths of scopes when a text has been read -/
theorem dp_text {σ τ : S5} (e : f_X5_readText (f_readE 64) σ = some ((), τ)) : ∃ D : Int32 → Nat, ∀ x, 0 ≤ x → x < gI τ 9 → 1 ≤ D x ∧ D x ≤ 61 ∧ (0 ≤ xA τ 21 x → xA τ 21 x < x ∧ D x = D (xA τ 21 x) + 1) := by
  obtain ⟨_, t1, e1, e2⟩ := bd_some e
  obtain ⟨_, t2, e3, e4⟩ := bd_some e2
  obtain ⟨_, t3, e5, e6⟩ := bd_some e4
  cases e5
  obtain ⟨_, t4, e7, e8⟩ := bd_some e6
  have q0 : DP (fun _ => 0) 0 (-1) 0 (pI (pI (pI (pI (pI (pI (pI t2 9 0) 10 0) 11 0) 12 (-1)) 13 0) 14 0) 15 (-1)) := by
    refine ⟨⟨Int32.le_refl _, Int32.le_refl _, by decide⟩, rfl, rfl, fun _ => 0, fun _ _ _ => rfl, fun w => absurd w (by decide), fun x x0 x1 => absurd x1 (fun w => ?_)⟩
    have w2 : x < 0 := w
    exact absurd x0 (by grind)
  have q1 : Kd (DP (fun _ => 0) 0 (-1) 0) (f_X10_begin (pI (pI (pI (pI (pI (pI (pI t2 9 0) 10 0) 11 0) 12 (-1)) 13 0) 14 0) 15 (-1))) := kp_f_X10_begin _ q0
  obtain ⟨-, -, -, D, -, -, w⟩ := kp_f_X5_readText_L55 _ (es_readE 64) _ _ _ (q1 _ _ e7) _ _ e8
  exact ⟨D, w⟩
