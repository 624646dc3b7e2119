theorem kp_f_X8_signAt_text {D : Int32 → Nat} {c h : Int32} {o : Nat}  (a1 : Int32) (σ : S5) (q : DP D c h o σ) : Kd (DP D c h o) (f_X8_signAt_text a1 σ) := by
  unfold f_X8_signAt_text
  repeat' first
    | assumption
    | with_reducible exact kd_none
    | with_reducible apply kd_some
    | with_reducible apply kd_ite
    | with_reducible apply kd_gd
    | with_reducible apply kd_bd
    | intro _ _ _
theorem kp_f_J0_coder_7d493 {D : Int32 → Nat} {c h : Int32} {o : Nat}  (zi : Nat) (σ : S5) (q : DP D c h o σ) : Kd (DP D c h o) (f_J0_coder_7d493 zi σ) := by
  unfold f_J0_coder_7d493
  repeat' first
    | assumption
    | with_reducible exact kd_none
    | with_reducible apply kd_some
    | with_reducible apply kd_ite
    | with_reducible apply kd_gs
    | with_reducible apply kd_bd
    | intro _ _ _
theorem kp_f_J0_isLatin1_aae02 {D : Int32 → Nat} {c h : Int32} {o : Nat}  (zi : Nat) (σ : S5) (q : DP D c h o σ) : Kd (DP D c h o) (f_J0_isLatin1_aae02 zi σ) := by
  unfold f_J0_isLatin1_aae02
  repeat' first
    | assumption
    | with_reducible exact kd_none
    | with_reducible apply kd_some
    | with_reducible apply kd_ite
    | with_reducible apply kd_gs
    | with_reducible apply kd_bd
    | intro _ _ _
theorem kp_f_J0_length_8abf5 {D : Int32 → Nat} {c h : Int32} {o : Nat}  (zi : Nat) (σ : S5) (q : DP D c h o σ) : Kd (DP D c h o) (f_J0_length_8abf5 zi σ) := by
  unfold f_J0_length_8abf5
  repeat' first
    | assumption
    | with_reducible exact kd_none
    | with_reducible apply kd_some
    | with_reducible apply kd_ite
    | with_reducible apply kd_gs
    | with_reducible apply kd_bd
    | with_reducible apply kp_f_J0_coder_7d493
    | intro _ _ _
theorem kp_f_J1_canEncode_9a6ad {D : Int32 → Nat} {c h : Int32} {o : Nat}  (a0 : Int32) (σ : S5) (q : DP D c h o σ) : Kd (DP D c h o) (f_J1_canEncode_9a6ad a0 σ) := by
  unfold f_J1_canEncode_9a6ad
  repeat' first
    | assumption
    | with_reducible exact kd_none
    | with_reducible apply kd_some
    | with_reducible apply kd_ite
    | with_reducible apply kd_bd
    | intro _ _ _
theorem kp_f_J1_indexOfChar_4cfef_B7 {D : Int32 → Nat} {c h : Int32} {o : Nat} (rec7 : Nat → Int32 → Int32 → Int32 → S5 → Option (Int32 × S5)) (hrec7 : ∀ v0 v1 v2 v3 (σ : S5), DP D c h o σ → Kd (DP D c h o) (rec7 v0 v1 v2 v3 σ)) (zi : Nat) (v3 : Int32) (v4 : Int32) (v5 : Int32) (σ : S5) (q : DP D c h o σ) : Kd (DP D c h o) (f_J1_indexOfChar_4cfef_B7 rec7 zi v3 v4 v5 σ) := by
  unfold f_J1_indexOfChar_4cfef_B7
  repeat' first
    | assumption
    | with_reducible exact kd_none
    | with_reducible apply kd_some
    | with_reducible apply kd_ite
    | with_reducible apply kd_gd
    | with_reducible apply kd_gs
    | with_reducible apply kd_bd
    | with_reducible apply hrec7
    | intro _ _ _
theorem kp_f_J1_indexOfChar_4cfef_L7 {D : Int32 → Nat} {c h : Int32} {o : Nat} : ∀ (n : Nat) v0 v1 v2 v3 (σ : S5), DP D c h o σ → Kd (DP D c h o) (f_J1_indexOfChar_4cfef_L7 n v0 v1 v2 v3 σ)
  | 0, _, _, _, _, _, _ => kd_none
  | n + 1, v0, v1, v2, v3, σ, q => by
    unfold f_J1_indexOfChar_4cfef_L7
    exact kp_f_J1_indexOfChar_4cfef_B7 _ (kp_f_J1_indexOfChar_4cfef_L7 n) v0 v1 v2 v3 σ q
theorem kp_f_J1_indexOfChar_4cfef {D : Int32 → Nat} {c h : Int32} {o : Nat}  (zi : Nat) (a1 : Int32) (a2 : Int32) (a3 : Int32) (σ : S5) (q : DP D c h o σ) : Kd (DP D c h o) (f_J1_indexOfChar_4cfef zi a1 a2 a3 σ) := by
  unfold f_J1_indexOfChar_4cfef
  repeat' first
    | assumption
    | with_reducible exact kd_none
    | with_reducible apply kd_some
    | with_reducible apply kd_ite
    | with_reducible apply kd_bd
    | with_reducible apply kp_f_J1_indexOfChar_4cfef_L7
    | intro _ _ _
theorem kp_f_J1_indexOf_4cfef {D : Int32 → Nat} {c h : Int32} {o : Nat}  (zi : Nat) (a1 : Int32) (a2 : Int32) (a3 : Int32) (σ : S5) (q : DP D c h o σ) : Kd (DP D c h o) (f_J1_indexOf_4cfef zi a1 a2 a3 σ) := by
  unfold f_J1_indexOf_4cfef
  repeat' first
    | assumption
    | with_reducible exact kd_none
    | with_reducible apply kd_some
    | with_reducible apply kd_ite
    | with_reducible apply kd_gs
    | with_reducible apply kd_bd
    | with_reducible apply kp_f_J1_canEncode_9a6ad
    | with_reducible apply kp_f_J1_indexOfChar_4cfef
    | intro _ _ _
theorem kp_f_J0_indexOf_7cf53 {D : Int32 → Nat} {c h : Int32} {o : Nat}  (zi : Nat) (a1 : Int32) (a2 : Int32) (σ : S5) (q : DP D c h o σ) : Kd (DP D c h o) (f_J0_indexOf_7cf53 zi a1 a2 σ) := by
  unfold f_J0_indexOf_7cf53
  repeat' first
    | assumption
    | with_reducible exact kd_none
    | with_reducible apply kd_some
    | with_reducible apply kd_ite
    | with_reducible apply kd_gs
    | with_reducible apply kd_bd
    | with_reducible apply kp_f_J0_isLatin1_aae02
    | with_reducible apply kp_f_J0_length_8abf5
    | with_reducible apply kp_f_J1_indexOf_4cfef
    | intro _ _ _
theorem kp_f_J0_indexOf_0f7a4 {D : Int32 → Nat} {c h : Int32} {o : Nat}  (zi : Nat) (a1 : Int32) (σ : S5) (q : DP D c h o σ) : Kd (DP D c h o) (f_J0_indexOf_0f7a4 zi a1 σ) := by
  unfold f_J0_indexOf_0f7a4
  repeat' first
    | assumption
    | with_reducible exact kd_none
    | with_reducible apply kd_some
    | with_reducible apply kd_ite
    | with_reducible apply kd_gs
    | with_reducible apply kd_bd
    | with_reducible apply kp_f_J0_indexOf_7cf53
    | intro _ _ _
theorem kp_f_X10_isSmall {D : Int32 → Nat} {c h : Int32} {o : Nat}  (a0 : Int32) (σ : S5) (q : DP D c h o σ) : Kd (DP D c h o) (f_X10_isSmall a0 σ) := by
  unfold f_X10_isSmall
  repeat' first
    | assumption
    | with_reducible exact kd_none
    | with_reducible apply kd_some
    | with_reducible apply kd_ite
    | with_reducible apply kd_bd
    | intro _ _ _
theorem kp_f_X10_isGreat {D : Int32 → Nat} {c h : Int32} {o : Nat}  (a0 : Int32) (σ : S5) (q : DP D c h o σ) : Kd (DP D c h o) (f_X10_isGreat a0 σ) := by
  unfold f_X10_isGreat
  repeat' first
    | assumption
    | with_reducible exact kd_none
    | with_reducible apply kd_some
    | with_reducible apply kd_ite
    | with_reducible apply kd_bd
    | intro _ _ _
theorem kp_f_X10_isDigit {D : Int32 → Nat} {c h : Int32} {o : Nat}  (a0 : Int32) (σ : S5) (q : DP D c h o σ) : Kd (DP D c h o) (f_X10_isDigit a0 σ) := by
  unfold f_X10_isDigit
  repeat' first
    | assumption
    | with_reducible exact kd_none
    | with_reducible apply kd_some
    | with_reducible apply kd_ite
    | with_reducible apply kd_bd
    | intro _ _ _
theorem kp_f_X10_stop {D : Int32 → Nat} {c h : Int32} {o : Nat}   (σ : S5) (q : DP D c h o σ) : Kd (DP D c h o) (f_X10_stop  σ) := by
  unfold f_X10_stop
  repeat' first
    | assumption
    | with_reducible exact kd_none
    | with_reducible apply kd_some
    | with_reducible apply kd_ite
    | with_reducible apply kd_bd
    | with_reducible apply DP_pI _ _ _ (by decide)
    | intro _ _ _
theorem kp_f_X10_passBlanks_b61 {D : Int32 → Nat} {c h : Int32} {o : Nat} (rec2 : Int32 → S5 → Option (Unit × S5)) (hrec2 : ∀ v0 (σ : S5), DP D c h o σ → Kd (DP D c h o) (rec2 v0 σ)) (v1 : Int32) (σ : S5) (q : DP D c h o σ) : Kd (DP D c h o) (f_X10_passBlanks_b61 rec2 v1 σ) := by
  unfold f_X10_passBlanks_b61
  repeat' first
    | assumption
    | with_reducible exact kd_none
    | with_reducible apply kd_some
    | with_reducible apply kd_ite
    | with_reducible apply kd_bd
    | with_reducible apply DP_pI _ _ _ (by decide)
    | with_reducible apply hrec2
    | intro _ _ _
theorem kp_f_X10_passBlanks_B2 {D : Int32 → Nat} {c h : Int32} {o : Nat} (rec2 : Int32 → S5 → Option (Unit × S5)) (hrec2 : ∀ v0 (σ : S5), DP D c h o σ → Kd (DP D c h o) (rec2 v0 σ)) (v1 : Int32) (σ : S5) (q : DP D c h o σ) : Kd (DP D c h o) (f_X10_passBlanks_B2 rec2 v1 σ) := by
  unfold f_X10_passBlanks_B2
  repeat' first
    | assumption
    | with_reducible exact kd_none
    | with_reducible apply kd_some
    | with_reducible apply kd_ite
    | with_reducible apply kd_bd
    | with_reducible apply kp_f_X8_signAt_text
    | with_reducible apply kp_f_X10_passBlanks_b61
    | with_reducible apply hrec2
    | intro _ _ _
theorem kp_f_X10_passBlanks_L2 {D : Int32 → Nat} {c h : Int32} {o : Nat} : ∀ (n : Nat) v0 (σ : S5), DP D c h o σ → Kd (DP D c h o) (f_X10_passBlanks_L2 n v0 σ)
  | 0, _, _, _ => kd_none
  | n + 1, v0, σ, q => by
    unfold f_X10_passBlanks_L2
    exact kp_f_X10_passBlanks_B2 _ (kp_f_X10_passBlanks_L2 n) v0 σ q
theorem kp_f_X10_passBlanks {D : Int32 → Nat} {c h : Int32} {o : Nat}   (σ : S5) (q : DP D c h o σ) : Kd (DP D c h o) (f_X10_passBlanks  σ) := by
  unfold f_X10_passBlanks
  repeat' first
    | assumption
    | with_reducible exact kd_none
    | with_reducible apply kd_some
    | with_reducible apply kd_ite
    | with_reducible apply kd_bd
    | with_reducible apply kp_f_X10_passBlanks_L2
    | intro _ _ _
theorem kp_f_X10_kindOfName {D : Int32 → Nat} {c h : Int32} {o : Nat}   (σ : S5) (q : DP D c h o σ) : Kd (DP D c h o) (f_X10_kindOfName  σ) := by
  unfold f_X10_kindOfName
  repeat' first
    | assumption
    | with_reducible exact kd_none
    | with_reducible apply kd_some
    | with_reducible apply kd_ite
    | with_reducible apply kd_bd
    | intro _ _ _
theorem kp_f_X10_readName_b113 {D : Int32 → Nat} {c h : Int32} {o : Nat}  (u0 : Int32) (σ : S5) (q : DP D c h o σ) : Kd (DP D c h o) (f_X10_readName_b113 u0 σ) := by
  unfold f_X10_readName_b113
  repeat' first
    | assumption
    | with_reducible exact kd_none
    | with_reducible apply kd_some
    | with_reducible apply kd_ite
    | with_reducible apply kd_bd
    | with_reducible apply DP_pI _ _ _ (by decide)
    | intro _ _ _
theorem kp_f_X10_readName_b83 {D : Int32 → Nat} {c h : Int32} {o : Nat}  (v1 : Int32) (v2 : Int32) (σ : S5) (q : DP D c h o σ) : Kd (DP D c h o) (f_X10_readName_b83 v1 v2 σ) := by
  unfold f_X10_readName_b83
  repeat' first
    | assumption
    | with_reducible exact kd_none
    | with_reducible apply kd_some
    | with_reducible apply kd_ite
    | with_reducible apply kd_bd
    | with_reducible apply DP_pI _ _ _ (by decide)
    | with_reducible apply kp_f_X10_isGreat
    | with_reducible apply kp_f_X10_kindOfName
    | with_reducible apply kp_f_X10_readName_b113
    | intro _ _ _
theorem kp_f_X10_readName_b41 {D : Int32 → Nat} {c h : Int32} {o : Nat} (rec9 : Int32 → Int32 → Int32 → S5 → Option (Unit × S5)) (hrec9 : ∀ v0 v1 v2 (σ : S5), DP D c h o σ → Kd (DP D c h o) (rec9 v0 v1 v2 σ)) (v1 : Int32) (v2 : Int32) (v3 : Int32) (σ : S5) (q : DP D c h o σ) : Kd (DP D c h o) (f_X10_readName_b41 rec9 v1 v2 v3 σ) := by
  unfold f_X10_readName_b41
  repeat' first
    | assumption
    | with_reducible exact kd_none
    | with_reducible apply kd_some
    | with_reducible apply kd_ite
    | with_reducible apply kd_bd
    | with_reducible apply DP_pI _ _ _ (by decide)
    | with_reducible apply DP_pJ
    | with_reducible apply kp_f_X8_signAt_text
    | with_reducible apply hrec9
    | intro _ _ _
theorem kp_f_X10_readName_B9 {D : Int32 → Nat} {c h : Int32} {o : Nat} (rec9 : Int32 → Int32 → Int32 → S5 → Option (Unit × S5)) (hrec9 : ∀ v0 v1 v2 (σ : S5), DP D c h o σ → Kd (DP D c h o) (rec9 v0 v1 v2 σ)) (v1 : Int32) (v2 : Int32) (v3 : Int32) (σ : S5) (q : DP D c h o σ) : Kd (DP D c h o) (f_X10_readName_B9 rec9 v1 v2 v3 σ) := by
  unfold f_X10_readName_B9
  repeat' first
    | assumption
    | with_reducible exact kd_none
    | with_reducible apply kd_some
    | with_reducible apply kd_ite
    | with_reducible apply kd_bd
    | with_reducible apply kp_f_X10_isSmall
    | with_reducible apply kp_f_X10_isDigit
    | with_reducible apply kp_f_X10_readName_b83
    | with_reducible apply kp_f_X10_readName_b41
    | with_reducible apply hrec9
    | intro _ _ _
theorem kp_f_X10_readName_L9 {D : Int32 → Nat} {c h : Int32} {o : Nat} : ∀ (n : Nat) v0 v1 v2 (σ : S5), DP D c h o σ → Kd (DP D c h o) (f_X10_readName_L9 n v0 v1 v2 σ)
  | 0, _, _, _, _, _ => kd_none
  | n + 1, v0, v1, v2, σ, q => by
    unfold f_X10_readName_L9
    exact kp_f_X10_readName_B9 _ (kp_f_X10_readName_L9 n) v0 v1 v2 σ q
theorem kp_f_X10_readName {D : Int32 → Nat} {c h : Int32} {o : Nat}  (a1 : Int32) (σ : S5) (q : DP D c h o σ) : Kd (DP D c h o) (f_X10_readName a1 σ) := by
  unfold f_X10_readName
  repeat' first
    | assumption
    | with_reducible exact kd_none
    | with_reducible apply kd_some
    | with_reducible apply kd_ite
    | with_reducible apply kd_bd
    | with_reducible apply DP_pJ
    | with_reducible apply kp_f_X10_readName_L9
    | intro _ _ _
theorem kp_f_X10_readNumber_b126 {D : Int32 → Nat} {c h : Int32} {o : Nat}  (u0 : Int32) (σ : S5) (q : DP D c h o σ) : Kd (DP D c h o) (f_X10_readNumber_b126 u0 σ) := by
  unfold f_X10_readNumber_b126
  repeat' first
    | assumption
    | with_reducible exact kd_none
    | with_reducible apply kd_some
    | with_reducible apply kd_ite
    | with_reducible apply kd_bd
    | with_reducible apply DP_pI _ _ _ (by decide)
    | intro _ _ _
theorem kp_f_X10_readNumber_b111 {D : Int32 → Nat} {c h : Int32} {o : Nat}  (v1 : Int64) (v4 : Int32) (u0 : Int32) (σ : S5) (q : DP D c h o σ) : Kd (DP D c h o) (f_X10_readNumber_b111 v1 v4 u0 σ) := by
  unfold f_X10_readNumber_b111
  repeat' first
    | assumption
    | with_reducible exact kd_none
    | with_reducible apply kd_some
    | with_reducible apply kd_ite
    | with_reducible apply kd_bd
    | with_reducible apply DP_pI _ _ _ (by decide)
    | with_reducible apply kp_f_X10_readNumber_b126
    | intro _ _ _
theorem kp_f_X10_readNumber_b98 {D : Int32 → Nat} {c h : Int32} {o : Nat}  (v1 : Int64) (u0 : Int32) (σ : S5) (q : DP D c h o σ) : Kd (DP D c h o) (f_X10_readNumber_b98 v1 u0 σ) := by
  unfold f_X10_readNumber_b98
  repeat' first
    | assumption
    | with_reducible exact kd_none
    | with_reducible apply kd_some
    | with_reducible apply kd_ite
    | with_reducible apply kd_bd
    | with_reducible apply kp_f_X10_readNumber_b111
    | intro _ _ _
theorem kp_f_X10_readNumber_b97 {D : Int32 → Nat} {c h : Int32} {o : Nat}  (v1 : Int64) (σ : S5) (q : DP D c h o σ) : Kd (DP D c h o) (f_X10_readNumber_b97 v1 σ) := by
  unfold f_X10_readNumber_b97
  repeat' first
    | assumption
    | with_reducible exact kd_none
    | with_reducible apply kd_some
    | with_reducible apply kd_ite
    | with_reducible apply kd_bd
    | with_reducible apply kp_f_X10_readNumber_b98
    | intro _ _ _
theorem kp_f_X10_readNumber_b79 {D : Int32 → Nat} {c h : Int32} {o : Nat}  (v1 : Int64) (v3 : Int32) (σ : S5) (q : DP D c h o σ) : Kd (DP D c h o) (f_X10_readNumber_b79 v1 v3 σ) := by
  unfold f_X10_readNumber_b79
  repeat' first
    | assumption
    | with_reducible exact kd_none
    | with_reducible apply kd_some
    | with_reducible apply kd_ite
    | with_reducible apply kd_bd
    | with_reducible apply kp_f_X10_readNumber_b98
    | with_reducible apply kp_f_X10_readNumber_b97
    | intro _ _ _
theorem kp_f_X10_readNumber_b66 {D : Int32 → Nat} {c h : Int32} {o : Nat} (rec4 : Int64 → Int32 → S5 → Option (Unit × S5)) (hrec4 : ∀ v0 v1 (σ : S5), DP D c h o σ → Kd (DP D c h o) (rec4 v0 v1 σ)) (v1 : Int64) (v3 : Int32) (σ : S5) (q : DP D c h o σ) : Kd (DP D c h o) (f_X10_readNumber_b66 rec4 v1 v3 σ) := by
  unfold f_X10_readNumber_b66
  repeat' first
    | assumption
    | with_reducible exact kd_none
    | with_reducible apply kd_some
    | with_reducible apply kd_ite
    | with_reducible apply kd_bd
    | with_reducible apply DP_pI _ _ _ (by decide)
    | with_reducible apply hrec4
    | intro _ _ _
theorem kp_f_X10_readNumber_B4 {D : Int32 → Nat} {c h : Int32} {o : Nat} (rec4 : Int64 → Int32 → S5 → Option (Unit × S5)) (hrec4 : ∀ v0 v1 (σ : S5), DP D c h o σ → Kd (DP D c h o) (rec4 v0 v1 σ)) (v1 : Int64) (v3 : Int32) (σ : S5) (q : DP D c h o σ) : Kd (DP D c h o) (f_X10_readNumber_B4 rec4 v1 v3 σ) := by
  unfold f_X10_readNumber_B4
  repeat' first
    | assumption
    | with_reducible exact kd_none
    | with_reducible apply kd_some
    | with_reducible apply kd_ite
    | with_reducible apply kd_bd
    | with_reducible apply kp_f_X8_signAt_text
    | with_reducible apply kp_f_X10_isDigit
    | with_reducible apply kp_f_X10_readNumber_b79
    | with_reducible apply kp_f_X10_readNumber_b66
    | with_reducible apply hrec4
    | intro _ _ _
theorem kp_f_X10_readNumber_L4 {D : Int32 → Nat} {c h : Int32} {o : Nat} : ∀ (n : Nat) v0 v1 (σ : S5), DP D c h o σ → Kd (DP D c h o) (f_X10_readNumber_L4 n v0 v1 σ)
  | 0, _, _, _, _ => kd_none
  | n + 1, v0, v1, σ, q => by
    unfold f_X10_readNumber_L4
    exact kp_f_X10_readNumber_B4 _ (kp_f_X10_readNumber_L4 n) v0 v1 σ q
theorem kp_f_X10_readNumber {D : Int32 → Nat} {c h : Int32} {o : Nat}   (σ : S5) (q : DP D c h o σ) : Kd (DP D c h o) (f_X10_readNumber  σ) := by
  unfold f_X10_readNumber
  repeat' first
    | assumption
    | with_reducible exact kd_none
    | with_reducible apply kd_some
    | with_reducible apply kd_ite
    | with_reducible apply kd_bd
    | with_reducible apply kp_f_X10_readNumber_L4
    | intro _ _ _
theorem kp_f_X10_readSign_b119 {D : Int32 → Nat} {c h : Int32} {o : Nat}  (u0 : Int32) (u1 : Int32) (σ : S5) (q : DP D c h o σ) : Kd (DP D c h o) (f_X10_readSign_b119 u0 u1 σ) := by
  unfold f_X10_readSign_b119
  repeat' first
    | assumption
    | with_reducible exact kd_none
    | with_reducible apply kd_some
    | with_reducible apply kd_ite
    | with_reducible apply kd_bd
    | with_reducible apply DP_pI _ _ _ (by decide)
    | intro _ _ _
theorem kp_f_X10_readSign_b99 {D : Int32 → Nat} {c h : Int32} {o : Nat}   (σ : S5) (q : DP D c h o σ) : Kd (DP D c h o) (f_X10_readSign_b99  σ) := by
  unfold f_X10_readSign_b99
  repeat' first
    | assumption
    | with_reducible exact kd_none
    | with_reducible apply kd_some
    | with_reducible apply kd_ite
    | with_reducible apply kd_bd
    | with_reducible apply kp_f_X10_readSign_b119
    | intro _ _ _
theorem kp_f_X10_readSign_b96 {D : Int32 → Nat} {c h : Int32} {o : Nat}  (u0 : Int32) (σ : S5) (q : DP D c h o σ) : Kd (DP D c h o) (f_X10_readSign_b96 u0 σ) := by
  unfold f_X10_readSign_b96
  repeat' first
    | assumption
    | with_reducible exact kd_none
    | with_reducible apply kd_some
    | with_reducible apply kd_ite
    | with_reducible apply kd_bd
    | with_reducible apply DP_pI _ _ _ (by decide)
    | with_reducible apply kp_f_X10_readSign_b99
    | intro _ _ _
theorem kp_f_X10_readSign_b80 {D : Int32 → Nat} {c h : Int32} {o : Nat}  (v1 : Int32) (σ : S5) (q : DP D c h o σ) : Kd (DP D c h o) (f_X10_readSign_b80 v1 σ) := by
  unfold f_X10_readSign_b80
  repeat' first
    | assumption
    | with_reducible exact kd_none
    | with_reducible apply kd_some
    | with_reducible apply kd_ite
    | with_reducible apply kd_gs
    | with_reducible apply kd_bd
    | with_reducible apply kp_f_J0_indexOf_0f7a4
    | with_reducible apply kp_f_X10_readSign_b96
    | intro _ _ _
theorem kp_f_X10_readSign_b58 {D : Int32 → Nat} {c h : Int32} {o : Nat}  (v1 : Int32) (v2 : Int32) (σ : S5) (q : DP D c h o σ) : Kd (DP D c h o) (f_X10_readSign_b58 v1 v2 σ) := by
  unfold f_X10_readSign_b58
  repeat' first
    | assumption
    | with_reducible exact kd_none
    | with_reducible apply kd_some
    | with_reducible apply kd_ite
    | with_reducible apply kd_bd
    | with_reducible apply DP_pI _ _ _ (by decide)
    | with_reducible apply kp_f_X10_readSign_b99
    | with_reducible apply kp_f_X10_readSign_b80
    | intro _ _ _
theorem kp_f_X10_readSign_b36 {D : Int32 → Nat} {c h : Int32} {o : Nat}  (v1 : Int32) (v2 : Int32) (σ : S5) (q : DP D c h o σ) : Kd (DP D c h o) (f_X10_readSign_b36 v1 v2 σ) := by
  unfold f_X10_readSign_b36
  repeat' first
    | assumption
    | with_reducible exact kd_none
    | with_reducible apply kd_some
    | with_reducible apply kd_ite
    | with_reducible apply kd_bd
    | with_reducible apply DP_pI _ _ _ (by decide)
    | with_reducible apply kp_f_X10_readSign_b99
    | with_reducible apply kp_f_X10_readSign_b58
    | intro _ _ _
theorem kp_f_X10_readSign {D : Int32 → Nat} {c h : Int32} {o : Nat}  (a1 : Int32) (σ : S5) (q : DP D c h o σ) : Kd (DP D c h o) (f_X10_readSign a1 σ) := by
  unfold f_X10_readSign
  repeat' first
    | assumption
    | with_reducible exact kd_none
    | with_reducible apply kd_some
    | with_reducible apply kd_ite
    | with_reducible apply kd_bd
    | with_reducible apply DP_pI _ _ _ (by decide)
    | with_reducible apply kp_f_X8_signAt_text
    | with_reducible apply kp_f_X10_readSign_b99
    | with_reducible apply kp_f_X10_readSign_b36
    | intro _ _ _
theorem kp_f_X10_advance_b59 {D : Int32 → Nat} {c h : Int32} {o : Nat}  (v1 : Int32) (σ : S5) (q : DP D c h o σ) : Kd (DP D c h o) (f_X10_advance_b59 v1 σ) := by
  unfold f_X10_advance_b59
  repeat' first
    | assumption
    | with_reducible exact kd_none
    | with_reducible apply kd_some
    | with_reducible apply kd_ite
    | with_reducible apply kd_bd
    | with_reducible apply kp_f_X10_readName
    | intro _ _ _
theorem kp_f_X10_advance {D : Int32 → Nat} {c h : Int32} {o : Nat}   (σ : S5) (q : DP D c h o σ) : Kd (DP D c h o) (f_X10_advance  σ) := by
  unfold f_X10_advance
  repeat' first
    | assumption
    | with_reducible exact kd_none
    | with_reducible apply kd_some
    | with_reducible apply kd_ite
    | with_reducible apply kd_bd
    | with_reducible apply DP_pI _ _ _ (by decide)
    | with_reducible apply kp_f_X8_signAt_text
    | with_reducible apply kp_f_X10_isSmall
    | with_reducible apply kp_f_X10_isGreat
    | with_reducible apply kp_f_X10_isDigit
    | with_reducible apply kp_f_X10_passBlanks
    | with_reducible apply kp_f_X10_readNumber
    | with_reducible apply kp_f_X10_readSign
    | with_reducible apply kp_f_X10_advance_b59
    | intro _ _ _
theorem kp_f_X10_begin {D : Int32 → Nat} {c h : Int32} {o : Nat}   (σ : S5) (q : DP D c h o σ) : Kd (DP D c h o) (f_X10_begin  σ) := by
  unfold f_X10_begin
  repeat' first
    | assumption
    | with_reducible exact kd_none
    | with_reducible apply kd_some
    | with_reducible apply kd_ite
    | with_reducible apply kd_bd
    | with_reducible apply DP_pI _ _ _ (by decide)
    | with_reducible apply kp_f_X10_advance
    | intro _ _ _
theorem kp_f_X9_add {D : Int32 → Nat} {c h : Int32} {o : Nat}  (a1 : Int32) (a2 : Int32) (a3 : Int32) (a4 : Int32) (σ : S5) (q : DP D c h o σ) : Kd (DP D c h o) (f_X9_add a1 a2 a3 a4 σ) := by
  unfold f_X9_add
  repeat' first
    | assumption
    | with_reducible exact kd_none
    | with_reducible apply kd_some
    | with_reducible apply kd_ite
    | with_reducible apply kd_gd
    | with_reducible apply kd_bd
    | with_reducible apply DP_pI _ _ _ (by decide)
    | with_reducible apply DP_pA _ _ _ _ (by decide)
    | intro _ _ _
theorem kp_f_X9_addLeaf {D : Int32 → Nat} {c h : Int32} {o : Nat}  (a1 : Int32) (a2 : Int32) (σ : S5) (q : DP D c h o σ) : Kd (DP D c h o) (f_X9_addLeaf a1 a2 σ) := by
  unfold f_X9_addLeaf
  repeat' first
    | assumption
    | with_reducible exact kd_none
    | with_reducible apply kd_some
    | with_reducible apply kd_ite
    | with_reducible apply kd_bd
    | with_reducible apply kp_f_X9_add
    | intro _ _ _
theorem kp_f_X4_addConstructor {D : Int32 → Nat} {c h : Int32} {o : Nat}  (a1 : Int64) (a3 : Int32) (σ : S5) (q : DP D c h o σ) : Kd (DP D c h o) (f_X4_addConstructor a1 a3 σ) := by
  unfold f_X4_addConstructor
  repeat' first
    | assumption
    | with_reducible exact kd_none
    | with_reducible apply kd_some
    | with_reducible apply kd_ite
    | with_reducible apply kd_gd
    | with_reducible apply kd_bd
    | with_reducible apply DP_pI _ _ _ (by decide)
    | with_reducible apply DP_pA _ _ _ _ (by decide)
    | with_reducible apply DP_pB
    | intro _ _ _
theorem kp_f_X4_constructorOf_B2 {D : Int32 → Nat} {c h : Int32} {o : Nat} (rec2 : Int64 → Int32 → S5 → Option (Int32 × S5)) (hrec2 : ∀ v0 v1 (σ : S5), DP D c h o σ → Kd (DP D c h o) (rec2 v0 v1 σ)) (v1 : Int64) (v3 : Int32) (σ : S5) (q : DP D c h o σ) : Kd (DP D c h o) (f_X4_constructorOf_B2 rec2 v1 v3 σ) := by
  unfold f_X4_constructorOf_B2
  repeat' first
    | assumption
    | with_reducible exact kd_none
    | with_reducible apply kd_some
    | with_reducible apply kd_ite
    | with_reducible apply kd_gd
    | with_reducible apply kd_bd
    | with_reducible apply hrec2
    | intro _ _ _
theorem kp_f_X4_constructorOf_L2 {D : Int32 → Nat} {c h : Int32} {o : Nat} : ∀ (n : Nat) v0 v1 (σ : S5), DP D c h o σ → Kd (DP D c h o) (f_X4_constructorOf_L2 n v0 v1 σ)
  | 0, _, _, _, _ => kd_none
  | n + 1, v0, v1, σ, q => by
    unfold f_X4_constructorOf_L2
    exact kp_f_X4_constructorOf_B2 _ (kp_f_X4_constructorOf_L2 n) v0 v1 σ q
theorem kp_f_X4_constructorOf {D : Int32 → Nat} {c h : Int32} {o : Nat}  (a1 : Int64) (σ : S5) (q : DP D c h o σ) : Kd (DP D c h o) (f_X4_constructorOf a1 σ) := by
  unfold f_X4_constructorOf
  repeat' first
    | assumption
    | with_reducible exact kd_none
    | with_reducible apply kd_some
    | with_reducible apply kd_ite
    | with_reducible apply kd_bd
    | with_reducible apply kp_f_X4_constructorOf_L2
    | intro _ _ _
theorem kp_f_X4_addFunction {D : Int32 → Nat} {c h : Int32} {o : Nat}  (a1 : Int32) (σ : S5) (q : DP D c h o σ) : Kd (DP D c h o) (f_X4_addFunction a1 σ) := by
  unfold f_X4_addFunction
  repeat' first
    | assumption
    | with_reducible exact kd_none
    | with_reducible apply kd_some
    | with_reducible apply kd_ite
    | with_reducible apply kd_gd
    | with_reducible apply kd_bd
    | with_reducible apply DP_pI _ _ _ (by decide)
    | with_reducible apply DP_pA _ _ _ _ (by decide)
    | intro _ _ _
theorem kp_f_X4_addTop {D : Int32 → Nat} {c h : Int32} {o : Nat}  (a1 : Int64) (a3 : Int32) (σ : S5) (q : DP D c h o σ) : Kd (DP D c h o) (f_X4_addTop a1 a3 σ) := by
  unfold f_X4_addTop
  repeat' first
    | assumption
    | with_reducible exact kd_none
    | with_reducible apply kd_some
    | with_reducible apply kd_ite
    | with_reducible apply kd_gd
    | with_reducible apply kd_bd
    | with_reducible apply DP_pI _ _ _ (by decide)
    | with_reducible apply DP_pB
    | with_reducible apply kp_f_X4_addFunction
    | intro _ _ _
theorem kp_f_X4_topOf_B2 {D : Int32 → Nat} {c h : Int32} {o : Nat} (rec2 : Int64 → Int32 → S5 → Option (Int32 × S5)) (hrec2 : ∀ v0 v1 (σ : S5), DP D c h o σ → Kd (DP D c h o) (rec2 v0 v1 σ)) (v1 : Int64) (v3 : Int32) (σ : S5) (q : DP D c h o σ) : Kd (DP D c h o) (f_X4_topOf_B2 rec2 v1 v3 σ) := by
  unfold f_X4_topOf_B2
  repeat' first
    | assumption
    | with_reducible exact kd_none
    | with_reducible apply kd_some
    | with_reducible apply kd_ite
    | with_reducible apply kd_gd
    | with_reducible apply kd_bd
    | with_reducible apply hrec2
    | intro _ _ _
theorem kp_f_X4_topOf_L2 {D : Int32 → Nat} {c h : Int32} {o : Nat} : ∀ (n : Nat) v0 v1 (σ : S5), DP D c h o σ → Kd (DP D c h o) (f_X4_topOf_L2 n v0 v1 σ)
  | 0, _, _, _, _ => kd_none
  | n + 1, v0, v1, σ, q => by
    unfold f_X4_topOf_L2
    exact kp_f_X4_topOf_B2 _ (kp_f_X4_topOf_L2 n) v0 v1 σ q
theorem kp_f_X4_topOf {D : Int32 → Nat} {c h : Int32} {o : Nat}  (a1 : Int64) (σ : S5) (q : DP D c h o σ) : Kd (DP D c h o) (f_X4_topOf a1 σ) := by
  unfold f_X4_topOf
  repeat' first
    | assumption
    | with_reducible exact kd_none
    | with_reducible apply kd_some
    | with_reducible apply kd_ite
    | with_reducible apply kd_bd
    | with_reducible apply kp_f_X4_topOf_L2
    | intro _ _ _
theorem kp_f_X6_addName {D : Int32 → Nat} {c h : Int32} {o : Nat}  (a1 : Int32) (a2 : Int64) (σ : S5) (q : DP D c h o σ) : Kd (DP D c h o) (f_X6_addName a1 a2 σ) := by
  unfold f_X6_addName
  repeat' first
    | assumption
    | with_reducible exact kd_none
    | with_reducible apply kd_some
    | with_reducible apply kd_ite
    | with_reducible apply kd_gd
    | with_reducible apply kd_bd
    | with_reducible apply DP_pA _ _ _ _ (by decide)
    | with_reducible apply DP_pB
    | intro _ _ _
theorem kp_f_X6_variableIn_B3 {D : Int32 → Nat} {c h : Int32} {o : Nat} (rec3 : Int32 → Int64 → Int32 → S5 → Option (Int32 × S5)) (hrec3 : ∀ v0 v1 v2 (σ : S5), DP D c h o σ → Kd (DP D c h o) (rec3 v0 v1 v2 σ)) (v1 : Int32) (v2 : Int64) (v4 : Int32) (σ : S5) (q : DP D c h o σ) : Kd (DP D c h o) (f_X6_variableIn_B3 rec3 v1 v2 v4 σ) := by
  unfold f_X6_variableIn_B3
  repeat' first
    | assumption
    | with_reducible exact kd_none
    | with_reducible apply kd_some
    | with_reducible apply kd_ite
    | with_reducible apply kd_gd
    | with_reducible apply kd_bd
    | with_reducible apply hrec3
    | intro _ _ _
theorem kp_f_X6_variableIn_L3 {D : Int32 → Nat} {c h : Int32} {o : Nat} : ∀ (n : Nat) v0 v1 v2 (σ : S5), DP D c h o σ → Kd (DP D c h o) (f_X6_variableIn_L3 n v0 v1 v2 σ)
  | 0, _, _, _, _, _ => kd_none
  | n + 1, v0, v1, v2, σ, q => by
    unfold f_X6_variableIn_L3
    exact kp_f_X6_variableIn_B3 _ (kp_f_X6_variableIn_L3 n) v0 v1 v2 σ q
theorem kp_f_X6_variableIn {D : Int32 → Nat} {c h : Int32} {o : Nat}  (a1 : Int32) (a2 : Int64) (σ : S5) (q : DP D c h o σ) : Kd (DP D c h o) (f_X6_variableIn a1 a2 σ) := by
  unfold f_X6_variableIn
  repeat' first
    | assumption
    | with_reducible exact kd_none
    | with_reducible apply kd_some
    | with_reducible apply kd_ite
    | with_reducible apply kd_bd
    | with_reducible apply kp_f_X6_variableIn_L3
    | intro _ _ _
theorem kp_f_X6_has {D : Int32 → Nat} {c h : Int32} {o : Nat}  (a1 : Int32) (a2 : Int64) (σ : S5) (q : DP D c h o σ) : Kd (DP D c h o) (f_X6_has a1 a2 σ) := by
  unfold f_X6_has
  repeat' first
    | assumption
    | with_reducible exact kd_none
    | with_reducible apply kd_some
    | with_reducible apply kd_ite
    | with_reducible apply kd_bd
    | with_reducible apply kp_f_X6_variableIn
    | intro _ _ _
theorem kp_f_X6_addUse {D : Int32 → Nat} {c h : Int32} {o : Nat}  (a1 : Int64) (a3 : Int32) (a4 : Int32) (a5 : Int32) (σ : S5) (q : DP D c h o σ) : Kd (DP D c h o) (f_X6_addUse a1 a3 a4 a5 σ) := by
  unfold f_X6_addUse
  repeat' first
    | assumption
    | with_reducible exact kd_none
    | with_reducible apply kd_some
    | with_reducible apply kd_ite
    | with_reducible apply kd_gd
    | with_reducible apply kd_bd
    | with_reducible apply DP_pI _ _ _ (by decide)
    | with_reducible apply DP_pA _ _ _ _ (by decide)
    | with_reducible apply DP_pB
    | intro _ _ _
theorem kp_f_X5_refuse {D : Int32 → Nat} {c h : Int32} {o : Nat}  (a1 : Int32) (σ : S5) (q : DP D c h o σ) : Kd (DP D c h o) (f_X5_refuse a1 σ) := by
  unfold f_X5_refuse
  repeat' first
    | assumption
    | with_reducible exact kd_none
    | with_reducible apply kd_some
    | with_reducible apply kd_ite
    | with_reducible apply kd_bd
    | with_reducible apply DP_pI _ _ _ (by decide)
    | with_reducible apply kp_f_X10_stop
    | intro _ _ _
theorem kp_f_X5_expect {D : Int32 → Nat} {c h : Int32} {o : Nat}  (a1 : Int32) (σ : S5) (q : DP D c h o σ) : Kd (DP D c h o) (f_X5_expect a1 σ) := by
  unfold f_X5_expect
  repeat' first
    | assumption
    | with_reducible exact kd_none
    | with_reducible apply kd_some
    | with_reducible apply kd_ite
    | with_reducible apply kd_bd
    | with_reducible apply kp_f_X10_advance
    | with_reducible apply kp_f_X5_refuse
    | intro _ _ _
theorem kp_f_X5_countPart {D : Int32 → Nat} {c h : Int32} {o : Nat}   (σ : S5) (q : DP D c h o σ) : Kd (DP D c h o) (f_X5_countPart  σ) := by
  unfold f_X5_countPart
  repeat' first
    | assumption
    | with_reducible exact kd_none
    | with_reducible apply kd_some
    | with_reducible apply kd_ite
    | with_reducible apply kd_bd
    | with_reducible apply DP_pI _ _ _ (by decide)
    | with_reducible apply kp_f_X5_refuse
    | intro _ _ _
theorem kp_f_X5_readConstructor_b93 {D : Int32 → Nat} {c h : Int32} {o : Nat}   (σ : S5) (q : DP D c h o σ) : Kd (DP D c h o) (f_X5_readConstructor_b93  σ) := by
  unfold f_X5_readConstructor_b93
  repeat' first
    | assumption
    | with_reducible exact kd_none
    | with_reducible apply kd_some
    | with_reducible apply kd_ite
    | with_reducible apply kd_bd
    | with_reducible apply kp_f_X5_refuse
    | intro _ _ _
theorem kp_f_X5_readConstructor_b64 {D : Int32 → Nat} {c h : Int32} {o : Nat}  (v1 : Int64) (σ : S5) (q : DP D c h o σ) : Kd (DP D c h o) (f_X5_readConstructor_b64 v1 σ) := by
  unfold f_X5_readConstructor_b64
  repeat' first
    | assumption
    | with_reducible exact kd_none
    | with_reducible apply kd_some
    | with_reducible apply kd_ite
    | with_reducible apply kd_bd
    | with_reducible apply kp_f_X10_advance
    | with_reducible apply kp_f_X4_addConstructor
    | with_reducible apply kp_f_X5_readConstructor_b93
    | intro _ _ _
theorem kp_f_X5_readConstructor {D : Int32 → Nat} {c h : Int32} {o : Nat}   (σ : S5) (q : DP D c h o σ) : Kd (DP D c h o) (f_X5_readConstructor  σ) := by
  unfold f_X5_readConstructor
  repeat' first
    | assumption
    | with_reducible exact kd_none
    | with_reducible apply kd_some
    | with_reducible apply kd_ite
    | with_reducible apply kd_bd
    | with_reducible apply kp_f_X4_constructorOf
    | with_reducible apply kp_f_X5_refuse
    | with_reducible apply kp_f_X5_readConstructor_b64
    | intro _ _ _
theorem kp_f_X5_readData_b49 {D : Int32 → Nat} {c h : Int32} {o : Nat}   (σ : S5) (q : DP D c h o σ) : Kd (DP D c h o) (f_X5_readData_b49  σ) := by
  unfold f_X5_readData_b49
  repeat' first
    | assumption
    | with_reducible exact kd_none
    | with_reducible apply kd_some
    | with_reducible apply kd_ite
    | with_reducible apply kd_bd
    | with_reducible apply kp_f_X5_expect
    | intro _ _ _
theorem kp_f_X5_readData_B13 {D : Int32 → Nat} {c h : Int32} {o : Nat} (rec13 : Int32 → S5 → Option (Unit × S5)) (hrec13 : ∀ v0 (σ : S5), DP D c h o σ → Kd (DP D c h o) (rec13 v0 σ)) (v1 : Int32) (σ : S5) (q : DP D c h o σ) : Kd (DP D c h o) (f_X5_readData_B13 rec13 v1 σ) := by
  unfold f_X5_readData_B13
  repeat' first
    | assumption
    | with_reducible exact kd_none
    | with_reducible apply kd_some
    | with_reducible apply kd_ite
    | with_reducible apply kd_bd
    | with_reducible apply kp_f_X10_advance
    | with_reducible apply kp_f_X5_readConstructor
    | with_reducible apply kp_f_X5_readData_b49
    | with_reducible apply hrec13
    | intro _ _ _
theorem kp_f_X5_readData_L13 {D : Int32 → Nat} {c h : Int32} {o : Nat} : ∀ (n : Nat) v0 (σ : S5), DP D c h o σ → Kd (DP D c h o) (f_X5_readData_L13 n v0 σ)
  | 0, _, _, _ => kd_none
  | n + 1, v0, σ, q => by
    unfold f_X5_readData_L13
    exact kp_f_X5_readData_B13 _ (kp_f_X5_readData_L13 n) v0 σ q
theorem kp_f_X5_readData {D : Int32 → Nat} {c h : Int32} {o : Nat}   (σ : S5) (q : DP D c h o σ) : Kd (DP D c h o) (f_X5_readData  σ) := by
  unfold f_X5_readData
  repeat' first
    | assumption
    | with_reducible exact kd_none
    | with_reducible apply kd_some
    | with_reducible apply kd_ite
    | with_reducible apply kd_bd
    | with_reducible apply kp_f_X10_advance
    | with_reducible apply kp_f_X5_readConstructor
    | with_reducible apply kp_f_X5_readData_L13
    | intro _ _ _
theorem kp_f_X5_declare {D : Int32 → Nat} {c h : Int32} {o : Nat}  (a1 : Int32) (σ : S5) (q : DP D c h o σ) : Kd (DP D c h o) (f_X5_declare a1 σ) := by
  unfold f_X5_declare
  repeat' first
    | assumption
    | with_reducible exact kd_none
    | with_reducible apply kd_some
    | with_reducible apply kd_ite
    | with_reducible apply kd_gd
    | with_reducible apply kd_bd
    | with_reducible apply kp_f_X10_advance
    | with_reducible apply kp_f_X6_addName
    | with_reducible apply kp_f_X6_has
    | with_reducible apply kp_f_X5_refuse
    | intro _ _ _
theorem kp_f_X5_readParameters_B2 {D : Int32 → Nat} {c h : Int32} {o : Nat} (rec2 : Int32 → Int32 → S5 → Option (Unit × S5)) (hrec2 : ∀ v0 v1 (σ : S5), DP D c h o σ → Kd (DP D c h o) (rec2 v0 v1 σ)) (v1 : Int32) (v2 : Int32) (σ : S5) (q : DP D c h o σ) : Kd (DP D c h o) (f_X5_readParameters_B2 rec2 v1 v2 σ) := by
  unfold f_X5_readParameters_B2
  repeat' first
    | assumption
    | with_reducible exact kd_none
    | with_reducible apply kd_some
    | with_reducible apply kd_ite
    | with_reducible apply kd_bd
    | with_reducible apply kp_f_X5_declare
    | with_reducible apply hrec2
    | intro _ _ _
theorem kp_f_X5_readParameters_L2 {D : Int32 → Nat} {c h : Int32} {o : Nat} : ∀ (n : Nat) v0 v1 (σ : S5), DP D c h o σ → Kd (DP D c h o) (f_X5_readParameters_L2 n v0 v1 σ)
  | 0, _, _, _, _ => kd_none
  | n + 1, v0, v1, σ, q => by
    unfold f_X5_readParameters_L2
    exact kp_f_X5_readParameters_B2 _ (kp_f_X5_readParameters_L2 n) v0 v1 σ q
theorem kp_f_X5_readParameters {D : Int32 → Nat} {c h : Int32} {o : Nat}  (a1 : Int32) (σ : S5) (q : DP D c h o σ) : Kd (DP D c h o) (f_X5_readParameters a1 σ) := by
  unfold f_X5_readParameters
  repeat' first
    | assumption
    | with_reducible exact kd_none
    | with_reducible apply kd_some
    | with_reducible apply kd_ite
    | with_reducible apply kd_bd
    | with_reducible apply kp_f_X5_readParameters_L2
    | intro _ _ _
theorem kp_f_X5_isAtom_b27 {D : Int32 → Nat} {c h : Int32} {o : Nat}   (σ : S5) (q : DP D c h o σ) : Kd (DP D c h o) (f_X5_isAtom_b27  σ) := by
  unfold f_X5_isAtom_b27
  repeat' first
    | assumption
    | with_reducible exact kd_none
    | with_reducible apply kd_some
    | with_reducible apply kd_ite
    | with_reducible apply kd_bd
    | intro _ _ _
theorem kp_f_X5_isAtom {D : Int32 → Nat} {c h : Int32} {o : Nat}  (a0 : Int32) (σ : S5) (q : DP D c h o σ) : Kd (DP D c h o) (f_X5_isAtom a0 σ) := by
  unfold f_X5_isAtom
  repeat' first
    | assumption
    | with_reducible exact kd_none
    | with_reducible apply kd_some
    | with_reducible apply kd_ite
    | with_reducible apply kd_bd
    | with_reducible apply kp_f_X5_isAtom_b27
    | intro _ _ _
theorem kp_f_X5_atomStands_b98 {D : Int32 → Nat} {c h : Int32} {o : Nat}   (σ : S5) (q : DP D c h o σ) : Kd (DP D c h o) (f_X5_atomStands_b98  σ) := by
  unfold f_X5_atomStands_b98
  repeat' first
    | assumption
    | with_reducible exact kd_none
    | with_reducible apply kd_some
    | with_reducible apply kd_ite
    | with_reducible apply kd_bd
    | intro _ _ _
theorem kp_f_X5_atomStands_b93 {D : Int32 → Nat} {c h : Int32} {o : Nat}   (σ : S5) (q : DP D c h o σ) : Kd (DP D c h o) (f_X5_atomStands_b93  σ) := by
  unfold f_X5_atomStands_b93
  repeat' first
    | assumption
    | with_reducible exact kd_none
    | with_reducible apply kd_some
    | with_reducible apply kd_ite
    | with_reducible apply kd_bd
    | with_reducible apply kp_f_X5_refuse
    | with_reducible apply kp_f_X5_atomStands_b98
    | intro _ _ _
theorem kp_f_X5_atomStands_b56 {D : Int32 → Nat} {c h : Int32} {o : Nat}   (σ : S5) (q : DP D c h o σ) : Kd (DP D c h o) (f_X5_atomStands_b56  σ) := by
  unfold f_X5_atomStands_b56
  repeat' first
    | assumption
    | with_reducible exact kd_none
    | with_reducible apply kd_some
    | with_reducible apply kd_ite
    | with_reducible apply kd_bd
    | with_reducible apply kp_f_X5_atomStands_b98
    | intro _ _ _
theorem kp_f_X5_atomStands {D : Int32 → Nat} {c h : Int32} {o : Nat}   (σ : S5) (q : DP D c h o σ) : Kd (DP D c h o) (f_X5_atomStands  σ) := by
  unfold f_X5_atomStands
  repeat' first
    | assumption
    | with_reducible exact kd_none
    | with_reducible apply kd_some
    | with_reducible apply kd_ite
    | with_reducible apply kd_gd
    | with_reducible apply kd_bd
    | with_reducible apply kp_f_X4_constructorOf
    | with_reducible apply kp_f_X5_refuse
    | with_reducible apply kp_f_X5_isAtom
    | with_reducible apply kp_f_X5_atomStands_b98
    | with_reducible apply kp_f_X5_atomStands_b93
    | with_reducible apply kp_f_X5_atomStands_b56
    | intro _ _ _
theorem kp_f_X5_readSign {D : Int32 → Nat} {c h : Int32} {o : Nat}   (σ : S5) (q : DP D c h o σ) : Kd (DP D c h o) (f_X5_readSign  σ) := by
  unfold f_X5_readSign
  repeat' first
    | assumption
    | with_reducible exact kd_none
    | with_reducible apply kd_some
    | with_reducible apply kd_ite
    | with_reducible apply kd_bd
    | with_reducible apply kp_f_X10_advance
    | with_reducible apply kp_f_X5_countPart
    | intro _ _ _
theorem kp_f_X5_join {D : Int32 → Nat} {c h : Int32} {o : Nat}  (a1 : Int32) (a2 : Int32) (a3 : Int32) (σ : S5) (q : DP D c h o σ) : Kd (DP D c h o) (f_X5_join a1 a2 a3 σ) := by
  unfold f_X5_join
  repeat' first
    | assumption
    | with_reducible exact kd_none
    | with_reducible apply kd_some
    | with_reducible apply kd_ite
    | with_reducible apply kd_gd
    | with_reducible apply kd_bd
    | with_reducible apply DP_pA _ _ _ _ (by decide)
    | with_reducible apply kp_f_X9_add
    | intro _ _ _
theorem kp_f_X5_readAtom_b185 (E : S5 → Option (Int32 × S5)) {D : Int32 → Nat} {c h : Int32} {o : Nat} (v2 : Int32) (σ : S5) (q : DP D c h o σ) : Kd (DP D c h o) (f_X5_readAtom_b185 E v2 σ) := kd_bd (kp_f_X10_advance _ q) (fun _ _ q => kd_some q)
theorem kp_f_X5_readAtom {j : Nat} (E : S5 → Option (Int32 × S5)) (hE : ES j E) {D : Int32 → Nat} {c h : Int32} {o : Nat} (hs : S1 D c h o (j + 1)) (σ : S5) (q : DP D c h o σ) : Kd (DP D c h o) (f_X5_readAtom E σ) := by
  unfold f_X5_readAtom
  refine kd_ite (kd_some q) (kd_ite ?_ ?_)
  · exact kd_bd2 (kp_f_X10_advance _ (DP_up q)) (fun _ _ q1 => kd_bd2 (hE _ _ _ _ hs.up _ q1) (fun _ _ q2 => kd_bd2 (kp_f_X5_expect _ _ q2) (fun _ _ q3 => kd_some (DP_cl q3))))
  · repeat' first
      | assumption
      | with_reducible apply kd_some
      | with_reducible apply kd_ite
      | with_reducible apply kd_bd
      | with_reducible apply kp_f_X5_countPart
      | with_reducible apply kp_f_X9_addLeaf
      | with_reducible apply kp_f_X6_addUse
      | with_reducible apply kp_f_X4_constructorOf
      | with_reducible apply kp_f_X5_readAtom_b185 E
      | intro _ _ _
theorem kp_f_X5_readBuild_b81 {j : Nat} (E : S5 → Option (Int32 × S5)) (hE : ES j E) {D : Int32 → Nat} {c h : Int32} {o : Nat} (hs : S1 D c h o (j + 1))  (v1 : Int32) (v2 : Int32) (σ : S5) (q : DP D c h o σ) : Kd (DP D c h o) (f_X5_readBuild_b81 E v1 v2 σ) := by
  unfold f_X5_readBuild_b81
  repeat' first
    | assumption
    | with_reducible exact kd_none
    | with_reducible apply kd_some
    | with_reducible apply kd_ite
    | with_reducible apply kd_bd
    | with_reducible apply kp_f_X9_add
    | with_reducible apply hE _ _ _ _ hs.dn
    | intro _ _ _
theorem kp_f_X5_readBuild_b72 {j : Nat} (E : S5 → Option (Int32 × S5)) (hE : ES j E) {D : Int32 → Nat} {c h : Int32} {o : Nat} (hs : S1 D c h o (j + 1)) (rec14 : Int32 → Int32 → Int32 → Int32 → S5 → Option (Int32 × S5)) (hrec14 : ∀ v0 v1 v2 v3 (σ : S5), DP D c h o σ → Kd (DP D c h o) (rec14 v0 v1 v2 v3 σ)) (v1 : Int32) (v2 : Int32) (v4 : Int32) (v5 : Int32) (σ : S5) (q : DP D c h o σ) : Kd (DP D c h o) (f_X5_readBuild_b72 E rec14 v1 v2 v4 v5 σ) := by
  unfold f_X5_readBuild_b72
  repeat' first
    | assumption
    | with_reducible exact kd_none
    | with_reducible apply kd_some
    | with_reducible apply kd_ite
    | with_reducible apply kd_bd
    | with_reducible apply hE _ _ _ _ hs.dn
    | with_reducible apply hrec14
    | intro _ _ _
theorem kp_f_X5_readBuild_b44 {j : Nat} (E : S5 → Option (Int32 × S5)) (hE : ES j E) {D : Int32 → Nat} {c h : Int32} {o : Nat} (hs : S1 D c h o (j + 1)) (rec14 : Int32 → Int32 → Int32 → Int32 → S5 → Option (Int32 × S5)) (hrec14 : ∀ v0 v1 v2 v3 (σ : S5), DP D c h o σ → Kd (DP D c h o) (rec14 v0 v1 v2 v3 σ)) (v1 : Int32) (v2 : Int32) (v3 : Int32) (v4 : Int32) (σ : S5) (q : DP D c h o σ) : Kd (DP D c h o) (f_X5_readBuild_b44 E rec14 v1 v2 v3 v4 σ) := by
  unfold f_X5_readBuild_b44
  repeat' first
    | assumption
    | with_reducible exact kd_none
    | with_reducible apply kd_some
    | with_reducible apply kd_ite
    | with_reducible apply kd_gd
    | with_reducible apply kd_bd
    | with_reducible apply DP_pA _ _ _ _ (by decide)
    | with_reducible apply kp_f_X5_readAtom E hE hs
    | with_reducible apply kp_f_X5_readBuild_b72 E hE hs
    | with_reducible apply hE _ _ _ _ hs.dn
    | with_reducible apply hrec14
    | intro _ _ _
theorem kp_f_X5_readBuild_B14 {j : Nat} (E : S5 → Option (Int32 × S5)) (hE : ES j E) {D : Int32 → Nat} {c h : Int32} {o : Nat} (hs : S1 D c h o (j + 1)) (rec14 : Int32 → Int32 → Int32 → Int32 → S5 → Option (Int32 × S5)) (hrec14 : ∀ v0 v1 v2 v3 (σ : S5), DP D c h o σ → Kd (DP D c h o) (rec14 v0 v1 v2 v3 σ)) (v1 : Int32) (v2 : Int32) (v3 : Int32) (v4 : Int32) (σ : S5) (q : DP D c h o σ) : Kd (DP D c h o) (f_X5_readBuild_B14 E rec14 v1 v2 v3 v4 σ) := by
  unfold f_X5_readBuild_B14
  repeat' first
    | assumption
    | with_reducible exact kd_none
    | with_reducible apply kd_some
    | with_reducible apply kd_ite
    | with_reducible apply kd_gd
    | with_reducible apply kd_bd
    | with_reducible apply kp_f_X5_countPart
    | with_reducible apply kp_f_X5_atomStands
    | with_reducible apply kp_f_X5_readBuild_b81 E hE hs
    | with_reducible apply kp_f_X5_readBuild_b44 E hE hs
    | with_reducible apply hE _ _ _ _ hs.dn
    | with_reducible apply hrec14
    | intro _ _ _
theorem kp_f_X5_readBuild_L14 {j : Nat} (E : S5 → Option (Int32 × S5)) (hE : ES j E) {D : Int32 → Nat} {c h : Int32} {o : Nat} (hs : S1 D c h o (j + 1)) : ∀ (n : Nat) v0 v1 v2 v3 (σ : S5), DP D c h o σ → Kd (DP D c h o) (f_X5_readBuild_L14 E n v0 v1 v2 v3 σ)
  | 0, _, _, _, _, _, _ => kd_none
  | n + 1, v0, v1, v2, v3, σ, q => by
    unfold f_X5_readBuild_L14
    exact kp_f_X5_readBuild_B14 E hE hs _ (kp_f_X5_readBuild_L14 E hE hs n) v0 v1 v2 v3 σ q
theorem kp_f_X5_readBuild {j : Nat} (E : S5 → Option (Int32 × S5)) (hE : ES j E) {D : Int32 → Nat} {c h : Int32} {o : Nat} (hs : S1 D c h o (j + 1))  (a1 : Int32) (σ : S5) (q : DP D c h o σ) : Kd (DP D c h o) (f_X5_readBuild E a1 σ) := by
  unfold f_X5_readBuild
  repeat' first
    | assumption
    | with_reducible exact kd_none
    | with_reducible apply kd_some
    | with_reducible apply kd_ite
    | with_reducible apply kd_bd
    | with_reducible apply kp_f_X10_advance
    | with_reducible apply kp_f_X5_readBuild_L14 E hE hs
    | with_reducible apply hE _ _ _ _ hs.dn
    | intro _ _ _
theorem kp_f_X5_readApplication_b139 {j : Nat} (E : S5 → Option (Int32 × S5)) (hE : ES j E) {D : Int32 → Nat} {c h : Int32} {o : Nat} (hs : S1 D c h o (j + 1))  (v1 : Int32) (v3 : Int32) (σ : S5) (q : DP D c h o σ) : Kd (DP D c h o) (f_X5_readApplication_b139 E v1 v3 σ) := by
  unfold f_X5_readApplication_b139
  repeat' first
    | assumption
    | with_reducible exact kd_none
    | with_reducible apply kd_some
    | with_reducible apply kd_ite
    | with_reducible apply kd_bd
    | with_reducible apply kp_f_X9_add
    | with_reducible apply hE _ _ _ _ hs.dn
    | intro _ _ _
theorem kp_f_X5_readApplication_b113 {j : Nat} (E : S5 → Option (Int32 × S5)) (hE : ES j E) {D : Int32 → Nat} {c h : Int32} {o : Nat} (hs : S1 D c h o (j + 1)) (rec67 : Int32 → Int32 → Int32 → S5 → Option (Int32 × S5)) (hrec67 : ∀ v0 v1 v2 (σ : S5), DP D c h o σ → Kd (DP D c h o) (rec67 v0 v1 v2 σ)) (v1 : Int32) (v2 : Int32) (v3 : Int32) (σ : S5) (q : DP D c h o σ) : Kd (DP D c h o) (f_X5_readApplication_b113 E rec67 v1 v2 v3 σ) := by
  unfold f_X5_readApplication_b113
  repeat' first
    | assumption
    | with_reducible exact kd_none
    | with_reducible apply kd_some
    | with_reducible apply kd_ite
    | with_reducible apply kd_gd
    | with_reducible apply kd_bd
    | with_reducible apply DP_pA _ _ _ _ (by decide)
    | with_reducible apply kp_f_X5_readAtom E hE hs
    | with_reducible apply hE _ _ _ _ hs.dn
    | with_reducible apply hrec67
    | intro _ _ _
theorem kp_f_X5_readApplication_B67 {j : Nat} (E : S5 → Option (Int32 × S5)) (hE : ES j E) {D : Int32 → Nat} {c h : Int32} {o : Nat} (hs : S1 D c h o (j + 1)) (rec67 : Int32 → Int32 → Int32 → S5 → Option (Int32 × S5)) (hrec67 : ∀ v0 v1 v2 (σ : S5), DP D c h o σ → Kd (DP D c h o) (rec67 v0 v1 v2 σ)) (v1 : Int32) (v2 : Int32) (v3 : Int32) (σ : S5) (q : DP D c h o σ) : Kd (DP D c h o) (f_X5_readApplication_B67 E rec67 v1 v2 v3 σ) := by
  unfold f_X5_readApplication_B67
  repeat' first
    | assumption
    | with_reducible exact kd_none
    | with_reducible apply kd_some
    | with_reducible apply kd_ite
    | with_reducible apply kd_bd
    | with_reducible apply kp_f_X5_refuse
    | with_reducible apply kp_f_X5_countPart
    | with_reducible apply kp_f_X5_isAtom
    | with_reducible apply kp_f_X5_atomStands
    | with_reducible apply kp_f_X5_readApplication_b139 E hE hs
    | with_reducible apply kp_f_X5_readApplication_b113 E hE hs
    | with_reducible apply hE _ _ _ _ hs.dn
    | with_reducible apply hrec67
    | intro _ _ _
theorem kp_f_X5_readApplication_L67 {j : Nat} (E : S5 → Option (Int32 × S5)) (hE : ES j E) {D : Int32 → Nat} {c h : Int32} {o : Nat} (hs : S1 D c h o (j + 1)) : ∀ (n : Nat) v0 v1 v2 (σ : S5), DP D c h o σ → Kd (DP D c h o) (f_X5_readApplication_L67 E n v0 v1 v2 σ)
  | 0, _, _, _, _, _ => kd_none
  | n + 1, v0, v1, v2, σ, q => by
    unfold f_X5_readApplication_L67
    exact kp_f_X5_readApplication_B67 E hE hs _ (kp_f_X5_readApplication_L67 E hE hs n) v0 v1 v2 σ q
theorem kp_f_X5_readApplication_b49 {j : Nat} (E : S5 → Option (Int32 × S5)) (hE : ES j E) {D : Int32 → Nat} {c h : Int32} {o : Nat} (hs : S1 D c h o (j + 1))   (σ : S5) (q : DP D c h o σ) : Kd (DP D c h o) (f_X5_readApplication_b49 E  σ) := by
  unfold f_X5_readApplication_b49
  repeat' first
    | assumption
    | with_reducible exact kd_none
    | with_reducible apply kd_some
    | with_reducible apply kd_ite
    | with_reducible apply kd_bd
    | with_reducible apply kp_f_X5_atomStands
    | with_reducible apply kp_f_X5_readAtom E hE hs
    | with_reducible apply kp_f_X5_readApplication_L67 E hE hs
    | with_reducible apply hE _ _ _ _ hs.dn
    | intro _ _ _
theorem kp_f_X5_readApplication {j : Nat} (E : S5 → Option (Int32 × S5)) (hE : ES j E) {D : Int32 → Nat} {c h : Int32} {o : Nat} (hs : S1 D c h o (j + 1))   (σ : S5) (q : DP D c h o σ) : Kd (DP D c h o) (f_X5_readApplication E  σ) := by
  unfold f_X5_readApplication
  repeat' first
    | assumption
    | with_reducible exact kd_none
    | with_reducible apply kd_some
    | with_reducible apply kd_ite
    | with_reducible apply kd_gd
    | with_reducible apply kd_bd
    | with_reducible apply kp_f_X4_constructorOf
    | with_reducible apply kp_f_X5_readBuild E hE hs
    | with_reducible apply kp_f_X5_readApplication_b49 E hE hs
    | with_reducible apply hE _ _ _ _ hs.dn
    | intro _ _ _
theorem kp_f_X5_readProduct_b50 {j : Nat} (E : S5 → Option (Int32 × S5)) (hE : ES j E) {D : Int32 → Nat} {c h : Int32} {o : Nat} (hs : S1 D c h o (j + 1)) (rec7 : Int32 → Int32 → S5 → Option (Int32 × S5)) (hrec7 : ∀ v0 v1 (σ : S5), DP D c h o σ → Kd (DP D c h o) (rec7 v0 v1 σ)) (v1 : Int32) (v2 : Int32) (σ : S5) (q : DP D c h o σ) : Kd (DP D c h o) (f_X5_readProduct_b50 E rec7 v1 v2 σ) := by
  unfold f_X5_readProduct_b50
  repeat' first
    | assumption
    | with_reducible exact kd_none
    | with_reducible apply kd_some
    | with_reducible apply kd_ite
    | with_reducible apply kd_bd
    | with_reducible apply kp_f_X5_readSign
    | with_reducible apply kp_f_X5_join
    | with_reducible apply kp_f_X5_readApplication E hE hs
    | with_reducible apply hE _ _ _ _ hs.dn
    | with_reducible apply hrec7
    | intro _ _ _
theorem kp_f_X5_readProduct_B7 {j : Nat} (E : S5 → Option (Int32 × S5)) (hE : ES j E) {D : Int32 → Nat} {c h : Int32} {o : Nat} (hs : S1 D c h o (j + 1)) (rec7 : Int32 → Int32 → S5 → Option (Int32 × S5)) (hrec7 : ∀ v0 v1 (σ : S5), DP D c h o σ → Kd (DP D c h o) (rec7 v0 v1 σ)) (v1 : Int32) (v2 : Int32) (σ : S5) (q : DP D c h o σ) : Kd (DP D c h o) (f_X5_readProduct_B7 E rec7 v1 v2 σ) := by
  unfold f_X5_readProduct_B7
  repeat' first
    | assumption
    | with_reducible exact kd_none
    | with_reducible apply kd_some
    | with_reducible apply kd_ite
    | with_reducible apply kd_bd
    | with_reducible apply kp_f_X5_readProduct_b50 E hE hs
    | with_reducible apply hE _ _ _ _ hs.dn
    | with_reducible apply hrec7
    | intro _ _ _
theorem kp_f_X5_readProduct_L7 {j : Nat} (E : S5 → Option (Int32 × S5)) (hE : ES j E) {D : Int32 → Nat} {c h : Int32} {o : Nat} (hs : S1 D c h o (j + 1)) : ∀ (n : Nat) v0 v1 (σ : S5), DP D c h o σ → Kd (DP D c h o) (f_X5_readProduct_L7 E n v0 v1 σ)
  | 0, _, _, _, _ => kd_none
  | n + 1, v0, v1, σ, q => by
    unfold f_X5_readProduct_L7
    exact kp_f_X5_readProduct_B7 E hE hs _ (kp_f_X5_readProduct_L7 E hE hs n) v0 v1 σ q
theorem kp_f_X5_readProduct {j : Nat} (E : S5 → Option (Int32 × S5)) (hE : ES j E) {D : Int32 → Nat} {c h : Int32} {o : Nat} (hs : S1 D c h o (j + 1))   (σ : S5) (q : DP D c h o σ) : Kd (DP D c h o) (f_X5_readProduct E  σ) := by
  unfold f_X5_readProduct
  repeat' first
    | assumption
    | with_reducible exact kd_none
    | with_reducible apply kd_some
    | with_reducible apply kd_ite
    | with_reducible apply kd_bd
    | with_reducible apply kp_f_X5_readApplication E hE hs
    | with_reducible apply kp_f_X5_readProduct_L7 E hE hs
    | with_reducible apply hE _ _ _ _ hs.dn
    | intro _ _ _
theorem kp_f_X5_readSum_b38 {j : Nat} (E : S5 → Option (Int32 × S5)) (hE : ES j E) {D : Int32 → Nat} {c h : Int32} {o : Nat} (hs : S1 D c h o (j + 1)) (rec7 : Int32 → Int32 → S5 → Option (Int32 × S5)) (hrec7 : ∀ v0 v1 (σ : S5), DP D c h o σ → Kd (DP D c h o) (rec7 v0 v1 σ)) (v1 : Int32) (v2 : Int32) (σ : S5) (q : DP D c h o σ) : Kd (DP D c h o) (f_X5_readSum_b38 E rec7 v1 v2 σ) := by
  unfold f_X5_readSum_b38
  repeat' first
    | assumption
    | with_reducible exact kd_none
    | with_reducible apply kd_some
    | with_reducible apply kd_ite
    | with_reducible apply kd_bd
    | with_reducible apply kp_f_X5_readSign
    | with_reducible apply kp_f_X5_join
    | with_reducible apply kp_f_X5_readProduct E hE hs
    | with_reducible apply hE _ _ _ _ hs.dn
    | with_reducible apply hrec7
    | intro _ _ _
theorem kp_f_X5_readSum_B7 {j : Nat} (E : S5 → Option (Int32 × S5)) (hE : ES j E) {D : Int32 → Nat} {c h : Int32} {o : Nat} (hs : S1 D c h o (j + 1)) (rec7 : Int32 → Int32 → S5 → Option (Int32 × S5)) (hrec7 : ∀ v0 v1 (σ : S5), DP D c h o σ → Kd (DP D c h o) (rec7 v0 v1 σ)) (v1 : Int32) (v2 : Int32) (σ : S5) (q : DP D c h o σ) : Kd (DP D c h o) (f_X5_readSum_B7 E rec7 v1 v2 σ) := by
  unfold f_X5_readSum_B7
  repeat' first
    | assumption
    | with_reducible exact kd_none
    | with_reducible apply kd_some
    | with_reducible apply kd_ite
    | with_reducible apply kd_bd
    | with_reducible apply kp_f_X5_readSum_b38 E hE hs
    | with_reducible apply hE _ _ _ _ hs.dn
    | with_reducible apply hrec7
    | intro _ _ _
theorem kp_f_X5_readSum_L7 {j : Nat} (E : S5 → Option (Int32 × S5)) (hE : ES j E) {D : Int32 → Nat} {c h : Int32} {o : Nat} (hs : S1 D c h o (j + 1)) : ∀ (n : Nat) v0 v1 (σ : S5), DP D c h o σ → Kd (DP D c h o) (f_X5_readSum_L7 E n v0 v1 σ)
  | 0, _, _, _, _ => kd_none
  | n + 1, v0, v1, σ, q => by
    unfold f_X5_readSum_L7
    exact kp_f_X5_readSum_B7 E hE hs _ (kp_f_X5_readSum_L7 E hE hs n) v0 v1 σ q
theorem kp_f_X5_readSum {j : Nat} (E : S5 → Option (Int32 × S5)) (hE : ES j E) {D : Int32 → Nat} {c h : Int32} {o : Nat} (hs : S1 D c h o (j + 1))   (σ : S5) (q : DP D c h o σ) : Kd (DP D c h o) (f_X5_readSum E  σ) := by
  unfold f_X5_readSum
  repeat' first
    | assumption
    | with_reducible exact kd_none
    | with_reducible apply kd_some
    | with_reducible apply kd_ite
    | with_reducible apply kd_bd
    | with_reducible apply kp_f_X5_readProduct E hE hs
    | with_reducible apply kp_f_X5_readSum_L7 E hE hs
    | with_reducible apply hE _ _ _ _ hs.dn
    | intro _ _ _
theorem kp_f_X5_readComparison_b43 {j : Nat} (E : S5 → Option (Int32 × S5)) (hE : ES j E) {D : Int32 → Nat} {c h : Int32} {o : Nat} (hs : S1 D c h o (j + 1))  (v1 : Int32) (σ : S5) (q : DP D c h o σ) : Kd (DP D c h o) (f_X5_readComparison_b43 E v1 σ) := by
  unfold f_X5_readComparison_b43
  repeat' first
    | assumption
    | with_reducible exact kd_none
    | with_reducible apply kd_some
    | with_reducible apply kd_ite
    | with_reducible apply kd_bd
    | with_reducible apply kp_f_X5_readSign
    | with_reducible apply kp_f_X5_join
    | with_reducible apply kp_f_X5_readSum E hE hs
    | with_reducible apply hE _ _ _ _ hs.dn
    | intro _ _ _
theorem kp_f_X5_readComparison {j : Nat} (E : S5 → Option (Int32 × S5)) (hE : ES j E) {D : Int32 → Nat} {c h : Int32} {o : Nat} (hs : S1 D c h o (j + 1))   (σ : S5) (q : DP D c h o σ) : Kd (DP D c h o) (f_X5_readComparison E  σ) := by
  unfold f_X5_readComparison
  repeat' first
    | assumption
    | with_reducible exact kd_none
    | with_reducible apply kd_some
    | with_reducible apply kd_ite
    | with_reducible apply kd_bd
    | with_reducible apply kp_f_X5_readSum E hE hs
    | with_reducible apply kp_f_X5_readComparison_b43 E hE hs
    | with_reducible apply hE _ _ _ _ hs.dn
    | intro _ _ _
theorem kp_f_X5_readWithin {j : Nat} (E : S5 → Option (Int32 × S5)) (hE : ES j E) {D : Int32 → Nat} {c h : Int32} {o : Nat} {r : Int32} (hs : S1 D c r o j) (σ : S5) (q : DP D c h o σ) : Kd (DP D c h o) (f_X5_readWithin E r σ) := by
  have e := q.2.2.1
  unfold f_X5_readWithin
  rw [e]
  exact kd_bd2 (hE _ _ _ _ hs _ (DP_hr q)) (fun _ _ q1 => kd_some (DP_hr q1))
theorem kp_f_X5_readLifted_b66 {j : Nat} (E : S5 → Option (Int32 × S5)) (hE : ES j E) {D : Int32 → Nat} {c h : Int32} {o : Nat} {v3 : Int32} (hs : S1 D c v3 o j) (u0 : Int32) (σ : S5) (q : DP D c h o σ) : Kd (DP D c h o) (f_X5_readLifted_b66 E v3 u0 σ) := kd_bd (kp_f_X5_expect _ _ q) (fun _ _ q => kd_bd (kp_f_X5_readWithin E hE hs _ q) (fun _ _ q => kd_gd (kd_bd (kp_f_X9_addLeaf _ _ _ (DP_pA _ _ _ _ (by decide) q)) (fun _ _ q => kd_some q))))
theorem kp_f_X5_readLifted_b49 {j : Nat} (E : S5 → Option (Int32 × S5)) (hE : ES j E) {D : Int32 → Nat} {c h : Int32} {o : Nat} {v3 : Int32} (hs : S1 D c v3 o j) (v2 : Int32) (σ : S5) (q : DP D c h o σ) : Kd (DP D c h o) (f_X5_readLifted_b49 E v2 v3 σ) := kd_bd (kp_f_X5_readParameters _ _ q) (fun _ _ q => kd_ite (kp_f_X5_readLifted_b66 E hE hs _ _ q) (kp_f_X5_readLifted_b66 E hE hs _ _ q))
theorem kp_f_X5_readLifted_b17 {j : Nat} (E : S5 → Option (Int32 × S5)) (hE : ES j E) {D : Int32 → Nat} {c h : Int32} {o : Nat} (hs : S0 D c h o j) (v1 u0 : Int32) (σ : S5) (q : DP D c h o σ) : Kd (DP D c h o) (f_X5_readLifted_b17 E v1 u0 σ) := by
  intro r τ e
  obtain ⟨a, t, e1, e2⟩ := bd_some e
  have e15 := q.2.2.1
  rw [e15] at e1
  obtain ⟨D1, d1, d2, d3, d4, d5, d6⟩ := add_go (w := 2 * o + 1) q (by have := hs.2.1; omega) (Or.inr ⟨hs.2.2.1, hs.2.2.2.1, by have := hs.2.2.2.2; omega⟩) _ _ e1
  have hs1 : S1 D1 (gI t 9) a o j := ⟨hs.1, d3, d4, d5⟩
  have key : Kd (DP D1 (gI t 9) h o) (if u0 = 0 then f_X5_readLifted_b49 E u0 a t else bd (f_X10_advance t) (fun _ τ40 => bd (f_X5_declare a τ40) (fun r45 τ45 => f_X5_readLifted_b49 E u0 a τ45))) := kd_ite (kp_f_X5_readLifted_b49 E hE hs1 _ _ d6) (kd_bd (kp_f_X10_advance _ d6) (fun _ _ q => kd_bd (kp_f_X5_declare _ _ q) (fun _ _ q => kp_f_X5_readLifted_b49 E hE hs1 _ _ q)))
  exact DP_dn q d1 d2 (key _ _ e2)
theorem kp_f_X5_readLifted {j : Nat} (E : S5 → Option (Int32 × S5)) (hE : ES j E) {D : Int32 → Nat} {c h : Int32} {o : Nat} (hs : S0 D c h o j) (a1 : Int32) (σ : S5) (q : DP D c h o σ) : Kd (DP D c h o) (f_X5_readLifted E a1 σ) := kd_ite (kp_f_X5_readLifted_b17 E hE hs _ _ _ q) (kp_f_X5_readLifted_b17 E hE hs _ _ _ q)
theorem kp_f_X5_readBinding_b52 (E : S5 → Option (Int32 × S5)) {D : Int32 → Nat} {c h : Int32} {o : Nat} (v2 v3 : Int32) (σ : S5) (q : DP D c h o σ) : Kd (DP D c h o) (f_X5_readBinding_b52 E v2 v3 σ) := kd_bd (kp_f_X9_add _ _ _ _ _ q) (fun _ _ q => kd_some q)
theorem kp_f_X5_readBinding {j : Nat} (E : S5 → Option (Int32 × S5)) (hE : ES j E) {D : Int32 → Nat} {c h : Int32} {o : Nat} (hs : S0 D c h o j) (σ : S5) (q : DP D c h o σ) : Kd (DP D c h o) (f_X5_readBinding E σ) := kd_bd (kp_f_X5_declare _ _ q) (fun _ _ q => kd_ite (kd_bd (kp_f_X5_countPart _ q) (fun _ _ q => kd_bd (kp_f_X5_readLifted E hE hs _ _ q) (fun _ _ q => kp_f_X5_readBinding_b52 E _ _ _ q))) (kd_bd (kp_f_X5_expect _ _ q) (fun _ _ q => kd_bd (hE _ _ _ _ hs.s1 _ q) (fun _ _ q => kp_f_X5_readBinding_b52 E _ _ _ q))))
theorem kp_f_X5_readLet_b114 {j : Nat} (E : S5 → Option (Int32 × S5)) (hE : ES j E) {D : Int32 → Nat} {c h : Int32} {o : Nat} (hs : S1 D c h (o + 1) j) (v1 v2 v3 : Int32) (σ : S5) (q : DP D c h (o + 1) σ) : Kd (DP D c v1 o) (f_X5_readLet_b114 E v1 v2 v3 σ) := kd_bd2 (kp_f_X5_expect _ _ q) (fun _ _ q => kd_bd2 (hE _ _ _ _ hs _ q) (fun _ _ q => kd_gd (kd_bd2 (P := DP D c v1 o) (kp_f_X9_add _ _ _ _ _ (DP_cl2 (DP_hr (DP_pA _ _ _ _ (by decide) q)) q)) (fun _ _ q => kd_some q))))
theorem kp_f_X5_readLet_B61 {j : Nat} (E : S5 → Option (Int32 × S5)) (hE : ES j E) {D : Int32 → Nat} {c h : Int32} {o : Nat} (hs : S0 D c h (o + 1) j) (rec61 : Int32 → Int32 → Int32 → Int32 → Int32 → S5 → Option (Int32 × S5)) (hrec : ∀ v1 v2 v3 v4 v5 σ, DP D c h (o + 1) σ → Kd (DP D c v1 o) (rec61 v1 v2 v3 v4 v5 σ)) (v1 v2 v3 v4 v5 : Int32) (σ : S5) (q : DP D c h (o + 1) σ) : Kd (DP D c v1 o) (f_X5_readLet_B61 E rec61 v1 v2 v3 v4 v5 σ) := kd_ite (kp_f_X5_readLet_b114 E hE hs.s1 _ _ _ _ q) (kd_ite (kd_bd2 (kp_f_X10_advance _ q) (fun _ _ q => kd_bd2 (kp_f_X5_readBinding E hE hs _ q) (fun _ _ q => kd_gd (hrec _ _ _ _ _ _ (DP_pA _ _ _ _ (by decide) q))))) (kp_f_X5_readLet_b114 E hE hs.s1 _ _ _ _ q))
theorem kp_f_X5_readLet_L61 {j : Nat} (E : S5 → Option (Int32 × S5)) (hE : ES j E) {D : Int32 → Nat} {c h : Int32} {o : Nat} (hs : S0 D c h (o + 1) j) : ∀ (n : Nat) (v1 v2 v3 v4 v5 : Int32) (σ : S5), DP D c h (o + 1) σ → Kd (DP D c v1 o) (f_X5_readLet_L61 E n v1 v2 v3 v4 v5 σ)
  | 0, _, _, _, _, _, _, _ => kd_none
  | n + 1, v1, v2, v3, v4, v5, σ, q => kp_f_X5_readLet_B61 E hE hs _ (kp_f_X5_readLet_L61 E hE hs n) v1 v2 v3 v4 v5 σ q
theorem kp_f_X5_readLet {j : Nat} (E : S5 → Option (Int32 × S5)) (hE : ES j E) {D : Int32 → Nat} {c h : Int32} {o : Nat} (hs : S1 D c h o (j + 1)) (σ : S5) (q : DP D c h o σ) : Kd (DP D c h o) (f_X5_readLet E σ) := by
  intro r τ e
  obtain ⟨a, t, e1, e2⟩ := bd_some e
  rcases op_go q (by have := hs.1; omega) e1 with ⟨x, y⟩ | ⟨x, y, z⟩
  · rw [if_pos x] at e2
    cases e2
    exact y
  · rw [if_neg x] at e2
    obtain ⟨_, t2, e3, e4⟩ := bd_some e2
    have q2 := kp_f_X5_countPart _ z _ _ e3
    obtain ⟨r3, t3, e5, e6⟩ := bd_some e4
    have e15 := q2.2.2.1
    rw [e15] at e5 e6
    obtain ⟨D1, d1, d2, d3, d4, d5, d6⟩ := add_go (w := 2 * (o + 1)) q2 (by omega) (Or.inr ⟨hs.2.1, hs.2.2.1, by have := hs.2.2.2; omega⟩) _ _ e5
    have hs0 : S0 D1 (gI t3 9) r3 (o + 1) j := ⟨by have := hs.1; omega, by omega, d3, d4, d5⟩
    have key : Kd (DP D1 (gI t3 9) h o) (bd (f_X10_advance (pI t3 15 r3)) (fun _ τ47 => bd (f_X5_readBinding E τ47) (fun r51 τ51 => f_X5_readLet_L61 E FU h r3 r51 r51 0 τ51))) := kd_bd2 (kp_f_X10_advance _ (DP_hr d6)) (fun _ _ q => kd_bd2 (kp_f_X5_readBinding E hE hs0 _ q) (fun _ _ q => kp_f_X5_readLet_L61 E hE hs0 _ _ _ _ _ _ _ q))
    exact DP_dn q d1 d2 (key _ _ e6)
theorem kp_f_X5_readLambda {j : Nat} (E : S5 → Option (Int32 × S5)) (hE : ES j E) {D : Int32 → Nat} {c h : Int32} {o : Nat} (hs : S1 D c h o (j + 1)) (σ : S5) (q : DP D c h o σ) : Kd (DP D c h o) (f_X5_readLambda E σ) := by
  intro r τ e
  obtain ⟨a, t, e1, e2⟩ := bd_some e
  rcases op_go q (by have := hs.1; omega) e1 with ⟨x, y⟩ | ⟨x, y, z⟩
  · rw [if_pos x] at e2
    cases e2
    exact y
  · rw [if_neg x] at e2
    have hs0 : S0 D c h (o + 1) j := ⟨by have := hs.1; omega, by omega, hs.2.1, hs.2.2.1, by have := hs.2.2.2; omega⟩
    exact (kd_bd2 (kp_f_X5_countPart _ z) (fun _ _ q => kd_bd2 (kp_f_X5_readLifted E hE hs0 _ _ q) (fun _ _ q => kd_some (DP_cl q)))) _ _ e2
theorem kp_f_X5_readAlternative_b214 (E : S5 → Option (Int32 × S5)) {D : Int32 → Nat} {c h : Int32} {o : Nat} (v4 v6 u0 : Int32) (σ : S5) (q : DP D c h o σ) : Kd (DP D c h o) (f_X5_readAlternative_b214 E v4 v6 u0 σ) := kd_bd (kp_f_X9_add _ _ _ _ _ q) (fun _ _ q => kd_some q)
theorem kp_f_X5_readAlternative_b163 {j : Nat} (E : S5 → Option (Int32 × S5)) (hE : ES j E) {D : Int32 → Nat} {c h : Int32} {o : Nat} {v5 : Int32} (hs : S1 D c v5 o j) (v2 v3 v4 : Int32) (σ : S5) (q : DP D c h o σ) : Kd (DP D c h o) (f_X5_readAlternative_b163 E v2 v3 v4 v5 σ) := kd_bd (kp_f_X5_expect _ _ q) (fun _ _ q => kd_bd (kp_f_X5_readWithin E hE hs _ q) (fun _ _ q => kd_ite (kd_bd (kp_f_X9_add _ _ _ _ _ q) (fun _ _ q => kd_some q)) (kd_ite (kp_f_X5_readAlternative_b214 E _ _ _ _ q) (kp_f_X5_readAlternative_b214 E _ _ _ _ q))))
theorem kp_f_X5_readAlternative_B136 {j : Nat} (E : S5 → Option (Int32 × S5)) (hE : ES j E) {D : Int32 → Nat} {c h : Int32} {o : Nat} (rec136 : Int32 → Int32 → Int32 → Int32 → Int32 → S5 → Option (Int32 × S5)) (hrec : ∀ v2 v3 v4 v5 v6 σ, S1 D c v5 o j → DP D c h o σ → Kd (DP D c h o) (rec136 v2 v3 v4 v5 v6 σ)) (v2 v3 v4 v5 v6 : Int32) (σ : S5) (hs : S1 D c v5 o j) (q : DP D c h o σ) : Kd (DP D c h o) (f_X5_readAlternative_B136 E rec136 v2 v3 v4 v5 v6 σ) := kd_gd (kd_ite (kp_f_X5_readAlternative_b163 E hE hs _ _ _ _ q) (kd_bd (kp_f_X5_declare _ _ q) (fun _ _ q => hrec _ _ _ _ _ _ hs q)))
theorem kp_f_X5_readAlternative_L136 {j : Nat} (E : S5 → Option (Int32 × S5)) (hE : ES j E) {D : Int32 → Nat} {c h : Int32} {o : Nat} : ∀ (n : Nat) (v2 v3 v4 v5 v6 : Int32) (σ : S5), S1 D c v5 o j → DP D c h o σ → Kd (DP D c h o) (f_X5_readAlternative_L136 E n v2 v3 v4 v5 v6 σ)
  | 0, _, _, _, _, _, _, _, _ => kd_none
  | n + 1, v2, v3, v4, v5, v6, σ, hs, q => kp_f_X5_readAlternative_B136 E hE _ (kp_f_X5_readAlternative_L136 E hE n) v2 v3 v4 v5 v6 σ hs q
theorem kp_f_X5_readAlternative_b85 {j : Nat} (E : S5 → Option (Int32 × S5)) (hE : ES j E) {D : Int32 → Nat} {c h : Int32} {o : Nat} (hs : S0 D c h o j) (v2 v3 : Int32) (σ : S5) (q : DP D c h o σ) : Kd (DP D c h o) (f_X5_readAlternative_b85 E v2 v3 σ) := by
  intro r τ e
  obtain ⟨_, t, e1, e2⟩ := bd_some e
  have q1 := kp_f_X10_advance _ q _ _ e1
  have e15 := q.2.2.1
  have e15' := q1.2.2.1
  rw [e15, e15'] at e2
  by_cases h3 : v3 = -1
  · rw [if_pos h3] at e2
    exact kp_f_X5_readAlternative_b163 E hE hs.s1 _ _ _ _ q1 _ _ e2
  · rw [if_neg h3] at e2
    obtain ⟨r3, t3, e5, e6⟩ := bd_some e2
    obtain ⟨D1, d1, d2, d3, d4, d5, d6⟩ := add_go (w := 2 * o + 1) q1 (by have := hs.2.1; omega) (Or.inr ⟨hs.2.2.1, hs.2.2.2.1, by have := hs.2.2.2.2; omega⟩) _ _ e5
    exact DP_dn q1 d1 d2 (kp_f_X5_readAlternative_L136 E hE _ _ _ _ _ _ _ ⟨hs.1, d3, d4, d5⟩ d6 _ _ e6)
theorem kp_f_X5_readAlternative_b74 {j : Nat} (E : S5 → Option (Int32 × S5)) (hE : ES j E) {D : Int32 → Nat} {c h : Int32} {o : Nat} (hs : S0 D c h o j)  (v1 : Int32) (v2 : Int32) (v3 : Int32) (σ : S5) (q : DP D c h o σ) : Kd (DP D c h o) (f_X5_readAlternative_b74 E v1 v2 v3 σ) := by
  unfold f_X5_readAlternative_b74
  repeat' first
    | assumption
    | with_reducible exact kd_none
    | with_reducible apply kd_some
    | with_reducible apply kd_ite
    | with_reducible apply kd_bd
    | with_reducible apply kp_f_X5_refuse
    | with_reducible apply kp_f_X5_readAlternative_b85 E hE hs
    | with_reducible apply hE _ _ _ _ hs.dn
    | intro _ _ _
theorem kp_f_X5_readAlternative_b56 {j : Nat} (E : S5 → Option (Int32 × S5)) (hE : ES j E) {D : Int32 → Nat} {c h : Int32} {o : Nat} (hs : S0 D c h o j)  (v1 : Int32) (v2 : Int32) (v3 : Int32) (σ : S5) (q : DP D c h o σ) : Kd (DP D c h o) (f_X5_readAlternative_b56 E v1 v2 v3 σ) := by
  unfold f_X5_readAlternative_b56
  repeat' first
    | assumption
    | with_reducible exact kd_none
    | with_reducible apply kd_some
    | with_reducible apply kd_ite
    | with_reducible apply kd_bd
    | with_reducible apply kp_f_X5_refuse
    | with_reducible apply kp_f_X5_readAlternative_b85 E hE hs
    | with_reducible apply kp_f_X5_readAlternative_b74 E hE hs
    | with_reducible apply hE _ _ _ _ hs.dn
    | intro _ _ _
theorem kp_f_X5_readAlternative_b31 {j : Nat} (E : S5 → Option (Int32 × S5)) (hE : ES j E) {D : Int32 → Nat} {c h : Int32} {o : Nat} (hs : S0 D c h o j)  (v1 : Int32) (v2 : Int32) (u0 : Int32) (σ : S5) (q : DP D c h o σ) : Kd (DP D c h o) (f_X5_readAlternative_b31 E v1 v2 u0 σ) := by
  unfold f_X5_readAlternative_b31
  repeat' first
    | assumption
    | with_reducible exact kd_none
    | with_reducible apply kd_some
    | with_reducible apply kd_ite
    | with_reducible apply kd_bd
    | with_reducible apply kp_f_X5_refuse
    | with_reducible apply kp_f_X5_readAlternative_b85 E hE hs
    | with_reducible apply kp_f_X5_readAlternative_b56 E hE hs
    | with_reducible apply hE _ _ _ _ hs.dn
    | intro _ _ _
theorem kp_f_X5_readAlternative {j : Nat} (E : S5 → Option (Int32 × S5)) (hE : ES j E) {D : Int32 → Nat} {c h : Int32} {o : Nat} (hs : S0 D c h o j)  (a1 : Int32) (σ : S5) (q : DP D c h o σ) : Kd (DP D c h o) (f_X5_readAlternative E a1 σ) := by
  unfold f_X5_readAlternative
  repeat' first
    | assumption
    | with_reducible exact kd_none
    | with_reducible apply kd_some
    | with_reducible apply kd_ite
    | with_reducible apply kd_bd
    | with_reducible apply kp_f_X4_constructorOf
    | with_reducible apply kp_f_X5_readAlternative_b31 E hE hs
    | with_reducible apply hE _ _ _ _ hs.dn
    | intro _ _ _
theorem kp_f_X5_readCase_b107 (E : S5 → Option (Int32 × S5)) {D : Int32 → Nat} {c h : Int32} {o : Nat} (v1 : Int32) (σ : S5) (q : DP D c h (o + 1) σ) : Kd (DP D c h o) (f_X5_readCase_b107 E v1 σ) := kd_bd2 (kp_f_X5_expect _ _ q) (fun _ _ q => kd_bd2 (kp_f_X9_add _ _ _ _ _ (DP_cl q)) (fun _ _ q => kd_some q))
theorem kp_f_X5_readCase_B55 {j : Nat} (E : S5 → Option (Int32 × S5)) (hE : ES j E) {D : Int32 → Nat} {c h : Int32} {o : Nat} (hs : S0 D c h (o + 1) j) (rec55 : Int32 → Int32 → Int32 → S5 → Option (Int32 × S5)) (hrec : ∀ v1 v2 v3 σ, DP D c h (o + 1) σ → Kd (DP D c h o) (rec55 v1 v2 v3 σ)) (v1 v2 v3 : Int32) (σ : S5) (q : DP D c h (o + 1) σ) : Kd (DP D c h o) (f_X5_readCase_B55 E rec55 v1 v2 v3 σ) := kd_ite (kp_f_X5_readCase_b107 E _ _ q) (kd_ite (kd_bd2 (kp_f_X10_advance _ q) (fun _ _ q => kd_bd2 (kp_f_X5_readAlternative E hE hs _ _ q) (fun _ _ q => kd_gd (hrec _ _ _ _ (DP_pA _ _ _ _ (by decide) q))))) (kp_f_X5_readCase_b107 E _ _ q))
theorem kp_f_X5_readCase_L55 {j : Nat} (E : S5 → Option (Int32 × S5)) (hE : ES j E) {D : Int32 → Nat} {c h : Int32} {o : Nat} (hs : S0 D c h (o + 1) j) : ∀ (n : Nat) (v1 v2 v3 : Int32) (σ : S5), DP D c h (o + 1) σ → Kd (DP D c h o) (f_X5_readCase_L55 E n v1 v2 v3 σ)
  | 0, _, _, _, _, _ => kd_none
  | n + 1, v1, v2, v3, σ, q => kp_f_X5_readCase_B55 E hE hs _ (kp_f_X5_readCase_L55 E hE hs n) v1 v2 v3 σ q
theorem kp_f_X5_readCase {j : Nat} (E : S5 → Option (Int32 × S5)) (hE : ES j E) {D : Int32 → Nat} {c h : Int32} {o : Nat} (hs : S1 D c h o (j + 1)) (σ : S5) (q : DP D c h o σ) : Kd (DP D c h o) (f_X5_readCase E σ) := by
  intro r τ e
  obtain ⟨a, t, e1, e2⟩ := bd_some e
  rcases op_go q (by have := hs.1; omega) e1 with ⟨x, y⟩ | ⟨x, y, z⟩
  · rw [if_pos x] at e2
    cases e2
    exact y
  · rw [if_neg x] at e2
    have hs0 : S0 D c h (o + 1) j := ⟨by have := hs.1; omega, by omega, hs.2.1, hs.2.2.1, by have := hs.2.2.2; omega⟩
    exact (kd_bd2 (kp_f_X5_countPart _ z) (fun _ _ q => kd_bd2 (kp_f_X10_advance _ q) (fun _ _ q => kd_bd2 (hE _ _ _ _ hs0.s1 _ q) (fun _ _ q => kd_bd2 (kp_f_X5_expect _ _ q) (fun _ _ q => kd_bd2 (kp_f_X5_expect _ _ q) (fun _ _ q => kd_bd2 (kp_f_X5_readAlternative E hE hs0 _ _ q) (fun _ _ q => kd_gd (kp_f_X5_readCase_L55 E hE hs0 _ _ _ _ _ (DP_pA _ _ _ _ (by decide) q))))))))) _ _ e2
theorem kp_f_X5_readExpression {j : Nat} (E : S5 → Option (Int32 × S5)) (hE : ES j E) {D : Int32 → Nat} {c h : Int32} {o : Nat} (hs : S1 D c h o (j + 1))   (σ : S5) (q : DP D c h o σ) : Kd (DP D c h o) (f_X5_readExpression E  σ) := by
  unfold f_X5_readExpression
  repeat' first
    | assumption
    | with_reducible exact kd_none
    | with_reducible apply kd_some
    | with_reducible apply kd_ite
    | with_reducible apply kd_bd
    | with_reducible apply kp_f_X5_readComparison E hE hs
    | with_reducible apply kp_f_X5_readLet E hE hs
    | with_reducible apply kp_f_X5_readLambda E hE hs
    | with_reducible apply kp_f_X5_readCase E hE hs
    | with_reducible apply hE _ _ _ _ hs.dn
    | intro _ _ _
theorem kp_f_X5_readFunction_b62 (E : S5 → Option (Int32 × S5)) (hE : ES 64 E) {D : Int32 → Nat} {c : Int32} (σ : S5) (q : DP D c (-1) 0 σ) : Kd (DP D c (-1) 0) (f_X5_readFunction_b62 E σ) := by
  refine kd_ite (kd_some q) ?_
  intro r τ e
  obtain ⟨a, t, e1, e2⟩ := bd_some e
  obtain ⟨D1, d1, d2, d3, d4, d5, d6⟩ := add_go (w := 1) q (by omega) (Or.inl ⟨rfl, by omega⟩) _ _ e1
  have hs : S1 D1 (gI t 9) a 0 64 := ⟨by omega, d3, d4, by omega⟩
  exact DP_dn q d1 d2 ((kd_bd (kp_f_X4_addTop _ _ _ d6) (fun _ _ q => kd_bd (kp_f_X10_advance _ q) (fun _ _ q => kd_bd (kp_f_X5_readParameters _ _ q) (fun _ _ q => kd_bd (kp_f_X5_expect _ _ q) (fun _ _ q => kd_bd (kp_f_X5_readWithin E hE hs _ q) (fun _ _ q => kd_gd (kd_bd (kp_f_X5_expect _ _ (DP_pA _ _ _ _ (by decide) q)) (fun _ _ q => kd_some q)))))))) _ _ e2)
theorem kp_f_X5_readFunction (E : S5 → Option (Int32 × S5)) (hE : ES 64 E) {D : Int32 → Nat} {c : Int32} (σ : S5) (q : DP D c (-1) 0 σ) : Kd (DP D c (-1) 0) (f_X5_readFunction E σ) := kd_ite (kd_bd (kp_f_X4_topOf _ _ q) (fun _ _ q => kd_ite (kd_ite (kp_f_X5_readFunction_b62 E hE _ q) (kd_bd (kp_f_X5_refuse _ _ q) (fun _ _ q => kp_f_X5_readFunction_b62 E hE _ q))) (kd_bd (kp_f_X5_refuse _ _ q) (fun _ _ q => kp_f_X5_readFunction_b62 E hE _ q)))) (kd_bd (kp_f_X5_refuse _ _ q) (fun _ _ q => kp_f_X5_readFunction_b62 E hE _ q))
theorem kp_f_X5_readText_L90 (E : S5 → Option (Int32 × S5)) (hE : ES 64 E) {D : Int32 → Nat} {c : Int32} : ∀ (n : Nat) (v1 : Int32) (σ : S5), DP D c (-1) 0 σ → Kd (DP D c (-1) 0) (f_X5_readText_L90 E n v1 σ)
  | 0, _, _, _ => kd_none
  | n + 1, _, _, q => kd_ite (kd_some q) (kd_ite (kd_some q) (kd_ite (kd_some q) (kd_bd (kp_f_X5_readFunction E hE _ q) (fun _ _ q => kp_f_X5_readText_L90 E hE n _ _ q))))
theorem kp_f_X5_readText_b84 (E : S5 → Option (Int32 × S5)) (hE : ES 64 E) {D : Int32 → Nat} {c : Int32} (σ : S5) (q : DP D c (-1) 0 σ) : Kd (DP D c (-1) 0) (f_X5_readText_b84 E σ) := kd_bd (kp_f_X5_readFunction E hE _ q) (fun _ _ q => kp_f_X5_readText_L90 E hE _ _ _ q)
theorem kp_f_X5_readText_L55 (E : S5 → Option (Int32 × S5)) (hE : ES 64 E) {D : Int32 → Nat} {c : Int32} : ∀ (n : Nat) (v1 : Int32) (σ : S5), DP D c (-1) 0 σ → Kd (DP D c (-1) 0) (f_X5_readText_L55 E n v1 σ)
  | 0, _, _, _ => kd_none
  | n + 1, _, _, q => kd_ite (kp_f_X5_readText_b84 E hE _ q) (kd_ite (kd_bd (kp_f_X5_readData _ q) (fun _ _ q => kp_f_X5_readText_L55 E hE n _ _ q)) (kp_f_X5_readText_b84 E hE _ q))
theorem es_readE : ∀ j : Nat, ES j (f_readE j)
  | 0 => fun _ _ _ _ _ _ _ => kd_none
  | j + 1 => fun _ _ _ _ hs σ q => kp_f_X5_readExpression _ (es_readE j) hs σ q
/-- depths of scopes when a text has been read -/
theorem dp_text {σ τ : S5} (e : f_X5_readText (f_readE 64) σ = some ((), τ)) : ∃ D : Int32 → Nat, ∀ x, 0 ≤ x → x < gI τ 9 → 1 ≤ D x ∧ D x ≤ 61 ∧ (0 ≤ xA τ 21 x → xA τ 21 x < x ∧ D x = D (xA τ 21 x) + 1) := by
  obtain ⟨_, t1, e1, e2⟩ := bd_some e
  obtain ⟨_, t2, e3, e4⟩ := bd_some e2
  obtain ⟨_, t3, e5, e6⟩ := bd_some e4
  cases e5
  obtain ⟨_, t4, e7, e8⟩ := bd_some e6
  have q0 : DP (fun _ => 0) 0 (-1) 0 (pI (pI (pI (pI (pI (pI (pI t2 9 0) 10 0) 11 0) 12 (-1)) 13 0) 14 0) 15 (-1)) := by
    refine ⟨⟨Int32.le_refl _, Int32.le_refl _, show (0 : Int32) ≤ 700 from by decide⟩, rfl, rfl, fun _ => 0, fun _ _ _ => rfl, fun w => absurd (show (0 : Int32) < 0 from w) (by decide), fun x x0 x1 => absurd x1 (fun w => ?_)⟩
    have w2 : x < 0 := w
    exact absurd x0 (by grind)
  have q1 : Kd (DP (fun _ => 0) 0 (-1) 0) (f_X10_begin (pI (pI (pI (pI (pI (pI (pI t2 9 0) 10 0) 11 0) 12 (-1)) 13 0) 14 0) 15 (-1))) := kp_f_X10_begin _ q0
  obtain ⟨-, -, -, D, -, -, w⟩ := kp_f_X5_readText_L55 _ (es_readE 64) _ _ _ (q1 _ _ e7) _ _ e8
  exact ⟨D, w⟩
