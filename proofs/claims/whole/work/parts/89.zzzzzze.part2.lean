theorem kq_f_X8_signAt_text {P : S5 → Prop} (hP : Lc P)  (a1 : Int32) (σ : S5) (q : P σ) : Kd (P) (f_X8_signAt_text a1 σ) := by
  unfold f_X8_signAt_text
  repeat' first
    | assumption
    | with_reducible exact kd_none
    | with_reducible apply kd_some
    | with_reducible apply kd_ite
    | with_reducible apply kd_gd
    | with_reducible apply kd_bd
    | intro _ _ _
theorem kq_f_J0_coder_7d493 {P : S5 → Prop} (hP : Lc P)  (zi : Nat) (σ : S5) (q : P σ) : Kd (P) (f_J0_coder_7d493 zi σ) := by
  unfold f_J0_coder_7d493
  repeat' first
    | assumption
    | with_reducible exact kd_none
    | with_reducible apply kd_some
    | with_reducible apply kd_ite
    | with_reducible apply kd_gs
    | with_reducible apply kd_bd
    | intro _ _ _
theorem kq_f_J0_isLatin1_aae02 {P : S5 → Prop} (hP : Lc P)  (zi : Nat) (σ : S5) (q : P σ) : Kd (P) (f_J0_isLatin1_aae02 zi σ) := by
  unfold f_J0_isLatin1_aae02
  repeat' first
    | assumption
    | with_reducible exact kd_none
    | with_reducible apply kd_some
    | with_reducible apply kd_ite
    | with_reducible apply kd_gs
    | with_reducible apply kd_bd
    | intro _ _ _
theorem kq_f_J0_length_8abf5 {P : S5 → Prop} (hP : Lc P)  (zi : Nat) (σ : S5) (q : P σ) : Kd (P) (f_J0_length_8abf5 zi σ) := by
  unfold f_J0_length_8abf5
  repeat' first
    | assumption
    | with_reducible exact kd_none
    | with_reducible apply kd_some
    | with_reducible apply kd_ite
    | with_reducible apply kd_gs
    | with_reducible apply kd_bd
    | with_reducible apply kq_f_J0_coder_7d493 hP
    | intro _ _ _
theorem kq_f_J1_canEncode_9a6ad {P : S5 → Prop} (hP : Lc P)  (a0 : Int32) (σ : S5) (q : P σ) : Kd (P) (f_J1_canEncode_9a6ad a0 σ) := by
  unfold f_J1_canEncode_9a6ad
  repeat' first
    | assumption
    | with_reducible exact kd_none
    | with_reducible apply kd_some
    | with_reducible apply kd_ite
    | with_reducible apply kd_bd
    | intro _ _ _
theorem kq_f_J1_indexOfChar_4cfef_B7 {P : S5 → Prop} (hP : Lc P) (rec7 : Nat → Int32 → Int32 → Int32 → S5 → Option (Int32 × S5)) (hrec7 : ∀ v0 v1 v2 v3 (σ : S5), P σ → Kd (P) (rec7 v0 v1 v2 v3 σ)) (zi : Nat) (v3 : Int32) (v4 : Int32) (v5 : Int32) (σ : S5) (q : P σ) : Kd (P) (f_J1_indexOfChar_4cfef_B7 rec7 zi v3 v4 v5 σ) := by
  unfold f_J1_indexOfChar_4cfef_B7
  repeat' first
    | assumption
    | with_reducible exact kd_none
    | with_reducible apply kd_some
    | with_reducible apply kd_ite
    | with_reducible apply kd_gd
    | with_reducible apply kd_gs
    | with_reducible apply kd_bd
    | with_reducible apply hrec7
    | intro _ _ _
theorem kq_f_J1_indexOfChar_4cfef_L7 {P : S5 → Prop} (hP : Lc P) : ∀ (n : Nat) v0 v1 v2 v3 (σ : S5), P σ → Kd (P) (f_J1_indexOfChar_4cfef_L7 n v0 v1 v2 v3 σ)
  | 0, _, _, _, _, _, _ => kd_none
  | n + 1, v0, v1, v2, v3, σ, q => by
    unfold f_J1_indexOfChar_4cfef_L7
    exact kq_f_J1_indexOfChar_4cfef_B7 hP _ (kq_f_J1_indexOfChar_4cfef_L7 hP n) v0 v1 v2 v3 σ q
theorem kq_f_J1_indexOfChar_4cfef {P : S5 → Prop} (hP : Lc P)  (zi : Nat) (a1 : Int32) (a2 : Int32) (a3 : Int32) (σ : S5) (q : P σ) : Kd (P) (f_J1_indexOfChar_4cfef zi a1 a2 a3 σ) := by
  unfold f_J1_indexOfChar_4cfef
  repeat' first
    | assumption
    | with_reducible exact kd_none
    | with_reducible apply kd_some
    | with_reducible apply kd_ite
    | with_reducible apply kd_bd
    | with_reducible apply kq_f_J1_indexOfChar_4cfef_L7 hP
    | intro _ _ _
theorem kq_f_J1_indexOf_4cfef {P : S5 → Prop} (hP : Lc P)  (zi : Nat) (a1 : Int32) (a2 : Int32) (a3 : Int32) (σ : S5) (q : P σ) : Kd (P) (f_J1_indexOf_4cfef zi a1 a2 a3 σ) := by
  unfold f_J1_indexOf_4cfef
  repeat' first
    | assumption
    | with_reducible exact kd_none
    | with_reducible apply kd_some
    | with_reducible apply kd_ite
    | with_reducible apply kd_gs
    | with_reducible apply kd_bd
    | with_reducible apply kq_f_J1_canEncode_9a6ad hP
    | with_reducible apply kq_f_J1_indexOfChar_4cfef hP
    | intro _ _ _
theorem kq_f_J0_indexOf_7cf53 {P : S5 → Prop} (hP : Lc P)  (zi : Nat) (a1 : Int32) (a2 : Int32) (σ : S5) (q : P σ) : Kd (P) (f_J0_indexOf_7cf53 zi a1 a2 σ) := by
  unfold f_J0_indexOf_7cf53
  repeat' first
    | assumption
    | with_reducible exact kd_none
    | with_reducible apply kd_some
    | with_reducible apply kd_ite
    | with_reducible apply kd_gs
    | with_reducible apply kd_bd
    | with_reducible apply kq_f_J0_isLatin1_aae02 hP
    | with_reducible apply kq_f_J0_length_8abf5 hP
    | with_reducible apply kq_f_J1_indexOf_4cfef hP
    | intro _ _ _
theorem kq_f_J0_indexOf_0f7a4 {P : S5 → Prop} (hP : Lc P)  (zi : Nat) (a1 : Int32) (σ : S5) (q : P σ) : Kd (P) (f_J0_indexOf_0f7a4 zi a1 σ) := by
  unfold f_J0_indexOf_0f7a4
  repeat' first
    | assumption
    | with_reducible exact kd_none
    | with_reducible apply kd_some
    | with_reducible apply kd_ite
    | with_reducible apply kd_gs
    | with_reducible apply kd_bd
    | with_reducible apply kq_f_J0_indexOf_7cf53 hP
    | intro _ _ _
theorem kq_f_X10_isSmall {P : S5 → Prop} (hP : Lc P)  (a0 : Int32) (σ : S5) (q : P σ) : Kd (P) (f_X10_isSmall a0 σ) := by
  unfold f_X10_isSmall
  repeat' first
    | assumption
    | with_reducible exact kd_none
    | with_reducible apply kd_some
    | with_reducible apply kd_ite
    | with_reducible apply kd_bd
    | intro _ _ _
theorem kq_f_X10_isGreat {P : S5 → Prop} (hP : Lc P)  (a0 : Int32) (σ : S5) (q : P σ) : Kd (P) (f_X10_isGreat a0 σ) := by
  unfold f_X10_isGreat
  repeat' first
    | assumption
    | with_reducible exact kd_none
    | with_reducible apply kd_some
    | with_reducible apply kd_ite
    | with_reducible apply kd_bd
    | intro _ _ _
theorem kq_f_X10_isDigit {P : S5 → Prop} (hP : Lc P)  (a0 : Int32) (σ : S5) (q : P σ) : Kd (P) (f_X10_isDigit a0 σ) := by
  unfold f_X10_isDigit
  repeat' first
    | assumption
    | with_reducible exact kd_none
    | with_reducible apply kd_some
    | with_reducible apply kd_ite
    | with_reducible apply kd_bd
    | intro _ _ _
theorem kq_f_X10_passBlanks_b61 {P : S5 → Prop} (hP : Lc P) (rec2 : Int32 → S5 → Option (Unit × S5)) (hrec2 : ∀ v0 (σ : S5), P σ → Kd (P) (rec2 v0 σ)) (v1 : Int32) (σ : S5) (q : P σ) : Kd (P) (f_X10_passBlanks_b61 rec2 v1 σ) := by
  unfold f_X10_passBlanks_b61
  repeat' first
    | assumption
    | with_reducible exact kd_none
    | with_reducible apply kd_some
    | with_reducible apply kd_ite
    | with_reducible apply kd_bd
    | with_reducible apply Lc.i hP _ _ _ (by decide)
    | with_reducible apply hrec2
    | intro _ _ _
theorem kq_f_X10_passBlanks_B2 {P : S5 → Prop} (hP : Lc P) (rec2 : Int32 → S5 → Option (Unit × S5)) (hrec2 : ∀ v0 (σ : S5), P σ → Kd (P) (rec2 v0 σ)) (v1 : Int32) (σ : S5) (q : P σ) : Kd (P) (f_X10_passBlanks_B2 rec2 v1 σ) := by
  unfold f_X10_passBlanks_B2
  repeat' first
    | assumption
    | with_reducible exact kd_none
    | with_reducible apply kd_some
    | with_reducible apply kd_ite
    | with_reducible apply kd_bd
    | with_reducible apply kq_f_X8_signAt_text hP
    | with_reducible apply kq_f_X10_passBlanks_b61 hP
    | with_reducible apply hrec2
    | intro _ _ _
theorem kq_f_X10_passBlanks_L2 {P : S5 → Prop} (hP : Lc P) : ∀ (n : Nat) v0 (σ : S5), P σ → Kd (P) (f_X10_passBlanks_L2 n v0 σ)
  | 0, _, _, _ => kd_none
  | n + 1, v0, σ, q => by
    unfold f_X10_passBlanks_L2
    exact kq_f_X10_passBlanks_B2 hP _ (kq_f_X10_passBlanks_L2 hP n) v0 σ q
theorem kq_f_X10_passBlanks {P : S5 → Prop} (hP : Lc P)   (σ : S5) (q : P σ) : Kd (P) (f_X10_passBlanks  σ) := by
  unfold f_X10_passBlanks
  repeat' first
    | assumption
    | with_reducible exact kd_none
    | with_reducible apply kd_some
    | with_reducible apply kd_ite
    | with_reducible apply kd_bd
    | with_reducible apply kq_f_X10_passBlanks_L2 hP
    | intro _ _ _
theorem kq_f_X10_kindOfName {P : S5 → Prop} (hP : Lc P)   (σ : S5) (q : P σ) : Kd (P) (f_X10_kindOfName  σ) := by
  unfold f_X10_kindOfName
  repeat' first
    | assumption
    | with_reducible exact kd_none
    | with_reducible apply kd_some
    | with_reducible apply kd_ite
    | with_reducible apply kd_bd
    | intro _ _ _
theorem kq_f_X10_readName_b113 {P : S5 → Prop} (hP : Lc P)  (u0 : Int32) (σ : S5) (q : P σ) : Kd (P) (f_X10_readName_b113 u0 σ) := by
  unfold f_X10_readName_b113
  repeat' first
    | assumption
    | with_reducible exact kd_none
    | with_reducible apply kd_some
    | with_reducible apply kd_ite
    | with_reducible apply kd_bd
    | with_reducible apply Lc.i hP _ _ _ (by decide)
    | intro _ _ _
theorem kq_f_X10_readName_b83 {P : S5 → Prop} (hP : Lc P)  (v1 : Int32) (v2 : Int32) (σ : S5) (q : P σ) : Kd (P) (f_X10_readName_b83 v1 v2 σ) := by
  unfold f_X10_readName_b83
  repeat' first
    | assumption
    | with_reducible exact kd_none
    | with_reducible apply kd_some
    | with_reducible apply kd_ite
    | with_reducible apply kd_bd
    | with_reducible apply Lc.i hP _ _ _ (by decide)
    | with_reducible apply kq_f_X10_isGreat hP
    | with_reducible apply kq_f_X10_kindOfName hP
    | with_reducible apply kq_f_X10_readName_b113 hP
    | intro _ _ _
theorem kq_f_X10_readName_b41 {P : S5 → Prop} (hP : Lc P) (rec9 : Int32 → Int32 → Int32 → S5 → Option (Unit × S5)) (hrec9 : ∀ v0 v1 v2 (σ : S5), P σ → Kd (P) (rec9 v0 v1 v2 σ)) (v1 : Int32) (v2 : Int32) (v3 : Int32) (σ : S5) (q : P σ) : Kd (P) (f_X10_readName_b41 rec9 v1 v2 v3 σ) := by
  unfold f_X10_readName_b41
  repeat' first
    | assumption
    | with_reducible exact kd_none
    | with_reducible apply kd_some
    | with_reducible apply kd_ite
    | with_reducible apply kd_bd
    | with_reducible apply Lc.i hP _ _ _ (by decide)
    | with_reducible apply Lc.j hP
    | with_reducible apply kq_f_X8_signAt_text hP
    | with_reducible apply hrec9
    | intro _ _ _
theorem kq_f_X10_readName_B9 {P : S5 → Prop} (hP : Lc P) (rec9 : Int32 → Int32 → Int32 → S5 → Option (Unit × S5)) (hrec9 : ∀ v0 v1 v2 (σ : S5), P σ → Kd (P) (rec9 v0 v1 v2 σ)) (v1 : Int32) (v2 : Int32) (v3 : Int32) (σ : S5) (q : P σ) : Kd (P) (f_X10_readName_B9 rec9 v1 v2 v3 σ) := by
  unfold f_X10_readName_B9
  repeat' first
    | assumption
    | with_reducible exact kd_none
    | with_reducible apply kd_some
    | with_reducible apply kd_ite
    | with_reducible apply kd_bd
    | with_reducible apply kq_f_X10_isSmall hP
    | with_reducible apply kq_f_X10_isDigit hP
    | with_reducible apply kq_f_X10_readName_b83 hP
    | with_reducible apply kq_f_X10_readName_b41 hP
    | with_reducible apply hrec9
    | intro _ _ _
theorem kq_f_X10_readName_L9 {P : S5 → Prop} (hP : Lc P) : ∀ (n : Nat) v0 v1 v2 (σ : S5), P σ → Kd (P) (f_X10_readName_L9 n v0 v1 v2 σ)
  | 0, _, _, _, _, _ => kd_none
  | n + 1, v0, v1, v2, σ, q => by
    unfold f_X10_readName_L9
    exact kq_f_X10_readName_B9 hP _ (kq_f_X10_readName_L9 hP n) v0 v1 v2 σ q
theorem kq_f_X10_readName {P : S5 → Prop} (hP : Lc P)  (a1 : Int32) (σ : S5) (q : P σ) : Kd (P) (f_X10_readName a1 σ) := by
  unfold f_X10_readName
  repeat' first
    | assumption
    | with_reducible exact kd_none
    | with_reducible apply kd_some
    | with_reducible apply kd_ite
    | with_reducible apply kd_bd
    | with_reducible apply Lc.j hP
    | with_reducible apply kq_f_X10_readName_L9 hP
    | intro _ _ _
theorem kq_f_X10_readNumber_b126 {P : S5 → Prop} (hP : Lc P)  (u0 : Int32) (σ : S5) (q : P σ) : Kd (P) (f_X10_readNumber_b126 u0 σ) := by
  unfold f_X10_readNumber_b126
  repeat' first
    | assumption
    | with_reducible exact kd_none
    | with_reducible apply kd_some
    | with_reducible apply kd_ite
    | with_reducible apply kd_bd
    | with_reducible apply Lc.i hP _ _ _ (by decide)
    | intro _ _ _
theorem kq_f_X10_readNumber_b111 {P : S5 → Prop} (hP : Lc P)  (v1 : Int64) (v4 : Int32) (u0 : Int32) (σ : S5) (q : P σ) : Kd (P) (f_X10_readNumber_b111 v1 v4 u0 σ) := by
  unfold f_X10_readNumber_b111
  repeat' first
    | assumption
    | with_reducible exact kd_none
    | with_reducible apply kd_some
    | with_reducible apply kd_ite
    | with_reducible apply kd_bd
    | with_reducible apply Lc.i hP _ _ _ (by decide)
    | with_reducible apply kq_f_X10_readNumber_b126 hP
    | intro _ _ _
theorem kq_f_X10_readNumber_b98 {P : S5 → Prop} (hP : Lc P)  (v1 : Int64) (u0 : Int32) (σ : S5) (q : P σ) : Kd (P) (f_X10_readNumber_b98 v1 u0 σ) := by
  unfold f_X10_readNumber_b98
  repeat' first
    | assumption
    | with_reducible exact kd_none
    | with_reducible apply kd_some
    | with_reducible apply kd_ite
    | with_reducible apply kd_bd
    | with_reducible apply kq_f_X10_readNumber_b111 hP
    | intro _ _ _
theorem kq_f_X10_readNumber_b97 {P : S5 → Prop} (hP : Lc P)  (v1 : Int64) (σ : S5) (q : P σ) : Kd (P) (f_X10_readNumber_b97 v1 σ) := by
  unfold f_X10_readNumber_b97
  repeat' first
    | assumption
    | with_reducible exact kd_none
    | with_reducible apply kd_some
    | with_reducible apply kd_ite
    | with_reducible apply kd_bd
    | with_reducible apply kq_f_X10_readNumber_b98 hP
    | intro _ _ _
theorem kq_f_X10_readNumber_b79 {P : S5 → Prop} (hP : Lc P)  (v1 : Int64) (v3 : Int32) (σ : S5) (q : P σ) : Kd (P) (f_X10_readNumber_b79 v1 v3 σ) := by
  unfold f_X10_readNumber_b79
  repeat' first
    | assumption
    | with_reducible exact kd_none
    | with_reducible apply kd_some
    | with_reducible apply kd_ite
    | with_reducible apply kd_bd
    | with_reducible apply kq_f_X10_readNumber_b98 hP
    | with_reducible apply kq_f_X10_readNumber_b97 hP
    | intro _ _ _
theorem kq_f_X10_readNumber_b66 {P : S5 → Prop} (hP : Lc P) (rec4 : Int64 → Int32 → S5 → Option (Unit × S5)) (hrec4 : ∀ v0 v1 (σ : S5), P σ → Kd (P) (rec4 v0 v1 σ)) (v1 : Int64) (v3 : Int32) (σ : S5) (q : P σ) : Kd (P) (f_X10_readNumber_b66 rec4 v1 v3 σ) := by
  unfold f_X10_readNumber_b66
  repeat' first
    | assumption
    | with_reducible exact kd_none
    | with_reducible apply kd_some
    | with_reducible apply kd_ite
    | with_reducible apply kd_bd
    | with_reducible apply Lc.i hP _ _ _ (by decide)
    | with_reducible apply hrec4
    | intro _ _ _
theorem kq_f_X10_readNumber_B4 {P : S5 → Prop} (hP : Lc P) (rec4 : Int64 → Int32 → S5 → Option (Unit × S5)) (hrec4 : ∀ v0 v1 (σ : S5), P σ → Kd (P) (rec4 v0 v1 σ)) (v1 : Int64) (v3 : Int32) (σ : S5) (q : P σ) : Kd (P) (f_X10_readNumber_B4 rec4 v1 v3 σ) := by
  unfold f_X10_readNumber_B4
  repeat' first
    | assumption
    | with_reducible exact kd_none
    | with_reducible apply kd_some
    | with_reducible apply kd_ite
    | with_reducible apply kd_bd
    | with_reducible apply kq_f_X8_signAt_text hP
    | with_reducible apply kq_f_X10_isDigit hP
    | with_reducible apply kq_f_X10_readNumber_b79 hP
    | with_reducible apply kq_f_X10_readNumber_b66 hP
    | with_reducible apply hrec4
    | intro _ _ _
theorem kq_f_X10_readNumber_L4 {P : S5 → Prop} (hP : Lc P) : ∀ (n : Nat) v0 v1 (σ : S5), P σ → Kd (P) (f_X10_readNumber_L4 n v0 v1 σ)
  | 0, _, _, _, _ => kd_none
  | n + 1, v0, v1, σ, q => by
    unfold f_X10_readNumber_L4
    exact kq_f_X10_readNumber_B4 hP _ (kq_f_X10_readNumber_L4 hP n) v0 v1 σ q
theorem kq_f_X10_readNumber {P : S5 → Prop} (hP : Lc P)   (σ : S5) (q : P σ) : Kd (P) (f_X10_readNumber  σ) := by
  unfold f_X10_readNumber
  repeat' first
    | assumption
    | with_reducible exact kd_none
    | with_reducible apply kd_some
    | with_reducible apply kd_ite
    | with_reducible apply kd_bd
    | with_reducible apply kq_f_X10_readNumber_L4 hP
    | intro _ _ _
theorem kq_f_X10_readSign_b119 {P : S5 → Prop} (hP : Lc P)  (u0 : Int32) (u1 : Int32) (σ : S5) (q : P σ) : Kd (P) (f_X10_readSign_b119 u0 u1 σ) := by
  unfold f_X10_readSign_b119
  repeat' first
    | assumption
    | with_reducible exact kd_none
    | with_reducible apply kd_some
    | with_reducible apply kd_ite
    | with_reducible apply kd_bd
    | with_reducible apply Lc.i hP _ _ _ (by decide)
    | intro _ _ _
theorem kq_f_X10_readSign_b99 {P : S5 → Prop} (hP : Lc P)   (σ : S5) (q : P σ) : Kd (P) (f_X10_readSign_b99  σ) := by
  unfold f_X10_readSign_b99
  repeat' first
    | assumption
    | with_reducible exact kd_none
    | with_reducible apply kd_some
    | with_reducible apply kd_ite
    | with_reducible apply kd_bd
    | with_reducible apply kq_f_X10_readSign_b119 hP
    | intro _ _ _
theorem kq_f_X10_readSign_b96 {P : S5 → Prop} (hP : Lc P)  (u0 : Int32) (σ : S5) (q : P σ) : Kd (P) (f_X10_readSign_b96 u0 σ) := by
  unfold f_X10_readSign_b96
  repeat' first
    | assumption
    | with_reducible exact kd_none
    | with_reducible apply kd_some
    | with_reducible apply kd_ite
    | with_reducible apply kd_bd
    | with_reducible apply Lc.i hP _ _ _ (by decide)
    | with_reducible apply kq_f_X10_readSign_b99 hP
    | intro _ _ _
theorem kq_f_X10_readSign_b80 {P : S5 → Prop} (hP : Lc P)  (v1 : Int32) (σ : S5) (q : P σ) : Kd (P) (f_X10_readSign_b80 v1 σ) := by
  unfold f_X10_readSign_b80
  repeat' first
    | assumption
    | with_reducible exact kd_none
    | with_reducible apply kd_some
    | with_reducible apply kd_ite
    | with_reducible apply kd_gs
    | with_reducible apply kd_bd
    | with_reducible apply kq_f_J0_indexOf_0f7a4 hP
    | with_reducible apply kq_f_X10_readSign_b96 hP
    | intro _ _ _
theorem kq_f_X10_readSign_b58 {P : S5 → Prop} (hP : Lc P)  (v1 : Int32) (v2 : Int32) (σ : S5) (q : P σ) : Kd (P) (f_X10_readSign_b58 v1 v2 σ) := by
  unfold f_X10_readSign_b58
  repeat' first
    | assumption
    | with_reducible exact kd_none
    | with_reducible apply kd_some
    | with_reducible apply kd_ite
    | with_reducible apply kd_bd
    | with_reducible apply Lc.i hP _ _ _ (by decide)
    | with_reducible apply kq_f_X10_readSign_b99 hP
    | with_reducible apply kq_f_X10_readSign_b80 hP
    | intro _ _ _
theorem kq_f_X10_readSign_b36 {P : S5 → Prop} (hP : Lc P)  (v1 : Int32) (v2 : Int32) (σ : S5) (q : P σ) : Kd (P) (f_X10_readSign_b36 v1 v2 σ) := by
  unfold f_X10_readSign_b36
  repeat' first
    | assumption
    | with_reducible exact kd_none
    | with_reducible apply kd_some
    | with_reducible apply kd_ite
    | with_reducible apply kd_bd
    | with_reducible apply Lc.i hP _ _ _ (by decide)
    | with_reducible apply kq_f_X10_readSign_b99 hP
    | with_reducible apply kq_f_X10_readSign_b58 hP
    | intro _ _ _
theorem kq_f_X10_readSign {P : S5 → Prop} (hP : Lc P)  (a1 : Int32) (σ : S5) (q : P σ) : Kd (P) (f_X10_readSign a1 σ) := by
  unfold f_X10_readSign
  repeat' first
    | assumption
    | with_reducible exact kd_none
    | with_reducible apply kd_some
    | with_reducible apply kd_ite
    | with_reducible apply kd_bd
    | with_reducible apply Lc.i hP _ _ _ (by decide)
    | with_reducible apply kq_f_X8_signAt_text hP
    | with_reducible apply kq_f_X10_readSign_b99 hP
    | with_reducible apply kq_f_X10_readSign_b36 hP
    | intro _ _ _
theorem kq_f_X10_advance_b59 {P : S5 → Prop} (hP : Lc P)  (v1 : Int32) (σ : S5) (q : P σ) : Kd (P) (f_X10_advance_b59 v1 σ) := by
  unfold f_X10_advance_b59
  repeat' first
    | assumption
    | with_reducible exact kd_none
    | with_reducible apply kd_some
    | with_reducible apply kd_ite
    | with_reducible apply kd_bd
    | with_reducible apply kq_f_X10_readName hP
    | intro _ _ _
theorem kq_adv {P : S5 → Prop} (hP : Lc P) (σ : S5) (q : P σ) : Kd P (f_X10_advance σ) := by
  unfold f_X10_advance
  repeat' first
    | assumption
    | with_reducible apply kd_some
    | with_reducible apply kd_ite
    | with_reducible apply kd_bd
    | with_reducible apply Lc.i hP _ _ _ (by decide)
    | with_reducible apply kq_f_X10_passBlanks hP
    | with_reducible apply kq_f_X8_signAt_text hP
    | with_reducible apply kq_f_X10_isSmall hP
    | with_reducible apply kq_f_X10_isGreat hP
    | with_reducible apply kq_f_X10_isDigit hP
    | with_reducible apply kq_f_X10_readSign hP
    | with_reducible apply kq_f_X10_readNumber hP
    | with_reducible apply kq_f_X10_advance_b59 hP
    | intro _ _ _
theorem ka2 (σ : S5) {r : Unit} (t : S5) (i : Int32) (e : f_X10_advance σ = some (r, t)) : xA t 2 i = xA σ 2 i := by
  have := kq_adv (Lc_fr σ) σ rfl r t e
  show t.2.2.1 2 _ = σ.2.2.1 2 _
  rw [this]
theorem kn_f_X10_advance {d : Nat} (σ : S5) (q : Np d σ) : Kd (Np d) (f_X10_advance σ) := by
  by_cases h0 : gI σ 17 = 0
  · unfold f_X10_advance
    rw [if_pos h0]
    exact kd_some q
  · exact fun r τ e => Or.inr (kq_adv (Lc_Qf d) σ (q.resolve_left h0) r τ e)
theorem kn_leaf {d : Nat} (a1 a2 : Int32) (σ : S5) (q : Np (d + 1) σ) : Kd (Np d) (f_X9_addLeaf a1 a2 σ) := kd_bd2 (ad_p _ _ _ _ q) (fun _ _ q => kd_some q)
theorem kn_f_X4_addConstructor {d : Nat}  (a1 : Int64) (a3 : Int32) (σ : S5) (q : Np d σ) : Kd (Np d) (f_X4_addConstructor a1 a3 σ) := by
  unfold f_X4_addConstructor
  repeat' first
    | assumption
    | with_reducible exact kd_none
    | with_reducible apply kd_some
    | with_reducible apply kd_ite
    | with_reducible apply kd_gd
    | with_reducible apply kd_bd
    | with_reducible apply Np_pI _ _ _ (by decide)
    | with_reducible apply Np_pA _ _ _ _ (by decide)
    | with_reducible apply Np_pB
    | intro _ _ _
theorem kn_f_X4_constructorOf_B2 {d : Nat} (rec2 : Int64 → Int32 → S5 → Option (Int32 × S5)) (hrec2 : ∀ v0 v1 (σ : S5), Np d σ → Kd (Np d) (rec2 v0 v1 σ)) (v1 : Int64) (v3 : Int32) (σ : S5) (q : Np d σ) : Kd (Np d) (f_X4_constructorOf_B2 rec2 v1 v3 σ) := by
  unfold f_X4_constructorOf_B2
  repeat' first
    | assumption
    | with_reducible exact kd_none
    | with_reducible apply kd_some
    | with_reducible apply kd_ite
    | with_reducible apply kd_gd
    | with_reducible apply kd_bd
    | with_reducible apply hrec2
    | intro _ _ _
theorem kn_f_X4_constructorOf_L2 {d : Nat} : ∀ (n : Nat) v0 v1 (σ : S5), Np d σ → Kd (Np d) (f_X4_constructorOf_L2 n v0 v1 σ)
  | 0, _, _, _, _ => kd_none
  | n + 1, v0, v1, σ, q => by
    unfold f_X4_constructorOf_L2
    exact kn_f_X4_constructorOf_B2 _ (kn_f_X4_constructorOf_L2 n) v0 v1 σ q
theorem kn_f_X4_constructorOf {d : Nat}  (a1 : Int64) (σ : S5) (q : Np d σ) : Kd (Np d) (f_X4_constructorOf a1 σ) := by
  unfold f_X4_constructorOf
  repeat' first
    | assumption
    | with_reducible exact kd_none
    | with_reducible apply kd_some
    | with_reducible apply kd_ite
    | with_reducible apply kd_bd
    | with_reducible apply kn_f_X4_constructorOf_L2
    | intro _ _ _
theorem kn_f_X4_addFunction {d : Nat}  (a1 : Int32) (σ : S5) (q : Np d σ) : Kd (Np d) (f_X4_addFunction a1 σ) := by
  unfold f_X4_addFunction
  repeat' first
    | assumption
    | with_reducible exact kd_none
    | with_reducible apply kd_some
    | with_reducible apply kd_ite
    | with_reducible apply kd_gd
    | with_reducible apply kd_bd
    | with_reducible apply Np_pI _ _ _ (by decide)
    | with_reducible apply Np_pA _ _ _ _ (by decide)
    | intro _ _ _
theorem kn_f_X4_addTop {d : Nat}  (a1 : Int64) (a3 : Int32) (σ : S5) (q : Np d σ) : Kd (Np d) (f_X4_addTop a1 a3 σ) := by
  unfold f_X4_addTop
  repeat' first
    | assumption
    | with_reducible exact kd_none
    | with_reducible apply kd_some
    | with_reducible apply kd_ite
    | with_reducible apply kd_gd
    | with_reducible apply kd_bd
    | with_reducible apply Np_pI _ _ _ (by decide)
    | with_reducible apply Np_pB
    | with_reducible apply kn_f_X4_addFunction
    | intro _ _ _
theorem kn_f_X4_topOf_B2 {d : Nat} (rec2 : Int64 → Int32 → S5 → Option (Int32 × S5)) (hrec2 : ∀ v0 v1 (σ : S5), Np d σ → Kd (Np d) (rec2 v0 v1 σ)) (v1 : Int64) (v3 : Int32) (σ : S5) (q : Np d σ) : Kd (Np d) (f_X4_topOf_B2 rec2 v1 v3 σ) := by
  unfold f_X4_topOf_B2
  repeat' first
    | assumption
    | with_reducible exact kd_none
    | with_reducible apply kd_some
    | with_reducible apply kd_ite
    | with_reducible apply kd_gd
    | with_reducible apply kd_bd
    | with_reducible apply hrec2
    | intro _ _ _
theorem kn_f_X4_topOf_L2 {d : Nat} : ∀ (n : Nat) v0 v1 (σ : S5), Np d σ → Kd (Np d) (f_X4_topOf_L2 n v0 v1 σ)
  | 0, _, _, _, _ => kd_none
  | n + 1, v0, v1, σ, q => by
    unfold f_X4_topOf_L2
    exact kn_f_X4_topOf_B2 _ (kn_f_X4_topOf_L2 n) v0 v1 σ q
theorem kn_f_X4_topOf {d : Nat}  (a1 : Int64) (σ : S5) (q : Np d σ) : Kd (Np d) (f_X4_topOf a1 σ) := by
  unfold f_X4_topOf
  repeat' first
    | assumption
    | with_reducible exact kd_none
    | with_reducible apply kd_some
    | with_reducible apply kd_ite
    | with_reducible apply kd_bd
    | with_reducible apply kn_f_X4_topOf_L2
    | intro _ _ _
theorem kn_f_X6_add_b72 {d : Nat}  (u0 : Int32) (u1 : Int32) (σ : S5) (q : Np d σ) : Kd (Np d) (f_X6_add_b72 u0 u1 σ) := by
  unfold f_X6_add_b72
  repeat' first
    | assumption
    | with_reducible exact kd_none
    | with_reducible apply kd_some
    | with_reducible apply kd_ite
    | with_reducible apply kd_gd
    | with_reducible apply kd_bd
    | with_reducible apply Np_pI _ _ _ (by decide)
    | with_reducible apply Np_pA _ _ _ _ (by decide)
    | intro _ _ _
theorem kn_f_X6_add_b59 {d : Nat}  (u0 : Int32) (σ : S5) (q : Np d σ) : Kd (Np d) (f_X6_add_b59 u0 σ) := by
  unfold f_X6_add_b59
  repeat' first
    | assumption
    | with_reducible exact kd_none
    | with_reducible apply kd_some
    | with_reducible apply kd_ite
    | with_reducible apply kd_bd
    | with_reducible apply kn_f_X6_add_b72
    | intro _ _ _
theorem kn_f_X6_add {d : Nat}  (a1 : Int32) (a2 : Int32) (a3 : Int32) (σ : S5) (q : Np d σ) : Kd (Np d) (f_X6_add a1 a2 a3 σ) := by
  unfold f_X6_add
  repeat' first
    | assumption
    | with_reducible exact kd_none
    | with_reducible apply kd_some
    | with_reducible apply kd_ite
    | with_reducible apply kd_gd
    | with_reducible apply kd_bd
    | with_reducible apply Np_pA _ _ _ _ (by decide)
    | with_reducible apply kn_f_X6_add_b72
    | with_reducible apply kn_f_X6_add_b59
    | intro _ _ _
theorem kn_f_X6_addName {d : Nat}  (a1 : Int32) (a2 : Int64) (σ : S5) (q : Np d σ) : Kd (Np d) (f_X6_addName a1 a2 σ) := by
  unfold f_X6_addName
  repeat' first
    | assumption
    | with_reducible exact kd_none
    | with_reducible apply kd_some
    | with_reducible apply kd_ite
    | with_reducible apply kd_gd
    | with_reducible apply kd_bd
    | with_reducible apply Np_pA _ _ _ _ (by decide)
    | with_reducible apply Np_pB
    | intro _ _ _
theorem kn_f_X6_variableIn_B3 {d : Nat} (rec3 : Int32 → Int64 → Int32 → S5 → Option (Int32 × S5)) (hrec3 : ∀ v0 v1 v2 (σ : S5), Np d σ → Kd (Np d) (rec3 v0 v1 v2 σ)) (v1 : Int32) (v2 : Int64) (v4 : Int32) (σ : S5) (q : Np d σ) : Kd (Np d) (f_X6_variableIn_B3 rec3 v1 v2 v4 σ) := by
  unfold f_X6_variableIn_B3
  repeat' first
    | assumption
    | with_reducible exact kd_none
    | with_reducible apply kd_some
    | with_reducible apply kd_ite
    | with_reducible apply kd_gd
    | with_reducible apply kd_bd
    | with_reducible apply hrec3
    | intro _ _ _
theorem kn_f_X6_variableIn_L3 {d : Nat} : ∀ (n : Nat) v0 v1 v2 (σ : S5), Np d σ → Kd (Np d) (f_X6_variableIn_L3 n v0 v1 v2 σ)
  | 0, _, _, _, _, _ => kd_none
  | n + 1, v0, v1, v2, σ, q => by
    unfold f_X6_variableIn_L3
    exact kn_f_X6_variableIn_B3 _ (kn_f_X6_variableIn_L3 n) v0 v1 v2 σ q
theorem kn_f_X6_variableIn {d : Nat}  (a1 : Int32) (a2 : Int64) (σ : S5) (q : Np d σ) : Kd (Np d) (f_X6_variableIn a1 a2 σ) := by
  unfold f_X6_variableIn
  repeat' first
    | assumption
    | with_reducible exact kd_none
    | with_reducible apply kd_some
    | with_reducible apply kd_ite
    | with_reducible apply kd_bd
    | with_reducible apply kn_f_X6_variableIn_L3
    | intro _ _ _
theorem kn_f_X6_has {d : Nat}  (a1 : Int32) (a2 : Int64) (σ : S5) (q : Np d σ) : Kd (Np d) (f_X6_has a1 a2 σ) := by
  unfold f_X6_has
  repeat' first
    | assumption
    | with_reducible exact kd_none
    | with_reducible apply kd_some
    | with_reducible apply kd_ite
    | with_reducible apply kd_bd
    | with_reducible apply kn_f_X6_variableIn
    | intro _ _ _
theorem kn_f_X6_addUse {d : Nat}  (a1 : Int64) (a3 : Int32) (a4 : Int32) (a5 : Int32) (σ : S5) (q : Np d σ) : Kd (Np d) (f_X6_addUse a1 a3 a4 a5 σ) := by
  unfold f_X6_addUse
  repeat' first
    | assumption
    | with_reducible exact kd_none
    | with_reducible apply kd_some
    | with_reducible apply kd_ite
    | with_reducible apply kd_gd
    | with_reducible apply kd_bd
    | with_reducible apply Np_pI _ _ _ (by decide)
    | with_reducible apply Np_pA _ _ _ _ (by decide)
    | with_reducible apply Np_pB
    | intro _ _ _
theorem kn_ref0 {d : Nat} (a1 : Int32) (σ : S5) (q : Np d σ) : Kd (fun τ => gI τ 17 = 0) (f_X5_refuse a1 σ) := by
  unfold f_X5_refuse f_X10_stop
  refine kd_ite2 (fun _ => ?_) (fun h => kd_some (q.elim (fun w => w) (fun w => absurd w.1 h)))
  exact kd_bd (kd_some (by rw [gI_pI, if_pos rfl])) (fun _ _ q => kd_some q)
theorem kn_f_X5_refuse {d : Nat} (a1 : Int32) (σ : S5) (q : Np d σ) : Kd (Np d) (f_X5_refuse a1 σ) := fun r τ e => Or.inl (kn_ref0 a1 σ q r τ e)
theorem kn_f_X5_expect {d : Nat}  (a1 : Int32) (σ : S5) (q : Np d σ) : Kd (Np d) (f_X5_expect a1 σ) := by
  unfold f_X5_expect
  repeat' first
    | assumption
    | with_reducible exact kd_none
    | with_reducible apply kd_some
    | with_reducible apply kd_ite
    | with_reducible apply kd_bd
    | with_reducible apply kn_f_X10_advance
    | with_reducible apply kn_f_X5_refuse
    | intro _ _ _
theorem kn_cp {d : Nat} (σ : S5) (q : Np d σ) : Kd (Np (d + 1)) (f_X5_countPart σ) := by
  unfold f_X5_countPart
  refine kd_ite2 (fun h6 => kd_ite2 (fun h0 => kd_some (Or.inl h0)) (fun h0 => kd_some (Or.inr (Qf_cp (q.resolve_left h0) h6)))) (fun _ => kd_bd2 (kn_ref0 _ _ q) (fun _ _ q => kd_some (Or.inl q)))
theorem kn_f_X5_opens {d : Nat}   (σ : S5) (q : Np d σ) : Kd (Np d) (f_X5_opens  σ) := by
  unfold f_X5_opens
  repeat' first
    | assumption
    | with_reducible exact kd_none
    | with_reducible apply kd_some
    | with_reducible apply kd_ite
    | with_reducible apply kd_bd
    | with_reducible apply Np_pI _ _ _ (by decide)
    | with_reducible apply kn_f_X5_refuse
    | intro _ _ _
theorem kn_f_X5_readConstructor_b93 {d : Nat}   (σ : S5) (q : Np d σ) : Kd (Np d) (f_X5_readConstructor_b93  σ) := by
  unfold f_X5_readConstructor_b93
  repeat' first
    | assumption
    | with_reducible exact kd_none
    | with_reducible apply kd_some
    | with_reducible apply kd_ite
    | with_reducible apply kd_bd
    | with_reducible apply kn_f_X5_refuse
    | intro _ _ _
theorem kn_f_X5_readConstructor_b64 {d : Nat}  (v1 : Int64) (σ : S5) (q : Np d σ) : Kd (Np d) (f_X5_readConstructor_b64 v1 σ) := by
  unfold f_X5_readConstructor_b64
  repeat' first
    | assumption
    | with_reducible exact kd_none
    | with_reducible apply kd_some
    | with_reducible apply kd_ite
    | with_reducible apply kd_bd
    | with_reducible apply kn_f_X10_advance
    | with_reducible apply kn_f_X4_addConstructor
    | with_reducible apply kn_f_X5_readConstructor_b93
    | intro _ _ _
theorem kn_f_X5_readConstructor {d : Nat}   (σ : S5) (q : Np d σ) : Kd (Np d) (f_X5_readConstructor  σ) := by
  unfold f_X5_readConstructor
  repeat' first
    | assumption
    | with_reducible exact kd_none
    | with_reducible apply kd_some
    | with_reducible apply kd_ite
    | with_reducible apply kd_bd
    | with_reducible apply kn_f_X4_constructorOf
    | with_reducible apply kn_f_X5_refuse
    | with_reducible apply kn_f_X5_readConstructor_b64
    | intro _ _ _
theorem kn_f_X5_readData_b49 {d : Nat}   (σ : S5) (q : Np d σ) : Kd (Np d) (f_X5_readData_b49  σ) := by
  unfold f_X5_readData_b49
  repeat' first
    | assumption
    | with_reducible exact kd_none
    | with_reducible apply kd_some
    | with_reducible apply kd_ite
    | with_reducible apply kd_bd
    | with_reducible apply kn_f_X5_expect
    | intro _ _ _
theorem kn_f_X5_readData_B13 {d : Nat} (rec13 : Int32 → S5 → Option (Unit × S5)) (hrec13 : ∀ v0 (σ : S5), Np d σ → Kd (Np d) (rec13 v0 σ)) (v1 : Int32) (σ : S5) (q : Np d σ) : Kd (Np d) (f_X5_readData_B13 rec13 v1 σ) := by
  unfold f_X5_readData_B13
  repeat' first
    | assumption
    | with_reducible exact kd_none
    | with_reducible apply kd_some
    | with_reducible apply kd_ite
    | with_reducible apply kd_bd
    | with_reducible apply kn_f_X10_advance
    | with_reducible apply kn_f_X5_readConstructor
    | with_reducible apply kn_f_X5_readData_b49
    | with_reducible apply hrec13
    | intro _ _ _
theorem kn_f_X5_readData_L13 {d : Nat} : ∀ (n : Nat) v0 (σ : S5), Np d σ → Kd (Np d) (f_X5_readData_L13 n v0 σ)
  | 0, _, _, _ => kd_none
  | n + 1, v0, σ, q => by
    unfold f_X5_readData_L13
    exact kn_f_X5_readData_B13 _ (kn_f_X5_readData_L13 n) v0 σ q
theorem kn_f_X5_readData {d : Nat}   (σ : S5) (q : Np d σ) : Kd (Np d) (f_X5_readData  σ) := by
  unfold f_X5_readData
  repeat' first
    | assumption
    | with_reducible exact kd_none
    | with_reducible apply kd_some
    | with_reducible apply kd_ite
    | with_reducible apply kd_bd
    | with_reducible apply kn_f_X10_advance
    | with_reducible apply kn_f_X5_readConstructor
    | with_reducible apply kn_f_X5_readData_L13
    | intro _ _ _
theorem kn_f_X5_declare {d : Nat}  (a1 : Int32) (σ : S5) (q : Np d σ) : Kd (Np d) (f_X5_declare a1 σ) := by
  unfold f_X5_declare
  repeat' first
    | assumption
    | with_reducible exact kd_none
    | with_reducible apply kd_some
    | with_reducible apply kd_ite
    | with_reducible apply kd_gd
    | with_reducible apply kd_bd
    | with_reducible apply kn_f_X10_advance
    | with_reducible apply kn_f_X6_addName
    | with_reducible apply kn_f_X6_has
    | with_reducible apply kn_f_X5_refuse
    | intro _ _ _
theorem kn_f_X5_readParameters_B2 {d : Nat} (rec2 : Int32 → Int32 → S5 → Option (Unit × S5)) (hrec2 : ∀ v0 v1 (σ : S5), Np d σ → Kd (Np d) (rec2 v0 v1 σ)) (v1 : Int32) (v2 : Int32) (σ : S5) (q : Np d σ) : Kd (Np d) (f_X5_readParameters_B2 rec2 v1 v2 σ) := by
  unfold f_X5_readParameters_B2
  repeat' first
    | assumption
    | with_reducible exact kd_none
    | with_reducible apply kd_some
    | with_reducible apply kd_ite
    | with_reducible apply kd_bd
    | with_reducible apply kn_f_X5_declare
    | with_reducible apply hrec2
    | intro _ _ _
theorem kn_f_X5_readParameters_L2 {d : Nat} : ∀ (n : Nat) v0 v1 (σ : S5), Np d σ → Kd (Np d) (f_X5_readParameters_L2 n v0 v1 σ)
  | 0, _, _, _, _ => kd_none
  | n + 1, v0, v1, σ, q => by
    unfold f_X5_readParameters_L2
    exact kn_f_X5_readParameters_B2 _ (kn_f_X5_readParameters_L2 n) v0 v1 σ q
theorem kn_f_X5_readParameters {d : Nat}  (a1 : Int32) (σ : S5) (q : Np d σ) : Kd (Np d) (f_X5_readParameters a1 σ) := by
  unfold f_X5_readParameters
  repeat' first
    | assumption
    | with_reducible exact kd_none
    | with_reducible apply kd_some
    | with_reducible apply kd_ite
    | with_reducible apply kd_bd
    | with_reducible apply kn_f_X5_readParameters_L2
    | intro _ _ _
theorem kn_f_X5_isAtom_b27 {d : Nat}   (σ : S5) (q : Np d σ) : Kd (Np d) (f_X5_isAtom_b27  σ) := by
  unfold f_X5_isAtom_b27
  repeat' first
    | assumption
    | with_reducible exact kd_none
    | with_reducible apply kd_some
    | with_reducible apply kd_ite
    | with_reducible apply kd_bd
    | intro _ _ _
theorem kn_f_X5_isAtom {d : Nat}  (a0 : Int32) (σ : S5) (q : Np d σ) : Kd (Np d) (f_X5_isAtom a0 σ) := by
  unfold f_X5_isAtom
  repeat' first
    | assumption
    | with_reducible exact kd_none
    | with_reducible apply kd_some
    | with_reducible apply kd_ite
    | with_reducible apply kd_bd
    | with_reducible apply kn_f_X5_isAtom_b27
    | intro _ _ _
theorem kn_f_X5_atomStands_b98 {d : Nat}   (σ : S5) (q : Np d σ) : Kd (Np d) (f_X5_atomStands_b98  σ) := by
  unfold f_X5_atomStands_b98
  repeat' first
    | assumption
    | with_reducible exact kd_none
    | with_reducible apply kd_some
    | with_reducible apply kd_ite
    | with_reducible apply kd_bd
    | intro _ _ _
theorem kn_f_X5_atomStands_b93 {d : Nat}   (σ : S5) (q : Np d σ) : Kd (Np d) (f_X5_atomStands_b93  σ) := by
  unfold f_X5_atomStands_b93
  repeat' first
    | assumption
    | with_reducible exact kd_none
    | with_reducible apply kd_some
    | with_reducible apply kd_ite
    | with_reducible apply kd_bd
    | with_reducible apply kn_f_X5_refuse
    | with_reducible apply kn_f_X5_atomStands_b98
    | intro _ _ _
theorem kn_f_X5_atomStands_b56 {d : Nat}   (σ : S5) (q : Np d σ) : Kd (Np d) (f_X5_atomStands_b56  σ) := by
  unfold f_X5_atomStands_b56
  repeat' first
    | assumption
    | with_reducible exact kd_none
    | with_reducible apply kd_some
    | with_reducible apply kd_ite
    | with_reducible apply kd_bd
    | with_reducible apply kn_f_X5_atomStands_b98
    | intro _ _ _
theorem kn_f_X5_atomStands {d : Nat} (σ : S5) (q : Np d σ) : Kd (Np d) (f_X5_atomStands σ) := by
  unfold f_X5_atomStands
  repeat' first
    | assumption
    | with_reducible apply kd_some
    | with_reducible apply kd_ite
    | with_reducible apply kd_gd
    | with_reducible apply kd_bd
    | with_reducible apply kn_f_X4_constructorOf
    | with_reducible apply kn_f_X5_refuse
    | with_reducible apply kn_f_X5_isAtom
    | with_reducible apply kn_f_X5_atomStands_b98
    | with_reducible apply kn_f_X5_atomStands_b93
    | with_reducible apply kn_f_X5_atomStands_b56
    | intro _ _ _
def Kr (o : Option (Int32 × S5)) : Prop := ∀ r τ, o = some (r, τ) → r = 0 → gI τ 17 = 0
theorem kr_bd {α : Type} {x : Option (α × S5)} {f : α → S5 → Option (Int32 × S5)} (hf : ∀ r τ, Kr (f r τ)) : Kr (bd x f) := fun r τ e => by
  obtain ⟨a, t, e1, e2⟩ := bd_some e
  exact hf a t r τ e2
theorem kr_ite {c : Prop} {_ : Decidable c} {x y : Option (Int32 × S5)} (hx : Kr x) (hy : Kr y) : Kr (if c then x else y) := by
  by_cases h : c
  · rw [if_pos h]; exact hx
  · rw [if_neg h]; exact hy
theorem kr_gd {i : Int32} {n : Nat} {x : Option (Int32 × S5)} (hx : Kr x) : Kr (gd i n x) := fun r τ e => hx r τ (gd_some e).2
theorem kr_98 (σ : S5) : Kr (f_X5_atomStands_b98 σ) := by
  unfold f_X5_atomStands_b98
  intro r τ e hr
  by_cases h : gI σ 17 = 0
  · rw [if_pos h] at e
    cases e
    exact h
  · rw [if_neg h] at e
    cases e
    exact absurd hr (by decide)
theorem kr_as (σ : S5) : Kr (f_X5_atomStands σ) := by
  unfold f_X5_atomStands f_X5_atomStands_b56 f_X5_atomStands_b93
  exact kr_ite (kr_bd (fun _ _ => kr_ite (kr_bd (fun _ _ => kr_98 _)) (kr_gd (kr_ite (kr_98 _) (kr_bd (fun _ _ => kr_98 _)))))) (kr_bd (fun _ _ => kr_ite (kr_bd (fun _ _ => kr_98 _)) (kr_ite (kr_ite (kr_98 _) (kr_bd (fun _ _ => kr_98 _))) (kr_98 _))))
theorem kn_sg {d : Nat} (σ : S5) (q : Np d σ) : Kd (Np (d + 1)) (f_X5_readSign σ) := kd_bd2 (kn_cp _ q) (fun _ _ q => kd_bd2 (kn_f_X10_advance _ q) (fun _ _ q => kd_some q))
theorem kn_jn {d : Nat} (a1 a2 a3 : Int32) (σ : S5) (q : Np (d + 1) σ) : Kd (Np d) (f_X5_join a1 a2 a3 σ) := kd_gd (kd_bd2 (ad_p _ _ _ _ (Np_pA _ _ _ _ (by decide) q)) (fun _ _ q => kd_some q))
theorem kn_f_X5_readAtom_b185 (E : S5 → Option (Int32 × S5)) {d : Nat} (v2 : Int32) (σ : S5) (q : Np d σ) : Kd (Np d) (f_X5_readAtom_b185 E v2 σ) := kd_bd (kn_f_X10_advance _ q) (fun _ _ q => kd_some q)
theorem kn_f_X5_readAtom (E : S5 → Option (Int32 × S5)) (hE : EN E) {d : Nat} (σ : S5) (q : Np d σ) : Kd (Np d) (f_X5_readAtom E σ) := by
  unfold f_X5_readAtom
  refine kd_ite (kd_some q) (kd_ite ?_ (kd_bd2 (kn_cp _ q) (fun _ _ q => kd_ite2 (fun h => kd_some (Or.inl h)) (fun _ => kd_ite ?_ (kd_ite ?_ (kd_ite ?_ ?_))))))
  · exact kd_bd (kn_f_X10_advance _ (Np_pI _ _ _ (by decide) q)) (fun _ _ q => kd_bd (hE _ _ q) (fun _ _ q => kd_bd (kn_f_X5_expect _ _ q) (fun _ _ q => kd_some (Np_pI _ _ _ (by decide) q))))
  · exact kd_bd2 (kn_leaf _ _ _ q) (fun _ _ q => kd_bd (kn_f_X6_addUse _ _ _ _ _ q) (fun _ _ q => kn_f_X5_readAtom_b185 E _ _ q))
  · exact kd_bd2 (kn_leaf _ _ _ q) (fun _ _ q => kn_f_X5_readAtom_b185 E _ _ q)
  · exact kd_bd2 (kn_f_X4_constructorOf _ _ q) (fun _ _ q => kd_bd2 (kn_leaf _ _ _ q) (fun _ _ q => kn_f_X5_readAtom_b185 E _ _ q))
  · exact kd_bd2 (kn_leaf _ _ _ q) (fun _ _ q => kn_f_X5_readAtom_b185 E _ _ q)
theorem kn_b81 (E : S5 → Option (Int32 × S5)) {d : Nat} (v1 v2 : Int32) (σ : S5) (q : Np (d + 1) σ) : Kd (Np d) (f_X5_readBuild_b81 E v1 v2 σ) := kd_bd2 (ad_p _ _ _ _ q) (fun _ _ q => kd_some q)
theorem kn_L14 (E : S5 → Option (Int32 × S5)) (hE : EN E) {d : Nat} : ∀ (n : Nat) (v1 v2 v3 v4 : Int32) (σ : S5), ((v4 = 0 ∧ Np d σ ∧ (gI σ 17 = 0 ∨ 0 < xA σ 2 v1)) ∨ (0 < v4 ∧ Np (d + 1) σ)) → Kd (Np d) (f_X5_readBuild_L14 E n v1 v2 v3 v4 σ)
  | 0, _, _, _, _, _, _ => kd_none
  | n + 1, v1, v2, v3, v4, σ, h => by
    show Kd _ (f_X5_readBuild_B14 _ _ _ _ _ _ _)
    unfold f_X5_readBuild_B14 f_X5_readBuild_b44 f_X5_readBuild_b72
    refine kd_gd (kd_ite2 (fun h2 => ?_) (fun h2 => ?_))
    · refine kn_b81 E _ _ _ ?_
      rcases h with ⟨a, b, c | c⟩ | ⟨a, b⟩
      · exact Or.inl c
      · rw [a] at h2; exact absurd c (by grind)
      · exact b
    · have hpos : 0 ≤ v4 := by
        rcases h with ⟨a, _⟩ | ⟨a, _⟩
        · rw [a]; exact Int32.le_refl _
        · grind
      have hv : 0 < v4 + 1 := by grind
      have tail : ∀ τ, Np (d + 1) τ → Kd (Np d) (bd (f_X5_readAtom E τ) (fun r45 τ45 => if v3 = (-1) then f_X5_readBuild_L14 E n v1 r45 r45 (v4 + 1) τ45 else gd v3 6200 <| f_X5_readBuild_L14 E n v1 v2 r45 (v4 + 1) (pA τ45 17 v3 r45))) := fun τ q => kd_bd2 (kn_f_X5_readAtom E hE _ q) (fun _ _ q => kd_ite (kn_L14 E hE n _ _ _ _ _ (Or.inr ⟨hv, q⟩)) (kd_gd (kn_L14 E hE n _ _ _ _ _ (Or.inr ⟨hv, Np_pA _ _ _ _ (by decide) q⟩))))
      intro r τ e
      obtain ⟨r29, t29, e1, e2⟩ := bd_some e
      by_cases hr : r29 = 0
      · rw [if_pos hr] at e2
        exact kn_b81 E _ _ _ (Or.inl (kr_as σ r29 t29 e1 hr)) r τ e2
      · rw [if_neg hr] at e2
        rcases h with ⟨a, b, _⟩ | ⟨a, b⟩
        · rw [if_pos a] at e2
          exact (kd_bd2 (kn_cp _ (kn_f_X5_atomStands _ b _ _ e1)) (fun _ _ q => tail _ q)) r τ e2
        · rw [if_neg (by grind)] at e2
          exact tail _ (kn_f_X5_atomStands _ b _ _ e1) r τ e2
theorem kn_f_X5_readBuild (E : S5 → Option (Int32 × S5)) (hE : EN E) {d : Nat} (a1 : Int32) (σ : S5) (q : Np d σ) (h2 : 0 < xA σ 2 a1) : Kd (Np d) (f_X5_readBuild E a1 σ) := by
  intro r τ e
  obtain ⟨_, t, e1, e2⟩ := bd_some e
  exact kn_L14 E hE _ _ _ _ _ _ (Or.inl ⟨rfl, kn_f_X10_advance _ q _ _ e1, Or.inr (by rw [ka2 σ t a1 e1]; exact h2)⟩) r τ e2
theorem kn_b139 (E : S5 → Option (Int32 × S5)) {d : Nat} (v1 v3 : Int32) (σ : S5) (h : (v3 = 0 ∧ Np d σ) ∨ (¬ v3 = 0 ∧ Np (d + 1) σ)) : Kd (Np d) (f_X5_readApplication_b139 E v1 v3 σ) := by
  unfold f_X5_readApplication_b139
  rcases h with ⟨a, b⟩ | ⟨a, b⟩
  · rw [if_pos a]; exact kd_some b
  · rw [if_neg a]; exact kd_bd2 (ad_p _ _ _ _ b) (fun _ _ q => kd_some q)
theorem kn_L67 (E : S5 → Option (Int32 × S5)) (hE : EN E) {d : Nat} : ∀ (n : Nat) (v1 v2 v3 : Int32) (σ : S5), 0 ≤ v3 → ((v3 = 0 ∧ Np d σ) ∨ (¬ v3 = 0 ∧ Np (d + 1) σ)) → Kd (Np d) (f_X5_readApplication_L67 E n v1 v2 v3 σ)
  | 0, _, _, _, _, _, _ => kd_none
  | n + 1, v1, v2, v3, σ, h0, h => by
    show Kd _ (f_X5_readApplication_B67 _ _ _ _ _ _)
    unfold f_X5_readApplication_B67 f_X5_readApplication_b113
    refine kd_ite2 (fun _ => kn_b139 E _ _ _ h) (fun h5 => ?_)
    have hv : 0 ≤ v3 + 1 ∧ ¬ v3 + 1 = 0 := by constructor <;> grind
    have tail : ∀ τ, Np (d + 1) τ → Kd (Np d) (bd (f_X5_readAtom E τ) (fun r114 τ114 => gd v2 6200 <| f_X5_readApplication_L67 E n v1 r114 (v3 + 1) (pA τ114 17 v2 r114))) := fun τ q => kd_bd2 (kn_f_X5_readAtom E hE _ q) (fun _ _ q => kd_gd (kn_L67 E hE n _ _ _ _ hv.1 (Or.inr ⟨hv.2, Np_pA _ _ _ _ (by decide) q⟩)))
    intro r τ e
    obtain ⟨r79, t79, e1, e2⟩ := bd_some e
    have h79 : (v3 = 0 ∧ Np d t79) ∨ (¬ v3 = 0 ∧ Np (d + 1) t79) := h.elim (fun w => Or.inl ⟨w.1, kn_f_X5_isAtom _ _ w.2 _ _ e1⟩) (fun w => Or.inr ⟨w.1, kn_f_X5_isAtom _ _ w.2 _ _ e1⟩)
    by_cases hr : r79 = 0
    · rw [if_pos hr] at e2
      exact kn_b139 E _ _ _ h79 r τ e2
    · rw [if_neg hr] at e2
      obtain ⟨r86, t86, e3, e4⟩ := bd_some e2
      have h86 : (v3 = 0 ∧ Np d t86) ∨ (¬ v3 = 0 ∧ Np (d + 1) t86) := h79.elim (fun w => Or.inl ⟨w.1, kn_f_X5_atomStands _ w.2 _ _ e3⟩) (fun w => Or.inr ⟨w.1, kn_f_X5_atomStands _ w.2 _ _ e3⟩)
      by_cases hr2 : r86 = 0
      · rw [if_pos hr2] at e4
        exact kn_b139 E _ _ _ h86 r τ e4
      · rw [if_neg hr2] at e4
        by_cases h55 : v3 = 5
        · rw [if_pos h55] at e4
          rcases h86 with w | w
          · exact absurd h55 (by rw [w.1]; decide)
          · exact (kd_bd2 (kn_ref0 _ _ w.2) (fun _ _ q => tail _ (Or.inl q))) r τ e4
        · rw [if_neg h55] at e4
          rcases h86 with w | w
          · rw [if_pos w.1] at e4
            exact (kd_bd2 (kn_cp _ w.2) (fun _ _ q => tail _ q)) r τ e4
          · rw [if_neg w.1] at e4
            exact tail _ w.2 r τ e4
theorem kn_b49 (E : S5 → Option (Int32 × S5)) (hE : EN E) {d : Nat} (σ : S5) (q : Np d σ) : Kd (Np d) (f_X5_readApplication_b49 E σ) := kd_bd (kn_f_X5_atomStands _ q) (fun _ _ q => kd_ite (kd_some q) (kd_bd (kn_f_X5_readAtom E hE _ q) (fun _ _ q => kn_L67 E hE _ _ _ _ _ (Int32.le_refl _) (Or.inl ⟨rfl, q⟩))))
theorem kn_f_X5_readApplication (E : S5 → Option (Int32 × S5)) (hE : EN E) {d : Nat} (σ : S5) (q : Np d σ) : Kd (Np d) (f_X5_readApplication E σ) := by
  unfold f_X5_readApplication
  exact kd_ite (kd_bd (kn_f_X4_constructorOf _ _ q) (fun _ _ q => kd_ite (kn_b49 E hE _ q) (kd_gd (kd_ite2 (fun _ => kn_b49 E hE _ q) (fun h => kd_bd (kn_f_X5_readBuild E hE _ _ q (by grind)) (fun _ _ q => kd_some q)))))) (kn_b49 E hE _ q)
theorem kn_readProduct_L7 (E : S5 → Option (Int32 × S5)) (hE : EN E) {d : Nat} : ∀ (n : Nat) (v1 v2 : Int32) (σ : S5), Np d σ → Kd (Np d) (f_X5_readProduct_L7 E n v1 v2 σ)
  | 0, _, _, _, _ => kd_none
  | n + 1, v1, v2, σ, q => by
    show Kd _ (f_X5_readProduct_B7 _ _ _ _ _)
    unfold f_X5_readProduct_B7 f_X5_readProduct_b50
    have st : ∀ τ, Np d τ → Kd (Np d) (bd (f_X5_readSign τ) (fun r51 τ51 => bd (f_X5_readApplication E τ51) (fun r59 τ59 => bd (f_X5_join r51 v1 r59 τ59) (fun r62 τ62 => f_X5_readProduct_L7 E n r62 (v2 + 1) τ62)))) := fun τ q => kd_bd2 (kn_sg _ q) (fun _ _ q => kd_bd2 (kn_f_X5_readApplication E hE _ q) (fun _ _ q => kd_bd2 (kn_jn _ _ _ _ q) (fun _ _ q => kn_readProduct_L7 E hE n _ _ _ q)))
    exact kd_ite (kd_some q) (kd_ite (st _ q) (kd_ite (st _ q) (kd_ite (st _ q) (kd_some q))))
theorem kn_f_X5_readProduct (E : S5 → Option (Int32 × S5)) (hE : EN E) {d : Nat} (σ : S5) (q : Np d σ) : Kd (Np d) (f_X5_readProduct E σ) := kd_bd (kn_f_X5_readApplication E hE _ q) (fun _ _ q => kn_readProduct_L7 E hE _ _ _ _ q)
theorem kn_readSum_L7 (E : S5 → Option (Int32 × S5)) (hE : EN E) {d : Nat} : ∀ (n : Nat) (v1 v2 : Int32) (σ : S5), Np d σ → Kd (Np d) (f_X5_readSum_L7 E n v1 v2 σ)
  | 0, _, _, _, _ => kd_none
  | n + 1, v1, v2, σ, q => by
    show Kd _ (f_X5_readSum_B7 _ _ _ _ _)
    unfold f_X5_readSum_B7 f_X5_readSum_b38
    have st : ∀ τ, Np d τ → Kd (Np d) (bd (f_X5_readSign τ) (fun r51 τ51 => bd (f_X5_readProduct E τ51) (fun r59 τ59 => bd (f_X5_join r51 v1 r59 τ59) (fun r62 τ62 => f_X5_readSum_L7 E n r62 (v2 + 1) τ62)))) := fun τ q => kd_bd2 (kn_sg _ q) (fun _ _ q => kd_bd2 (kn_f_X5_readProduct E hE _ q) (fun _ _ q => kd_bd2 (kn_jn _ _ _ _ q) (fun _ _ q => kn_readSum_L7 E hE n _ _ _ q)))
    exact kd_ite (kd_some q) (kd_ite (st _ q) (kd_ite (st _ q) (kd_some q)))
theorem kn_f_X5_readSum (E : S5 → Option (Int32 × S5)) (hE : EN E) {d : Nat} (σ : S5) (q : Np d σ) : Kd (Np d) (f_X5_readSum E σ) := kd_bd (kn_f_X5_readProduct E hE _ q) (fun _ _ q => kn_readSum_L7 E hE _ _ _ _ q)
theorem kn_b43 (E : S5 → Option (Int32 × S5)) (hE : EN E) {d : Nat} (v1 : Int32) (σ : S5) (q : Np d σ) : Kd (Np d) (f_X5_readComparison_b43 E v1 σ) := kd_bd2 (kn_sg _ q) (fun _ _ q => kd_bd2 (kn_f_X5_readSum E hE _ q) (fun _ _ q => kd_bd2 (kn_jn _ _ _ _ q) (fun _ _ q => kd_some q)))
theorem kn_f_X5_readComparison (E : S5 → Option (Int32 × S5)) (hE : EN E) {d : Nat} (σ : S5) (q : Np d σ) : Kd (Np d) (f_X5_readComparison E σ) := kd_bd (kn_f_X5_readSum E hE _ q) (fun _ _ q => kd_ite (kn_b43 E hE _ _ q) (kd_ite (kn_b43 E hE _ _ q) (kd_ite (kn_b43 E hE _ _ q) (kd_some q))))
theorem kn_f_X5_readWithin (E : S5 → Option (Int32 × S5)) (hE : EN E) {d : Nat} (a1 : Int32) (σ : S5) (q : Np d σ) : Kd (Np d) (f_X5_readWithin E a1 σ) := kd_bd (hE _ _ (Np_pI _ _ _ (by decide) q)) (fun _ _ q => kd_some (Np_pI _ _ _ (by decide) q))
theorem kn_b66 (E : S5 → Option (Int32 × S5)) (hE : EN E) {d : Nat} (v3 u0 : Int32) (σ : S5) (q : Np (d + 1) σ) : Kd (Np d) (f_X5_readLifted_b66 E v3 u0 σ) := kd_bd2 (kn_f_X5_expect _ _ q) (fun _ _ q => kd_bd2 (kn_f_X5_readWithin E hE _ _ q) (fun _ _ q => kd_gd (kd_bd2 (kn_leaf _ _ _ (Np_pA _ _ _ _ (by decide) q)) (fun _ _ q => kd_some q))))
theorem kn_lb49 (E : S5 → Option (Int32 × S5)) (hE : EN E) {d : Nat} (v2 v3 : Int32) (σ : S5) (q : Np (d + 1) σ) : Kd (Np d) (f_X5_readLifted_b49 E v2 v3 σ) := kd_bd2 (kn_f_X5_readParameters _ _ q) (fun _ _ q => kd_ite (kn_b66 E hE _ _ _ q) (kn_b66 E hE _ _ _ q))
theorem kn_b17 (E : S5 → Option (Int32 × S5)) (hE : EN E) {d : Nat} (v1 u0 : Int32) (σ : S5) (q : Np (d + 1) σ) : Kd (Np d) (f_X5_readLifted_b17 E v1 u0 σ) := kd_bd2 (kn_f_X6_add _ _ _ _ q) (fun _ _ q => kd_ite (kn_lb49 E hE _ _ _ q) (kd_bd2 (kn_f_X10_advance _ q) (fun _ _ q => kd_bd2 (kn_f_X5_declare _ _ q) (fun _ _ q => kn_lb49 E hE _ _ _ q))))
theorem kn_lifted (E : S5 → Option (Int32 × S5)) (hE : EN E) {d : Nat} (a1 : Int32) (σ : S5) (q : Np (d + 1) σ) : Kd (Np d) (f_X5_readLifted E a1 σ) := kd_ite (kn_b17 E hE _ _ _ q) (kn_b17 E hE _ _ _ q)
theorem kn_b52 (E : S5 → Option (Int32 × S5)) {d : Nat} (v2 v3 : Int32) (σ : S5) (q : Np d σ) : Kd (Np d) (f_X5_readBinding_b52 E v2 v3 σ) := kd_bd (ad_n _ _ _ _ (by decide) q) (fun _ _ q => kd_some q)
theorem kn_f_X5_readBinding (E : S5 → Option (Int32 × S5)) (hE : EN E) {d : Nat} (σ : S5) (q : Np d σ) : Kd (Np d) (f_X5_readBinding E σ) := kd_bd (kn_f_X5_declare _ _ q) (fun _ _ q => kd_ite (kd_bd2 (kn_cp _ q) (fun _ _ q => kd_bd2 (kn_lifted E hE _ _ q) (fun _ _ q => kn_b52 E _ _ _ q))) (kd_bd (kn_f_X5_expect _ _ q) (fun _ _ q => kd_bd (hE _ _ q) (fun _ _ q => kn_b52 E _ _ _ q))))
theorem kn_b114 (E : S5 → Option (Int32 × S5)) (hE : EN E) {d : Nat} (v1 v2 v3 : Int32) (σ : S5) (q : Np (d + 1) σ) : Kd (Np d) (f_X5_readLet_b114 E v1 v2 v3 σ) := kd_bd2 (kn_f_X5_expect _ _ q) (fun _ _ q => kd_bd2 (hE _ _ q) (fun _ _ q => kd_gd (kd_bd2 (ad_p _ _ _ _ (Np_pI _ _ _ (by decide) (Np_pI _ _ _ (by decide) (Np_pA _ _ _ _ (by decide) q)))) (fun _ _ q => kd_some q))))
theorem kn_L61 (E : S5 → Option (Int32 × S5)) (hE : EN E) {d : Nat} : ∀ (n : Nat) (v1 v2 v3 v4 v5 : Int32) (σ : S5), Np (d + 1) σ → Kd (Np d) (f_X5_readLet_L61 E n v1 v2 v3 v4 v5 σ)
  | 0, _, _, _, _, _, _, _ => kd_none
  | n + 1, _, _, _, _, _, _, q => kd_ite (kn_b114 E hE _ _ _ _ q) (kd_ite (kd_bd2 (kn_f_X10_advance _ q) (fun _ _ q => kd_bd2 (kn_f_X5_readBinding E hE _ q) (fun _ _ q => kd_gd (kn_L61 E hE n _ _ _ _ _ _ (Np_pA _ _ _ _ (by decide) q))))) (kn_b114 E hE _ _ _ _ q))
theorem kn_f_X5_readLet (E : S5 → Option (Int32 × S5)) (hE : EN E) {d : Nat} (σ : S5) (q : Np d σ) : Kd (Np d) (f_X5_readLet E σ) := kd_bd (kn_f_X5_opens _ q) (fun _ _ q => kd_ite (kd_some q) (kd_bd2 (kn_cp _ q) (fun _ _ q => kd_bd2 (kn_f_X6_add _ _ _ _ q) (fun _ _ q => kd_bd2 (kn_f_X10_advance _ (Np_pI _ _ _ (by decide) q)) (fun _ _ q => kd_bd2 (kn_f_X5_readBinding E hE _ q) (fun _ _ q => kn_L61 E hE _ _ _ _ _ _ _ q))))))
theorem kn_f_X5_readLambda (E : S5 → Option (Int32 × S5)) (hE : EN E) {d : Nat} (σ : S5) (q : Np d σ) : Kd (Np d) (f_X5_readLambda E σ) := kd_bd (kn_f_X5_opens _ q) (fun _ _ q => kd_ite (kd_some q) (kd_bd2 (kn_cp _ q) (fun _ _ q => kd_bd2 (kn_lifted E hE _ _ q) (fun _ _ q => kd_some (Np_pI _ _ _ (by decide) q)))))
theorem kn_b214 (E : S5 → Option (Int32 × S5)) {d : Nat} (v4 v6 u0 : Int32) (σ : S5) (hu : 10 ≤ u0 ∧ u0 ≤ 13) (q : Np d σ) : Kd (Np d) (f_X5_readAlternative_b214 E v4 v6 u0 σ) := kd_bd (ad_n _ _ _ _ hu q) (fun _ _ q => kd_some q)
theorem kn_b163 (E : S5 → Option (Int32 × S5)) (hE : EN E) {d : Nat} (v2 v3 v4 v5 : Int32) (σ : S5) (q : Np d σ) : Kd (Np d) (f_X5_readAlternative_b163 E v2 v3 v4 v5 σ) := kd_bd (kn_f_X5_expect _ _ q) (fun _ _ q => kd_bd (kn_f_X5_readWithin E hE _ _ q) (fun _ _ q => kd_ite (kd_bd (ad_n _ _ _ _ (by decide) q) (fun _ _ q => kd_some q)) (kd_ite (kn_b214 E _ _ _ _ (by decide) q) (kn_b214 E _ _ _ _ (by decide) q))))
theorem kn_L136 (E : S5 → Option (Int32 × S5)) (hE : EN E) {d : Nat} : ∀ (n : Nat) (v2 v3 v4 v5 v6 : Int32) (σ : S5), Np d σ → Kd (Np d) (f_X5_readAlternative_L136 E n v2 v3 v4 v5 v6 σ)
  | 0, _, _, _, _, _, _, _ => kd_none
  | n + 1, _, _, _, _, _, _, q => kd_gd (kd_ite (kn_b163 E hE _ _ _ _ _ q) (kd_bd (kn_f_X5_declare _ _ q) (fun _ _ q => kn_L136 E hE n _ _ _ _ _ _ q)))
theorem kn_b85 (E : S5 → Option (Int32 × S5)) (hE : EN E) {d : Nat} (v2 v3 : Int32) (σ : S5) (q : Np d σ) : Kd (Np d) (f_X5_readAlternative_b85 E v2 v3 σ) := kd_bd (kn_f_X10_advance _ q) (fun _ _ q => kd_ite (kn_b163 E hE _ _ _ _ _ q) (kd_bd (kn_f_X6_add _ _ _ _ q) (fun _ _ q => kn_L136 E hE _ _ _ _ _ _ _ q)))
theorem kn_b74 (E : S5 → Option (Int32 × S5)) (hE : EN E) {d : Nat} (v1 v2 v3 : Int32) (σ : S5) (q : Np d σ) : Kd (Np d) (f_X5_readAlternative_b74 E v1 v2 v3 σ) := kd_ite (kn_b85 E hE _ _ _ q) (kd_bd (kn_f_X5_refuse _ _ q) (fun _ _ q => kn_b85 E hE _ _ _ q))
theorem kn_b56 (E : S5 → Option (Int32 × S5)) (hE : EN E) {d : Nat} (v1 v2 v3 : Int32) (σ : S5) (q : Np d σ) : Kd (Np d) (f_X5_readAlternative_b56 E v1 v2 v3 σ) := kd_ite (kd_ite (kd_bd (kn_f_X5_refuse _ _ q) (fun _ _ q => kn_b85 E hE _ _ _ q)) (kn_b74 E hE _ _ _ _ q)) (kn_b74 E hE _ _ _ _ q)
theorem kn_b31 (E : S5 → Option (Int32 × S5)) (hE : EN E) {d : Nat} (v1 v2 u0 : Int32) (σ : S5) (q : Np d σ) : Kd (Np d) (f_X5_readAlternative_b31 E v1 v2 u0 σ) := kd_ite (kn_b56 E hE _ _ _ _ q) (kd_ite (kn_b56 E hE _ _ _ _ q) (kd_ite (kn_b56 E hE _ _ _ _ q) (kd_bd (kn_f_X5_refuse _ _ q) (fun _ _ q => kn_b85 E hE _ _ _ q))))
theorem kn_f_X5_readAlternative (E : S5 → Option (Int32 × S5)) (hE : EN E) {d : Nat} (a1 : Int32) (σ : S5) (q : Np d σ) : Kd (Np d) (f_X5_readAlternative E a1 σ) := kd_ite (kd_bd (kn_f_X4_constructorOf _ _ q) (fun _ _ q => kn_b31 E hE _ _ _ _ q)) (kn_b31 E hE _ _ _ _ q)
theorem kn_b107 (E : S5 → Option (Int32 × S5)) {d : Nat} (v1 : Int32) (σ : S5) (q : Np (d + 1) σ) : Kd (Np d) (f_X5_readCase_b107 E v1 σ) := kd_bd2 (kn_f_X5_expect _ _ q) (fun _ _ q => kd_bd2 (ad_p _ _ _ _ (Np_pI _ _ _ (by decide) q)) (fun _ _ q => kd_some q))
theorem kn_L55 (E : S5 → Option (Int32 × S5)) (hE : EN E) {d : Nat} : ∀ (n : Nat) (v1 v2 v3 : Int32) (σ : S5), Np (d + 1) σ → Kd (Np d) (f_X5_readCase_L55 E n v1 v2 v3 σ)
  | 0, _, _, _, _, _ => kd_none
  | n + 1, _, _, _, _, q => kd_ite (kn_b107 E _ _ q) (kd_ite (kd_bd2 (kn_f_X10_advance _ q) (fun _ _ q => kd_bd2 (kn_f_X5_readAlternative E hE _ _ q) (fun _ _ q => kd_gd (kn_L55 E hE n _ _ _ _ (Np_pA _ _ _ _ (by decide) q))))) (kn_b107 E _ _ q))
theorem kn_f_X5_readCase (E : S5 → Option (Int32 × S5)) (hE : EN E) {d : Nat} (σ : S5) (q : Np d σ) : Kd (Np d) (f_X5_readCase E σ) := kd_bd (kn_f_X5_opens _ q) (fun _ _ q => kd_ite (kd_some q) (kd_bd2 (kn_cp _ q) (fun _ _ q => kd_bd2 (kn_f_X10_advance _ q) (fun _ _ q => kd_bd2 (hE _ _ q) (fun _ _ q => kd_bd2 (kn_f_X5_expect _ _ q) (fun _ _ q => kd_bd2 (kn_f_X5_expect _ _ q) (fun _ _ q => kd_bd2 (kn_f_X5_readAlternative E hE _ _ q) (fun _ _ q => kd_gd (kn_L55 E hE _ _ _ _ _ (Np_pA _ _ _ _ (by decide) q))))))))))
theorem kn_f_X5_readExpression (E : S5 → Option (Int32 × S5)) (hE : EN E) {d : Nat} (σ : S5) (q : Np d σ) : Kd (Np d) (f_X5_readExpression E σ) := kd_ite (kd_bd (kn_f_X5_readLet E hE _ q) (fun _ _ q => kd_some q)) (kd_ite (kd_bd (kn_f_X5_readCase E hE _ q) (fun _ _ q => kd_some q)) (kd_ite (kd_bd (kn_f_X5_readLambda E hE _ q) (fun _ _ q => kd_some q)) (kd_bd (kn_f_X5_readComparison E hE _ q) (fun _ _ q => kd_some q))))
theorem kn_b62 (E : S5 → Option (Int32 × S5)) (hE : EN E) {d : Nat} (σ : S5) (q : Np d σ) : Kd (Np d) (f_X5_readFunction_b62 E σ) := kd_ite (kd_some q) (kd_bd (kn_f_X6_add _ _ _ _ q) (fun _ _ q => kd_bd (kn_f_X4_addTop _ _ _ q) (fun _ _ q => kd_bd (kn_f_X10_advance _ q) (fun _ _ q => kd_bd (kn_f_X5_readParameters _ _ q) (fun _ _ q => kd_bd (kn_f_X5_expect _ _ q) (fun _ _ q => kd_bd (kn_f_X5_readWithin E hE _ _ q) (fun _ _ q => kd_gd (kd_bd (kn_f_X5_expect _ _ (Np_pA _ _ _ _ (by decide) q)) (fun _ _ q => kd_some q)))))))))
theorem kn_f_X5_readFunction (E : S5 → Option (Int32 × S5)) (hE : EN E) {d : Nat} (σ : S5) (q : Np d σ) : Kd (Np d) (f_X5_readFunction E σ) := kd_ite (kd_bd (kn_f_X4_topOf _ _ q) (fun _ _ q => kd_ite (kd_ite (kn_b62 E hE _ q) (kd_bd (kn_f_X5_refuse _ _ q) (fun _ _ q => kn_b62 E hE _ q))) (kd_bd (kn_f_X5_refuse _ _ q) (fun _ _ q => kn_b62 E hE _ q)))) (kd_bd (kn_f_X5_refuse _ _ q) (fun _ _ q => kn_b62 E hE _ q))
theorem kn_L90 (E : S5 → Option (Int32 × S5)) (hE : EN E) {d : Nat} : ∀ (n : Nat) (v1 : Int32) (σ : S5), Np d σ → Kd (Np d) (f_X5_readText_L90 E n v1 σ)
  | 0, _, _, _ => kd_none
  | n + 1, _, _, q => kd_ite (kd_some q) (kd_ite (kd_some q) (kd_ite (kd_some q) (kd_bd (kn_f_X5_readFunction E hE _ q) (fun _ _ q => kn_L90 E hE n _ _ q))))
theorem kn_b84 (E : S5 → Option (Int32 × S5)) (hE : EN E) {d : Nat} (σ : S5) (q : Np d σ) : Kd (Np d) (f_X5_readText_b84 E σ) := kd_bd (kn_f_X5_readFunction E hE _ q) (fun _ _ q => kn_L90 E hE _ _ _ q)
theorem kn_tL55 (E : S5 → Option (Int32 × S5)) (hE : EN E) {d : Nat} : ∀ (n : Nat) (v1 : Int32) (σ : S5), Np d σ → Kd (Np d) (f_X5_readText_L55 E n v1 σ)
  | 0, _, _, _ => kd_none
  | n + 1, _, _, q => kd_ite (kn_b84 E hE _ q) (kd_ite (kd_bd (kn_f_X5_readData _ q) (fun _ _ q => kn_tL55 E hE n _ _ q)) (kn_b84 E hE _ q))
theorem en_readE : ∀ j : Nat, EN (f_readE j)
  | 0 => fun _ _ _ => kd_none
  | j + 1 => fun _ σ q => kn_f_X5_readExpression _ (en_readE j) σ q
/-- there are not more parts than were counted -/
theorem np_text {σ τ : S5} (e : f_X5_readText (f_readE 64) σ = some ((), τ)) (h : ¬ gI τ 17 = 0) : prI (wp τ) (gI τ 8) ≤ (gI τ 13).toNatClampNeg := by
  obtain ⟨_, t1, e1, e2⟩ := bd_some e
  cases e1
  obtain ⟨_, t2, e3, e4⟩ := bd_some e2
  have h8 : gI t2 8 = 0 := by
    cases e3
    rfl
  obtain ⟨_, t3, e5, e6⟩ := bd_some e4
  cases e5
  obtain ⟨_, t4, e7, e8⟩ := bd_some e6
  have q0 : Qf 0 (pI (pI (pI (pI (pI (pI (pI t2 9 0) 10 0) 11 0) 12 (-1)) 13 0) 14 0) 15 (-1)) := by
    refine ⟨rfl, ⟨Int32.le_refl _, show (0 : Int32) ≤ 600 from by decide⟩, ?_, ?_, ?_⟩
    · show 0 ≤ gI t2 8
      rw [h8]; exact Int32.le_refl _
    · show gI t2 8 ≤ 6200
      rw [h8]; decide
    · show prI _ (gI t2 8) + 0 ≤ _
      rw [h8]
      exact Nat.zero_le _
  have q1 : Np 0 t4 := by
    obtain ⟨_, t5, e9, e10⟩ := bd_some e7
    cases e10
    exact kn_f_X10_advance _ (Or.inr (Qf_pI _ _ _ (by decide) (Qf_pI _ _ _ (by decide) q0))) _ _ e9
  rcases kn_tL55 _ (en_readE 64) _ _ _ q1 _ _ e8 with w | w
  · exact absurd w h
  · exact w.2.2.2.2
