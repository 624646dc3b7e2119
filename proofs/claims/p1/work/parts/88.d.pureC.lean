


def f_X8_clear_text  (σ : S5) : Option (Unit × S5) :=
  some ((), (pI (pI σ 0 0) 1 0))
def f_X8_add_text (a1 : Int32) (σ : S5) : Option (Unit × S5) :=
  if (gI σ 0) < 3000 then
    (gd (gI σ 0) 3000 <| some ((), (pI (pA σ 0 (gI σ 0) (vp_nar .byte ((a1).toInt8.toInt32))) 0 ((gI σ 0) + 1))))
  else
    (some ((), (pI σ 1 1)))
def f_X8_clear_draft  (σ : S5) : Option (Unit × S5) :=
  some ((), (pI (pI σ 2 0) 3 0))
def f_X8_add_draft (a1 : Int32) (σ : S5) : Option (Unit × S5) :=
  if (gI σ 2) < 12000 then
    (gd (gI σ 2) 12000 <| some ((), (pI (pA σ 1 (gI σ 2) (vp_nar .byte ((a1).toInt8.toInt32))) 2 ((gI σ 2) + 1))))
  else
    (some ((), (pI σ 3 1)))
def f_X8_addNumber_draft_B29 (rec29 : Int32 → Int32 → S5 → Option (Unit × S5)) (v1 : Int32) (v2 : Int32) (σ : S5) : Option (Unit × S5) :=
  if v2 ≤ 0 then
    (some ((), σ))
  else
    (gz v2 <| bd (f_X8_add_draft ((48 + ((v1 / v2) - (v1 / v2) / 10 * 10))) σ) (fun _ τ43 =>
    rec29 (v1) ((v2 / 10)) τ43))
def f_X8_addNumber_draft_L29 : Nat → Int32 → Int32 → S5 → Option (Unit × S5)
  | 0, _, _, _ => none
  | n + 1, v1, v2, σ => f_X8_addNumber_draft_B29 (f_X8_addNumber_draft_L29  n) v1 v2 σ
def f_X8_addNumber_draft_B4 (rec4 : Int32 → Int32 → Int32 → S5 → Option (Unit × S5)) (v1 : Int32) (v2 : Int32) (v3 : Int32) (σ : S5) : Option (Unit × S5) :=
  if 9 ≤ v3 then
    (f_X8_addNumber_draft_L29  FU (v1) (v2) σ)
  else
    (gz v2 <| if (v1 / v2) < 10 then
      (f_X8_addNumber_draft_L29  FU (v1) (v2) σ)
    else
      (rec4 (v1) ((v2 * 10)) ((v3 + 1)) σ))
def f_X8_addNumber_draft_L4 : Nat → Int32 → Int32 → Int32 → S5 → Option (Unit × S5)
  | 0, _, _, _, _ => none
  | n + 1, v1, v2, v3, σ => f_X8_addNumber_draft_B4 (f_X8_addNumber_draft_L4  n) v1 v2 v3 σ
def f_X8_addNumber_draft (a1 : Int32) (σ : S5) : Option (Unit × S5) :=
  f_X8_addNumber_draft_L4  FU (a1) (1) (0) σ
def f_X8_addName_draft_b28 (rec3 : Int64 → Int32 → S5 → Option (Unit × S5)) (v1 : Int64) (v3 : Int32) (σ : S5) : Option (Unit × S5) :=
  rec3 (v1) ((v3 + (-8))) σ
def f_X8_addName_draft_B3 (rec3 : Int64 → Int32 → S5 → Option (Unit × S5)) (v1 : Int64) (v3 : Int32) (σ : S5) : Option (Unit × S5) :=
  if v3 < 0 then
    (some ((), σ))
  else
    (if ((((j_lushr v1 v3) : Int64).toInt32) &&& 255) = 0 then
      (f_X8_addName_draft_b28 rec3 (v1) (v3) σ)
    else
      (bd (f_X8_add_draft (((((j_lushr v1 v3) : Int64).toInt32) &&& 255)) σ) (fun _ τ25 =>
      f_X8_addName_draft_b28 rec3 (v1) (v3) τ25)))
def f_X8_addName_draft_L3 : Nat → Int64 → Int32 → S5 → Option (Unit × S5)
  | 0, _, _, _ => none
  | n + 1, v1, v3, σ => f_X8_addName_draft_B3 (f_X8_addName_draft_L3  n) v1 v3 σ
def f_X8_addName_draft (a1 : Int64) (σ : S5) : Option (Unit × S5) :=
  f_X8_addName_draft_L3  FU (a1) (56) σ
def f_X8_signAt_text (a1 : Int32) (σ : S5) : Option (Int32 × S5) :=
  if a1 < 0 then
    (some (((-1) : Int32), σ))
  else
    (if (gI σ 0) ≤ a1 then
      (some (((-1) : Int32), σ))
    else
      (gd a1 3000 <| some ((xA σ 0 a1), σ)))
def f_J0_coder_7d493 (zi : Nat) (σ : S5) : Option (Int32 × S5) :=
  gs zi sN <| some ((0 : Int32), σ)
def f_J0_isLatin1_aae02 (zi : Nat) (σ : S5) : Option (Int32 × S5) :=
  gs zi sN <| some ((1 : Int32), σ)
def f_J0_length_8abf5 (zi : Nat) (σ : S5) : Option (Int32 × S5) :=
  gs zi sN <| gs zi sN <| bd (f_J0_coder_7d493 zi  σ) (fun r6 τ6 =>
  gs zi sN <| some (((Int32.ofNat (sLen.getD zi 0)) >>> (r6 &&& 31)), τ6))
def f_J3_checkIndex_8e157 (a0 : Int32) (a1 : Int32) (σ : S5) : Option (Int32 × S5) :=
  if a0 < 0 then
    (none)
  else
    (if a0 < a1 then
      (some (a0, σ))
    else
      (none))

def f_J0_checkIndex_df160 (a0 : Int32) (a1 : Int32) (σ : S5) : Option (Unit × S5) :=
  bd (f_J3_checkIndex_8e157 (a0) (a1) σ) (fun r5 τ5 =>
  some ((), τ5))
def f_J1_canEncode_9a6ad (a0 : Int32) (σ : S5) : Option (Int32 × S5) :=
  if a0 < 0 then
    (some ((0 : Int32), σ))
  else
    (if 255 < a0 then
      (some ((0 : Int32), σ))
    else
      (some ((1 : Int32), σ)))
def f_J1_charAt_3b067 (zi : Nat) (a1 : Int32) (σ : S5) : Option (Int32 × S5) :=
  gs zi sN <| bd (f_J0_checkIndex_df160 (a1) ((Int32.ofNat (sLen.getD zi 0))) σ) (fun _ τ3 =>
  gs zi sN <| gd a1 (sLen.getD zi 0) <| gc ((((((sByt.getD zi []).getD (a1).toNatClampNeg 0) &&& 255)).toUInt32 % 65536).toInt32) <| some (((((((sByt.getD zi []).getD (a1).toNatClampNeg 0) &&& 255)).toUInt32 % 65536).toInt32), τ3))
def f_J1_indexOfChar_4cfef_B7 (rec7 : Nat → Int32 → Int32 → Int32 → S5 → Option (Int32 × S5)) (zi : Nat) (v3 : Int32) (v4 : Int32) (v5 : Int32) (σ : S5) : Option (Int32 × S5) :=
  if v3 ≤ v5 then
    (some (((-1) : Int32), σ))
  else
    (gs zi sN <| gd v5 (sLen.getD zi 0) <| if ((sByt.getD zi []).getD (v5).toNatClampNeg 0) = v4 then
      (some (v5, σ))
    else
      (rec7 (zi) (v3) (v4) ((v5 + 1)) σ))
def f_J1_indexOfChar_4cfef_L7 : Nat → Nat → Int32 → Int32 → Int32 → S5 → Option (Int32 × S5)
  | 0, _, _, _, _, _ => none
  | n + 1, zi, v3, v4, v5, σ => f_J1_indexOfChar_4cfef_B7 (f_J1_indexOfChar_4cfef_L7  n) zi v3 v4 v5 σ
def f_J1_indexOfChar_4cfef (zi : Nat) (a1 : Int32) (a2 : Int32) (a3 : Int32) (σ : S5) : Option (Int32 × S5) :=
  f_J1_indexOfChar_4cfef_L7  FU (zi) (a3) (((a1).toInt8.toInt32)) (a2) σ
def f_J1_indexOf_4cfef (zi : Nat) (a1 : Int32) (a2 : Int32) (a3 : Int32) (σ : S5) : Option (Int32 × S5) :=
  bd (f_J1_canEncode_9a6ad (a1) σ) (fun r1 τ1 =>
  if r1 = 0 then
    (some (((-1) : Int32), τ1))
  else
    (gs zi sN <| if (if a2 < 0 then 0 else a2) < (if (Int32.ofNat (sLen.getD zi 0)) < a3 then (Int32.ofNat (sLen.getD zi 0)) else a3) then
      (bd (f_J1_indexOfChar_4cfef zi (a1) ((if a2 < 0 then 0 else a2)) ((if (Int32.ofNat (sLen.getD zi 0)) < a3 then (Int32.ofNat (sLen.getD zi 0)) else a3)) τ1) (fun r33 τ33 =>
      some (r33, τ33)))
    else
      (some (((-1) : Int32), τ1))))
def f_J0_charAt_5068e (zi : Nat) (a1 : Int32) (σ : S5) : Option (Int32 × S5) :=
  bd (f_J0_isLatin1_aae02 zi  σ) (fun r1 τ1 =>
  gs zi sN <| if r1 = 0 then
    (none)
  else
    (gs zi sN <| bd (f_J1_charAt_3b067 zi (a1) τ1) (fun r12 τ12 =>
    gc r12 <| some (r12, τ12))))
def f_J0_indexOf_7cf53 (zi : Nat) (a1 : Int32) (a2 : Int32) (σ : S5) : Option (Int32 × S5) :=
  bd (f_J0_isLatin1_aae02 zi  σ) (fun r1 τ1 =>
  gs zi sN <| if r1 = 0 then
    (none)
  else
    (gs zi sN <| bd (f_J0_length_8abf5 zi  τ1) (fun r14 τ14 =>
    gs zi sN <| bd (f_J1_indexOf_4cfef zi (a1) (a2) (r14) τ14) (fun r17 τ17 =>
    some (r17, τ17)))))
def f_J0_indexOf_0f7a4 (zi : Nat) (a1 : Int32) (σ : S5) : Option (Int32 × S5) :=
  bd (f_J0_indexOf_7cf53 zi (a1) (0) σ) (fun r3 τ3 =>
  gs zi sN <| some (r3, τ3))
def f_X8_addText_draft_B2 (rec2 : Nat → Int32 → S5 → Option (Unit × S5)) (zi : Nat) (v2 : Int32) (σ : S5) : Option (Unit × S5) :=
  bd (f_J0_length_8abf5 zi  σ) (fun r4 τ4 =>
  gs zi sN <| if r4 ≤ v2 then
    (some ((), τ4))
  else
    (bd (f_J0_charAt_5068e zi (v2) τ4) (fun r13 τ13 =>
    gs zi sN <| bd (f_X8_add_draft (r13) τ13) (fun _ τ16 =>
    rec2 (zi) ((v2 + 1)) τ16))))
def f_X8_addText_draft_L2 : Nat → Nat → Int32 → S5 → Option (Unit × S5)
  | 0, _, _, _ => none
  | n + 1, zi, v2, σ => f_X8_addText_draft_B2 (f_X8_addText_draft_L2  n) zi v2 σ
def f_X8_addText_draft (zi : Nat) (σ : S5) : Option (Unit × S5) :=
  f_X8_addText_draft_L2  FU (zi) (0) σ
def f_X10_isSmall (a0 : Int32) (σ : S5) : Option (Int32 × S5) :=
  if a0 < 97 then
    (some ((0 : Int32), σ))
  else
    (if 122 < a0 then
      (some ((0 : Int32), σ))
    else
      (some ((1 : Int32), σ)))
def f_X10_isGreat (a0 : Int32) (σ : S5) : Option (Int32 × S5) :=
  if a0 < 65 then
    (some ((0 : Int32), σ))
  else
    (if 90 < a0 then
      (some ((0 : Int32), σ))
    else
      (some ((1 : Int32), σ)))
def f_X10_isDigit (a0 : Int32) (σ : S5) : Option (Int32 × S5) :=
  if a0 < 48 then
    (some ((0 : Int32), σ))
  else
    (if 57 < a0 then
      (some ((0 : Int32), σ))
    else
      (some ((1 : Int32), σ)))
def f_X10_stop  (σ : S5) : Option (Unit × S5) :=
  some ((), (pI σ 17 0))
def f_X10_passBlanks_b61 (rec2 : Int32 → S5 → Option (Unit × S5)) (v1 : Int32) (σ : S5) : Option (Unit × S5) :=
  rec2 (v1) (pI σ 16 ((gI σ 16) + 1))
def f_X10_passBlanks_B2 (rec2 : Int32 → S5 → Option (Unit × S5)) (v1 : Int32) (σ : S5) : Option (Unit × S5) :=
  if (gI σ 0) ≤ (gI σ 16) then
    (some ((), σ))
  else
    (bd (f_X8_signAt_text ((gI σ 16)) σ) (fun r24 τ24 =>
    if r24 = 10 then
      (f_X10_passBlanks_b61 rec2 (0) τ24)
    else
      (if r24 = 35 then
        (f_X10_passBlanks_b61 rec2 (1) τ24)
      else
        (if r24 = 32 then
          (f_X10_passBlanks_b61 rec2 (v1) τ24)
        else
          (if v1 = 0 then
            (some ((), τ24))
          else
            (f_X10_passBlanks_b61 rec2 (v1) τ24))))))
def f_X10_passBlanks_L2 : Nat → Int32 → S5 → Option (Unit × S5)
  | 0, _, _ => none
  | n + 1, v1, σ => f_X10_passBlanks_B2 (f_X10_passBlanks_L2  n) v1 σ
def f_X10_passBlanks  (σ : S5) : Option (Unit × S5) :=
  f_X10_passBlanks_L2  FU (0) σ
def f_X10_kindOfName  (σ : S5) : Option (Int32 × S5) :=
  if (lg_cmp (gJ σ 0) 1684108385) = 0 then
    (some ((6 : Int32), σ))
  else
    (if (lg_cmp (gJ σ 0) 7103860) = 0 then
      (some ((7 : Int32), σ))
    else
      (if (lg_cmp (gJ σ 0) 26990) = 0 then
        (some ((8 : Int32), σ))
      else
        (if (lg_cmp (gJ σ 0) 1667330917) = 0 then
          (some ((9 : Int32), σ))
        else
          (if (lg_cmp (gJ σ 0) 28518) = 0 then
            (some ((10 : Int32), σ))
          else
            (if (lg_cmp (gJ σ 0) 1717660012) = 0 then
              (some ((11 : Int32), σ))
            else
              (some ((3 : Int32), σ)))))))
def f_X10_readName_b113 (u0 : Int32) (σ : S5) : Option (Unit × S5) :=
  some ((), (pI σ 17 u0))
def f_X10_readName_b83 (v1 : Int32) (v2 : Int32) (σ : S5) : Option (Unit × S5) :=
  if v2 ≤ 8 then
    (bd (f_X10_isGreat (v1) σ) (fun r99 τ99 =>
    if r99 = 0 then
      (bd (f_X10_kindOfName  τ99) (fun r110 τ110 =>
      f_X10_readName_b113  (r110) τ110))
    else
      (f_X10_readName_b113  (4) τ99)))
  else
    (some ((), (pI σ 17 2)))
def f_X10_readName_b41 (rec9 : Int32 → Int32 → Int32 → S5 → Option (Unit × S5)) (v1 : Int32) (v2 : Int32) (v3 : Int32) (σ : S5) : Option (Unit × S5) :=
  bd (f_X8_signAt_text (((gI σ 16) + 1)) (pI (pJ σ 0 ((j_lshl (gJ σ 0) 8) ||| ((v3).toInt64))) 16 ((gI σ 16) + 1))) (fun r73 τ73 =>
  rec9 (v1) ((v2 + 1)) (r73) τ73)
def f_X10_readName_B9 (rec9 : Int32 → Int32 → Int32 → S5 → Option (Unit × S5)) (v1 : Int32) (v2 : Int32) (v3 : Int32) (σ : S5) : Option (Unit × S5) :=
  if (gI σ 0) ≤ (gI σ 16) then
    (f_X10_readName_b83  (v1) (v2) σ)
  else
    (if v2 = 0 then
      (f_X10_readName_b41 rec9 (v1) (v2) (v3) σ)
    else
      (bd (f_X10_isSmall (v3) σ) (fun r28 τ28 =>
      if r28 = 0 then
        (bd (f_X10_isDigit (v3) τ28) (fun r35 τ35 =>
        if r35 = 0 then
          (f_X10_readName_b83  (v1) (v2) τ35)
        else
          (f_X10_readName_b41 rec9 (v1) (v2) (v3) τ35)))
      else
        (f_X10_readName_b41 rec9 (v1) (v2) (v3) τ28))))
def f_X10_readName_L9 : Nat → Int32 → Int32 → Int32 → S5 → Option (Unit × S5)
  | 0, _, _, _, _ => none
  | n + 1, v1, v2, v3, σ => f_X10_readName_B9 (f_X10_readName_L9  n) v1 v2 v3 σ
def f_X10_readName (a1 : Int32) (σ : S5) : Option (Unit × S5) :=
  f_X10_readName_L9  FU (a1) (0) (a1) (pJ σ 0 0)
def f_X10_readNumber_b126 (u0 : Int32) (σ : S5) : Option (Unit × S5) :=
  some ((), (pI σ 19 u0))
def f_X10_readNumber_b111 (v1 : Int64) (v4 : Int32) (u0 : Int32) (σ : S5) : Option (Unit × S5) :=
  if v4 = 0 then
    (f_X10_readNumber_b126  (0) (pI σ 17 u0))
  else
    (f_X10_readNumber_b126  (((v1 : Int64).toInt32)) (pI σ 17 u0))
def f_X10_readNumber_b98 (v1 : Int64) (u0 : Int32) (σ : S5) : Option (Unit × S5) :=
  if u0 = 0 then
    (f_X10_readNumber_b111  (v1) (u0) (2) σ)
  else
    (f_X10_readNumber_b111  (v1) (u0) (5) σ)
def f_X10_readNumber_b97 (v1 : Int64) (σ : S5) : Option (Unit × S5) :=
  f_X10_readNumber_b98  (v1) (0) σ
def f_X10_readNumber_b79 (v1 : Int64) (v3 : Int32) (σ : S5) : Option (Unit × S5) :=
  if 10 < v3 then
    (f_X10_readNumber_b97  (v1) σ)
  else
    (if 0 < (lg_cmp v1 2147483647) then
      (f_X10_readNumber_b97  (v1) σ)
    else
      (f_X10_readNumber_b98  (v1) (1) σ))
def f_X10_readNumber_b66 (rec4 : Int64 → Int32 → S5 → Option (Unit × S5)) (v1 : Int64) (v3 : Int32) (σ : S5) : Option (Unit × S5) :=
  rec4 (v1) (v3) (pI σ 16 ((gI σ 16) + 1))
def f_X10_readNumber_B4 (rec4 : Int64 → Int32 → S5 → Option (Unit × S5)) (v1 : Int64) (v3 : Int32) (σ : S5) : Option (Unit × S5) :=
  if (gI σ 0) ≤ (gI σ 16) then
    (f_X10_readNumber_b79  (v1) (v3) σ)
  else
    (bd (f_X8_signAt_text ((gI σ 16)) σ) (fun r26 τ26 =>
    bd (f_X10_isDigit (r26) τ26) (fun r29 τ29 =>
    if r29 = 0 then
      (f_X10_readNumber_b79  (v1) (v3) τ29)
    else
      (if 10 < (v3 + 1) then
        (f_X10_readNumber_b66 rec4 (v1) ((v3 + 1)) τ29)
      else
        (bd (f_X8_signAt_text ((gI τ29 16)) τ29) (fun r57 τ57 =>
        f_X10_readNumber_b66 rec4 (((v1 * 10) + (((r57 - 48)).toInt64))) ((v3 + 1)) τ57))))))
def f_X10_readNumber_L4 : Nat → Int64 → Int32 → S5 → Option (Unit × S5)
  | 0, _, _, _ => none
  | n + 1, v1, v3, σ => f_X10_readNumber_B4 (f_X10_readNumber_L4  n) v1 v3 σ
def f_X10_readNumber  (σ : S5) : Option (Unit × S5) :=
  f_X10_readNumber_L4  FU (0) (0) σ
def f_X10_readSign_b119 (u0 : Int32) (u1 : Int32) (σ : S5) : Option (Unit × S5) :=
  some ((), (pI σ 16 (u1 + u0)))
def f_X10_readSign_b99  (σ : S5) : Option (Unit × S5) :=
  if (gI σ 17) < 128 then
    (f_X10_readSign_b119  (1) ((gI σ 16)) σ)
  else
    (f_X10_readSign_b119  (2) ((gI σ 16)) σ)
def f_X10_readSign_b96 (u0 : Int32) (σ : S5) : Option (Unit × S5) :=
  f_X10_readSign_b99   (pI σ 17 u0)
def f_X10_readSign_b80 (v1 : Int32) (σ : S5) : Option (Unit × S5) :=
  bd (f_J0_indexOf_0f7a4 0 ((((v1).toUInt32 % 65536).toInt32)) σ) (fun r85 τ85 =>
  gs 0 sN <| if r85 < 0 then
    (f_X10_readSign_b96  (2) τ85)
  else
    (f_X10_readSign_b96  (v1) τ85))
def f_X10_readSign_b58 (v1 : Int32) (v2 : Int32) (σ : S5) : Option (Unit × S5) :=
  if v1 = 60 then
    (if v2 = 61 then
      (f_X10_readSign_b99   (pI σ 17 130))
    else
      (f_X10_readSign_b80  (v1) σ))
  else
    (f_X10_readSign_b80  (v1) σ)
def f_X10_readSign_b36 (v1 : Int32) (v2 : Int32) (σ : S5) : Option (Unit × S5) :=
  if v1 = 61 then
    (if v2 = 61 then
      (f_X10_readSign_b99   (pI σ 17 129))
    else
      (f_X10_readSign_b58  (v1) (v2) σ))
  else
    (f_X10_readSign_b58  (v1) (v2) σ)
def f_X10_readSign (a1 : Int32) (σ : S5) : Option (Unit × S5) :=
  bd (f_X8_signAt_text (((gI σ 16) + 1)) σ) (fun r10 τ10 =>
  if a1 = 45 then
    (if r10 = 62 then
      (f_X10_readSign_b99   (pI τ10 17 128))
    else
      (f_X10_readSign_b36  (a1) (r10) τ10))
  else
    (f_X10_readSign_b36  (a1) (r10) τ10))
def f_X10_advance_b59 (v1 : Int32) (σ : S5) : Option (Unit × S5) :=
  bd (f_X10_readName (v1) σ) (fun _ τ61 =>
  some ((), τ61))
def f_X10_advance  (σ : S5) : Option (Unit × S5) :=
  if (gI σ 17) = 0 then
    (some ((), σ))
  else
    (bd (f_X10_passBlanks  σ) (fun _ τ9 =>
    bd (f_X8_signAt_text ((gI τ9 16)) (pI τ9 18 (gI τ9 16))) (fun r28 τ28 =>
    if r28 = (-1) then
      (some ((), (pI τ28 17 1)))
    else
      (bd (f_X10_isSmall (r28) τ28) (fun r46 τ46 =>
      if r46 = 0 then
        (bd (f_X10_isGreat (r28) τ46) (fun r53 τ53 =>
        if r53 = 0 then
          (bd (f_X10_isDigit (r28) τ53) (fun r68 τ68 =>
          if r68 = 0 then
            (bd (f_X10_readSign (r28) τ68) (fun _ τ83 =>
            some ((), τ83)))
          else
            (bd (f_X10_readNumber  τ68) (fun _ τ75 =>
            some ((), τ75)))))
        else
          (f_X10_advance_b59  (r28) τ53)))
      else
        (f_X10_advance_b59  (r28) τ46))))))
def f_X10_begin  (σ : S5) : Option (Unit × S5) :=
  bd (f_X10_advance  (pI (pI σ 16 0) 17 2)) (fun _ τ11 =>
  some ((), τ11))
def f_X9_span (a0 : Int32) (a1 : Int32) (σ : S5) : Option (Int64 × S5) :=
  if 40 ≤ a0 then
    (some ((0 : Int64), σ))
  else
    (some ((j_lshl ((j_lshl 1 a1) - 1) a0), σ))
def f_X9_isPart_b12  (σ : S5) : Option (Int32 × S5) :=
  some ((1 : Int32), σ)
def f_X9_isPart (a0 : Int32) (σ : S5) : Option (Int32 × S5) :=
  if a0 < 10 then
    (f_X9_isPart_b12   σ)
  else
    (if a0 ≤ 13 then
      (some ((0 : Int32), σ))
    else
      (f_X9_isPart_b12   σ))
def f_X9_clear  (σ : S5) : Option (Unit × S5) :=
  some ((), (pI σ 8 0))
def f_X9_add (a1 : Int32) (a2 : Int32) (a3 : Int32) (a4 : Int32) (σ : S5) : Option (Int32 × S5) :=
  if (gI σ 8) < 6200 then
    (gd (gI σ 8) 6200 <| gd (gI σ 8) 6200 <| gd (gI σ 8) 6200 <| gd (gI σ 8) 6200 <| gd (gI σ 8) 6200 <| some ((((gI σ 8) + 1) - 1), (pI (pA (pA (pA (pA (pA σ 13 (gI σ 8) a1) 14 (gI σ 8) a2) 15 (gI σ 8) a3) 16 (gI σ 8) a4) 17 (gI σ 8) (-1)) 8 ((gI σ 8) + 1))))
  else
    (some ((0 : Int32), σ))
def f_X9_addLeaf (a1 : Int32) (a2 : Int32) (σ : S5) : Option (Int32 × S5) :=
  bd (f_X9_add (a1) (a2) (0) ((-1)) σ) (fun r5 τ5 =>
  some (r5, τ5))
def f_X9_change (a1 : Int32) (a2 : Int32) (a3 : Int32) (σ : S5) : Option (Unit × S5) :=
  gd a1 6200 <| gd a1 6200 <| some ((), (pA (pA σ 13 a1 a2) 14 a1 a3))
def f_X9_measureLeaf_b49 (u0 : Int64) (u1 : Int32) (σ : S5) : Option (Unit × S5) :=
  gd u1 6200 <| some ((), (pB σ 2 u1 u0))
def f_X9_measureLeaf_b48 (u0 : Int32) (σ : S5) : Option (Unit × S5) :=
  f_X9_measureLeaf_b49  (0) (u0) σ
def f_X9_measureLeaf (a1 : Int32) (σ : S5) : Option (Unit × S5) :=
  gd a1 6200 <| gd a1 6200 <| gd a1 6200 <| gd a1 6200 <| if (xA σ 13 a1) = 3 then
    (if 40 ≤ (xA σ 14 a1) then
      (f_X9_measureLeaf_b48  (a1) (pA (pA σ 18 a1 1) 19 a1 1))
    else
      (f_X9_measureLeaf_b49  ((j_lshl 1 (xA σ 14 a1))) (a1) (pA (pA σ 18 a1 1) 19 a1 1)))
  else
    (f_X9_measureLeaf_b48  (a1) (pA (pA σ 18 a1 1) 19 a1 1))
def f_X9_measure_b158 (v1 : Int32) (v3 : Int32) (v4 : Int32) (v5 : Int64) (v7 : Int64) (u0 : Int32) (σ : S5) : Option (Unit × S5) :=
  gd v1 6200 <| gd v1 6200 <| gd v1 6200 <| some ((), (pB (pA (pA σ 18 v1 (v3 + u0)) 19 v1 (v4 + u0)) 2 v1 (v5 &&& (v7 ^^^ (-1)))))
def f_X9_measure_b141 (v1 : Int32) (v3 : Int32) (v4 : Int32) (v5 : Int64) (v7 : Int64) (σ : S5) : Option (Unit × S5) :=
  gd v1 6200 <| bd (f_X9_isPart ((xA σ 13 v1)) σ) (fun r147 τ147 =>
  if r147 = 0 then
    (f_X9_measure_b158  (v1) (v3) (v4) (v5) (v7) (0) τ147)
  else
    (f_X9_measure_b158  (v1) (v3) (v4) (v5) (v7) (1) τ147))
def f_X9_measure_b118 (v1 : Int32) (v2 : Int32) (v3 : Int32) (v4 : Int32) (v5 : Int64) (v7 : Int64) (σ : S5) : Option (Unit × S5) :=
  gd v1 6200 <| if (xA σ 13 v1) = 11 then
    (gd v1 6200 <| bd (f_X9_span ((xA σ 15 v1)) (v2) σ) (fun r136 τ136 =>
    f_X9_measure_b141  (v1) (v3) (v4) (v5) (r136) τ136))
  else
    (f_X9_measure_b141  (v1) (v3) (v4) (v5) (v7) σ)
def f_X9_measure_b100 (rec22 : Int32 → Int32 → Int32 → Int32 → Int64 → Int64 → Int32 → Int32 → S5 → Option (Unit × S5)) (v1 : Int32) (v2 : Int32) (v3 : Int32) (v4 : Int32) (v5 : Int64) (v9 : Int32) (v10 : Int32) (u0 : Int64) (u1 : Int64) (σ : S5) : Option (Unit × S5) :=
  gd v10 6200 <| rec22 (v1) (v2) (v3) (v4) (v5) ((u1 ||| u0)) ((v9 + 1)) ((xA σ 17 v10)) σ
def f_X9_measure_B22 (rec22 : Int32 → Int32 → Int32 → Int32 → Int64 → Int64 → Int32 → Int32 → S5 → Option (Unit × S5)) (v1 : Int32) (v2 : Int32) (v3 : Int32) (v4 : Int32) (v5 : Int64) (v7 : Int64) (v9 : Int32) (v10 : Int32) (σ : S5) : Option (Unit × S5) :=
  if 10 ≤ v9 then
    (f_X9_measure_b118  (v1) (v2) (v3) (v4) (v5) (v7) σ)
  else
    (if v10 = (-1) then
      (f_X9_measure_b118  (v1) (v2) (v3) (v4) (v5) (v7) σ)
    else
      (gd v10 6200 <| gd v10 6200 <| gd v10 6200 <| gd v10 6200 <| if (xA σ 13 v10) = 10 then
        (gd v10 6200 <| bd (f_X9_span ((xA σ 14 v10)) (1) σ) (fun r93 τ93 =>
        f_X9_measure_b100 rec22 (v1) (v2) ((if v3 < (xA σ 18 v10) then (xA σ 18 v10) else v3)) ((v4 + (xA σ 19 v10))) ((v5 ||| (xB σ 2 v10))) (v9) (v10) (r93) (v7) τ93))
      else
        (f_X9_measure_b100 rec22 (v1) (v2) ((if v3 < (xA σ 18 v10) then (xA σ 18 v10) else v3)) ((v4 + (xA σ 19 v10))) ((v5 ||| (xB σ 2 v10))) (v9) (v10) (0) (v7) σ)))
def f_X9_measure_L22 : Nat → Int32 → Int32 → Int32 → Int32 → Int64 → Int64 → Int32 → Int32 → S5 → Option (Unit × S5)
  | 0, _, _, _, _, _, _, _, _, _ => none
  | n + 1, v1, v2, v3, v4, v5, v7, v9, v10, σ => f_X9_measure_B22 (f_X9_measure_L22  n) v1 v2 v3 v4 v5 v7 v9 v10 σ
def f_X9_measure (a1 : Int32) (a2 : Int32) (σ : S5) : Option (Unit × S5) :=
  gd a1 6200 <| f_X9_measure_L22  FU (a1) (a2) (0) (0) (0) (0) (0) ((xA σ 16 a1)) σ
def f_X4_addConstructor (a1 : Int64) (a3 : Int32) (σ : S5) : Option (Unit × S5) :=
  if 30 ≤ (gI σ 4) then
    (some ((), σ))
  else
    (gd (gI σ 4) 30 <| gd (gI σ 4) 30 <| some ((), (pI (pA (pB σ 0 (gI σ 4) a1) 2 (gI σ 4) a3) 4 ((gI σ 4) + 1))))
def f_X4_clear  (σ : S5) : Option (Unit × S5) :=
  bd (f_X4_addConstructor (302282208101) (0) (pI σ 4 0)) (fun _ τ10 =>
  bd (f_X4_addConstructor (1416787301) (0) τ10) (fun _ τ18 =>
  some ((), (pI (pI (pI τ18 5 0) 6 0) 7 (-1)))))
def f_X4_constructorOf_B2 (rec2 : Int64 → Int32 → S5 → Option (Int32 × S5)) (v1 : Int64) (v3 : Int32) (σ : S5) : Option (Int32 × S5) :=
  if (gI σ 4) ≤ v3 then
    (some (((-1) : Int32), σ))
  else
    (gd v3 30 <| if (lg_cmp (xB σ 0 v3) v1) = 0 then
      (some (v3, σ))
    else
      (rec2 (v1) ((v3 + 1)) σ))
def f_X4_constructorOf_L2 : Nat → Int64 → Int32 → S5 → Option (Int32 × S5)
  | 0, _, _, _ => none
  | n + 1, v1, v3, σ => f_X4_constructorOf_B2 (f_X4_constructorOf_L2  n) v1 v3 σ
def f_X4_constructorOf (a1 : Int64) (σ : S5) : Option (Int32 × S5) :=
  f_X4_constructorOf_L2  FU (a1) (0) σ
def f_X4_addFunction (a1 : Int32) (σ : S5) : Option (Int32 × S5) :=
  if (gI σ 6) < 630 then
    (gd (gI σ 6) 630 <| gd (gI σ 6) 630 <| gd (gI σ 6) 630 <| some ((((gI σ 6) + 1) - 1), (pI (pA (pA (pA σ 8 (gI σ 6) a1) 4 (gI σ 6) 0) 11 (gI σ 6) 0) 6 ((gI σ 6) + 1))))
  else
    (some ((0 : Int32), σ))
def f_X4_addTop (a1 : Int64) (a3 : Int32) (σ : S5) : Option (Unit × S5) :=
  if 30 ≤ (gI σ 5) then
    (some ((), σ))
  else
    (gd (gI σ 5) 30 <| bd (f_X4_addFunction (a3) (pI (pB σ 1 (gI σ 5) a1) 5 ((gI σ 5) + 1))) (fun r31 τ31 =>
    some ((), τ31)))
def f_X4_topOf_B2 (rec2 : Int64 → Int32 → S5 → Option (Int32 × S5)) (v1 : Int64) (v3 : Int32) (σ : S5) : Option (Int32 × S5) :=
  if (gI σ 5) ≤ v3 then
    (some (((-1) : Int32), σ))
  else
    (gd v3 30 <| if (lg_cmp (xB σ 1 v3) v1) = 0 then
      (some (v3, σ))
    else
      (rec2 (v1) ((v3 + 1)) σ))
def f_X4_topOf_L2 : Nat → Int64 → Int32 → S5 → Option (Int32 × S5)
  | 0, _, _, _ => none
  | n + 1, v1, v3, σ => f_X4_topOf_B2 (f_X4_topOf_L2  n) v1 v3 σ
def f_X4_topOf (a1 : Int64) (σ : S5) : Option (Int32 × S5) :=
  f_X4_topOf_L2  FU (a1) (0) σ
def f_X4_needsParameter (a1 : Int32) (a2 : Int32) (σ : S5) : Option (Int32 × S5) :=
  gd a1 630 <| if ((j_iushr (xA σ 12 a1) a2) &&& 1) = 0 then
    (some ((0 : Int32), σ))
  else
    (some ((1 : Int32), σ))
def f_X6_clear  (σ : S5) : Option (Unit × S5) :=
  some ((), (pI (pI σ 9 0) 10 0))
def f_X6_add_b72 (u0 : Int32) (u1 : Int32) (σ : S5) : Option (Int32 × S5) :=
  gd u1 700 <| some ((((gI σ 9) + 1) - 1), (pI (pA σ 22 u1 u0) 9 ((gI σ 9) + 1)))
def f_X6_add_b59 (u0 : Int32) (σ : S5) : Option (Int32 × S5) :=
  f_X6_add_b72  ((gI σ 9)) (u0) σ
def f_X6_add (a1 : Int32) (a2 : Int32) (a3 : Int32) (σ : S5) : Option (Int32 × S5) :=
  if (gI σ 9) < 700 then
    (gd (gI σ 9) 700 <| gd (gI σ 9) 700 <| gd (gI σ 9) 700 <| if a3 = 0 then
      (if a1 = (-1) then
        (f_X6_add_b59  ((gI σ 9)) (pA (pA (pA σ 20 (gI σ 9) 0) 21 (gI σ 9) a1) 24 (gI σ 9) a2))
      else
        (gd a1 700 <| f_X6_add_b72  ((xA σ 22 a1)) ((gI σ 9)) (pA (pA (pA σ 20 (gI σ 9) 0) 21 (gI σ 9) a1) 24 (gI σ 9) a2)))
    else
      (f_X6_add_b59  ((gI σ 9)) (pA (pA (pA σ 20 (gI σ 9) 0) 21 (gI σ 9) a1) 24 (gI σ 9) a2)))
  else
    (some ((0 : Int32), σ))
def f_X6_owns (a1 : Int32) (σ : S5) : Option (Int32 × S5) :=
  gd a1 700 <| if (xA σ 22 a1) = a1 then
    (some ((1 : Int32), σ))
  else
    (some ((0 : Int32), σ))
def f_X6_addName (a1 : Int32) (a2 : Int64) (σ : S5) : Option (Int32 × S5) :=
  gd a1 700 <| gd ((a1 * 5) + (xA σ 20 a1)) 3500 <| gd a1 700 <| gd a1 700 <| some (((a1 * 5) + (xA σ 20 a1)), (pA (pB σ 3 ((a1 * 5) + (xA σ 20 a1)) a2) 20 a1 ((xA σ 20 a1) + 1)))
def f_X6_variableIn_B3 (rec3 : Int32 → Int64 → Int32 → S5 → Option (Int32 × S5)) (v1 : Int32) (v2 : Int64) (v4 : Int32) (σ : S5) : Option (Int32 × S5) :=
  gd v1 700 <| if (xA σ 20 v1) ≤ v4 then
    (some (((-1) : Int32), σ))
  else
    (gd ((v1 * 5) + v4) 3500 <| if (lg_cmp (xB σ 3 ((v1 * 5) + v4)) v2) = 0 then
      (some (((v1 * 5) + v4), σ))
    else
      (rec3 (v1) (v2) ((v4 + 1)) σ))
def f_X6_variableIn_L3 : Nat → Int32 → Int64 → Int32 → S5 → Option (Int32 × S5)
  | 0, _, _, _, _ => none
  | n + 1, v1, v2, v4, σ => f_X6_variableIn_B3 (f_X6_variableIn_L3  n) v1 v2 v4 σ
def f_X6_variableIn (a1 : Int32) (a2 : Int64) (σ : S5) : Option (Int32 × S5) :=
  f_X6_variableIn_L3  FU (a1) (a2) (0) σ
def f_X6_has (a1 : Int32) (a2 : Int64) (σ : S5) : Option (Int32 × S5) :=
  bd (f_X6_variableIn (a1) (a2) σ) (fun r3 τ3 =>
  if r3 = (-1) then
    (some ((0 : Int32), τ3))
  else
    (some ((1 : Int32), τ3)))
def f_X6_find_B6 (rec6 : Int64 → Int32 → Int32 → S5 → Option (Int32 × S5)) (v2 : Int64) (v4 : Int32) (v5 : Int32) (σ : S5) : Option (Int32 × S5) :=
  if 700 ≤ v5 then
    (some (((-1) : Int32), σ))
  else
    (if v4 = (-1) then
      (some (((-1) : Int32), σ))
    else
      (bd (f_X6_variableIn (v4) (v2) σ) (fun r24 τ24 =>
      if r24 = (-1) then
        (gd v4 700 <| rec6 (v2) ((xA τ24 21 v4)) ((v5 + 1)) τ24)
      else
        (some (r24, τ24)))))
def f_X6_find_L6 : Nat → Int64 → Int32 → Int32 → S5 → Option (Int32 × S5)
  | 0, _, _, _, _ => none
  | n + 1, v2, v4, v5, σ => f_X6_find_B6 (f_X6_find_L6  n) v2 v4 v5 σ
def f_X6_find (a1 : Int32) (a2 : Int64) (σ : S5) : Option (Int32 × S5) :=
  f_X6_find_L6  FU (a2) (a1) (0) σ
def f_X6_addUse (a1 : Int64) (a3 : Int32) (a4 : Int32) (a5 : Int32) (σ : S5) : Option (Unit × S5) :=
  if 600 ≤ (gI σ 10) then
    (some ((), σ))
  else
    (gd (gI σ 10) 600 <| gd (gI σ 10) 600 <| gd (gI σ 10) 600 <| gd (gI σ 10) 600 <| some ((), (pI (pA (pA (pA (pB σ 4 (gI σ 10) a1) 27 (gI σ 10) a3) 28 (gI σ 10) a4) 29 (gI σ 10) a5) 10 ((gI σ 10) + 1))))
def f_X5_refuse (a1 : Int32) (σ : S5) : Option (Unit × S5) :=
  if (gI σ 11) = 0 then
    (bd (f_X10_stop  (pI (pI σ 11 a1) 12 (gI σ 18))) (fun _ τ27 =>
    some ((), τ27)))
  else
    (some ((), σ))
def f_X5_expect (a1 : Int32) (σ : S5) : Option (Unit × S5) :=
  if (gI σ 17) = a1 then
    (bd (f_X10_advance  σ) (fun _ τ15 =>
    some ((), τ15)))
  else
    (bd (f_X5_refuse (1) σ) (fun _ τ23 =>
    some ((), τ23)))
def f_X5_countPart  (σ : S5) : Option (Unit × S5) :=
  if (gI σ 13) < 600 then
    (if (gI σ 17) = 0 then
      (some ((), σ))
    else
      (some ((), (pI σ 13 ((gI σ 13) + 1)))))
  else
    (bd (f_X5_refuse (4) σ) (fun _ τ12 =>
    some ((), τ12)))
def f_X5_opens  (σ : S5) : Option (Int32 × S5) :=
  if (gI σ 14) < 30 then
    (some ((1 : Int32), (pI σ 14 ((gI σ 14) + 1))))
  else
    (bd (f_X5_refuse (1) σ) (fun _ τ11 =>
    some ((0 : Int32), τ11)))
def f_X5_readConstructor_b93  (σ : S5) : Option (Unit × S5) :=
  bd (f_X5_refuse (1) σ) (fun _ τ95 =>
  some ((), τ95))
def f_X5_readConstructor_b64 (v1 : Int64) (σ : S5) : Option (Unit × S5) :=
  bd (f_X10_advance  σ) (fun _ τ68 =>
  if (gI τ68 17) = 5 then
    (if (gI τ68 19) ≤ 4 then
      (bd (f_X4_addConstructor (v1) ((gI τ68 19)) τ68) (fun _ τ111 =>
      bd (f_X10_advance  τ111) (fun _ τ118 =>
      some ((), τ118))))
    else
      (f_X5_readConstructor_b93   τ68))
  else
    (f_X5_readConstructor_b93   τ68))
def f_X5_readConstructor  (σ : S5) : Option (Unit × S5) :=
  if (gI σ 17) = 4 then
    (bd (f_X4_constructorOf ((gJ σ 0)) σ) (fun r32 τ32 =>
    if r32 = (-1) then
      (if (gI τ32 4) < 30 then
        (f_X5_readConstructor_b64  ((gJ σ 0)) τ32)
      else
        (bd (f_X5_refuse (4) τ32) (fun _ τ61 =>
        f_X5_readConstructor_b64  ((gJ σ 0)) τ61)))
    else
      (bd (f_X5_refuse (2) τ32) (fun _ τ41 =>
      f_X5_readConstructor_b64  ((gJ σ 0)) τ41))))
  else
    (bd (f_X5_refuse (1) σ) (fun _ τ21 =>
    f_X5_readConstructor_b64  ((gJ σ 0)) τ21))
def f_X5_readData_b49  (σ : S5) : Option (Unit × S5) :=
  bd (f_X5_expect (59) σ) (fun _ τ52 =>
  some ((), τ52))
def f_X5_readData_B13 (rec13 : Int32 → S5 → Option (Unit × S5)) (v1 : Int32) (σ : S5) : Option (Unit × S5) :=
  if 3001 ≤ v1 then
    (f_X5_readData_b49   σ)
  else
    (if (gI σ 17) = 124 then
      (bd (f_X10_advance  σ) (fun _ τ36 =>
      bd (f_X5_readConstructor  τ36) (fun _ τ40 =>
      rec13 ((v1 + 1)) τ40)))
    else
      (f_X5_readData_b49   σ))
def f_X5_readData_L13 : Nat → Int32 → S5 → Option (Unit × S5)
  | 0, _, _ => none
  | n + 1, v1, σ => f_X5_readData_B13 (f_X5_readData_L13  n) v1 σ
def f_X5_readData  (σ : S5) : Option (Unit × S5) :=
  bd (f_X10_advance  σ) (fun _ τ4 =>
  bd (f_X5_readConstructor  τ4) (fun _ τ8 =>
  f_X5_readData_L13  FU (0) τ8))
def f_X5_declare (a1 : Int32) (σ : S5) : Option (Int32 × S5) :=
  if (gI σ 17) = 3 then
    (bd (f_X6_has (a1) ((gJ σ 0)) σ) (fun r33 τ33 =>
    if r33 = 0 then
      (gd a1 700 <| if (xA τ33 20 a1) < 5 then
        (bd (f_X6_addName (a1) ((gJ τ33 0)) τ33) (fun r80 τ80 =>
        bd (f_X10_advance  τ80) (fun _ τ88 =>
        some (r80, τ88))))
      else
        (bd (f_X5_refuse (4) τ33) (fun _ τ62 =>
        some ((0 : Int32), τ62))))
    else
      (bd (f_X5_refuse (2) τ33) (fun _ τ41 =>
      some ((0 : Int32), τ41)))))
  else
    (bd (f_X5_refuse (1) σ) (fun _ τ15 =>
    some ((0 : Int32), τ15)))
def f_X5_readParameters_B2 (rec2 : Int32 → Int32 → S5 → Option (Unit × S5)) (v1 : Int32) (v2 : Int32) (σ : S5) : Option (Unit × S5) :=
  if 5 < v2 then
    (some ((), σ))
  else
    (if (gI σ 17) = 3 then
      (bd (f_X5_declare (v1) σ) (fun r20 τ20 =>
      rec2 (v1) ((v2 + 1)) τ20))
    else
      (some ((), σ)))
def f_X5_readParameters_L2 : Nat → Int32 → Int32 → S5 → Option (Unit × S5)
  | 0, _, _, _ => none
  | n + 1, v1, v2, σ => f_X5_readParameters_B2 (f_X5_readParameters_L2  n) v1 v2 σ
def f_X5_readParameters (a1 : Int32) (σ : S5) : Option (Unit × S5) :=
  f_X5_readParameters_L2  FU (a1) (0) σ
def f_X5_isAtom_b27  (σ : S5) : Option (Int32 × S5) :=
  some ((1 : Int32), σ)
def f_X5_isAtom (a0 : Int32) (σ : S5) : Option (Int32 × S5) :=
  if a0 = 3 then
    (f_X5_isAtom_b27   σ)
  else
    (if a0 = 4 then
      (f_X5_isAtom_b27   σ)
    else
      (if a0 = 5 then
        (f_X5_isAtom_b27   σ)
      else
        (if a0 = 11 then
          (f_X5_isAtom_b27   σ)
        else
          (if a0 = 40 then
            (f_X5_isAtom_b27   σ)
          else
            (some ((0 : Int32), σ))))))
def f_X5_atomStands_b98  (σ : S5) : Option (Int32 × S5) :=
  if (gI σ 17) = 0 then
    (some ((0 : Int32), σ))
  else
    (some ((1 : Int32), σ))
def f_X5_atomStands_b93  (σ : S5) : Option (Int32 × S5) :=
  bd (f_X5_refuse (1) σ) (fun _ τ95 =>
  f_X5_atomStands_b98   τ95)
def f_X5_atomStands_b56  (σ : S5) : Option (Int32 × S5) :=
  f_X5_atomStands_b98   σ
def f_X5_atomStands  (σ : S5) : Option (Int32 × S5) :=
  if (gI σ 17) = 4 then
    (bd (f_X4_constructorOf ((gJ σ 0)) σ) (fun r22 τ22 =>
    if r22 = (-1) then
      (bd (f_X5_refuse (3) τ22) (fun _ τ33 =>
      f_X5_atomStands_b56   τ33))
    else
      (gd r22 30 <| if (xA τ22 2 r22) ≤ 0 then
        (f_X5_atomStands_b56   τ22)
      else
        (bd (f_X5_refuse (1) τ22) (fun _ τ53 =>
        f_X5_atomStands_b56   τ53)))))
  else
    (bd (f_X5_isAtom ((gI σ 17)) σ) (fun r66 τ66 =>
    if r66 = 0 then
      (f_X5_atomStands_b93   τ66)
    else
      (if (gI τ66 17) = 40 then
        (if (gI τ66 14) < 30 then
          (f_X5_atomStands_b98   τ66)
        else
          (f_X5_atomStands_b93   τ66))
      else
        (f_X5_atomStands_b98   τ66))))
def f_X5_readSign  (σ : S5) : Option (Int32 × S5) :=
  bd (f_X5_countPart  σ) (fun _ τ9 =>
  bd (f_X10_advance  τ9) (fun _ τ16 =>
  some ((gI σ 17), τ16)))
def f_X5_join (a1 : Int32) (a2 : Int32) (a3 : Int32) (σ : S5) : Option (Int32 × S5) :=
  gd a2 6200 <| bd (f_X9_add (5) (a1) (0) (a2) (pA σ 17 a2 a3)) (fun r18 τ18 =>
  some (r18, τ18))
def f_X5_readAtom_b185 (E : S5 → Option (Int32 × S5)) (v2 : Int32) (σ : S5) : Option (Int32 × S5) :=
  bd (f_X10_advance  σ) (fun _ τ189 =>
  some (v2, τ189))
def f_X5_readAtom (E : S5 → Option (Int32 × S5))  (σ : S5) : Option (Int32 × S5) :=
  if (gI σ 17) = 0 then
    (some ((0 : Int32), σ))
  else
    (if (gI σ 17) = 40 then
      (bd (f_X10_advance  (pI σ 14 ((gI σ 14) + 1))) (fun _ τ34 =>
      bd (E  τ34) (fun r38 τ38 =>
      bd (f_X5_expect (41) τ38) (fun _ τ45 =>
      some (r38, (pI τ45 14 ((gI τ45 14) - 1)))))))
    else
      (bd (f_X5_countPart  σ) (fun _ τ61 =>
      if (gI τ61 17) = 0 then
        (some ((0 : Int32), τ61))
      else
        (if (gI σ 17) = 3 then
          (bd (f_X9_addLeaf (3) (0) τ61) (fun r87 τ87 =>
          bd (f_X6_addUse ((gJ τ87 0)) ((gI τ87 15)) ((gI τ87 18)) (r87) τ87) (fun _ τ114 =>
          f_X5_readAtom_b185 E (r87) τ114)))
        else
          (if (gI σ 17) = 5 then
            (bd (f_X9_addLeaf (0) ((gI τ61 19)) τ61) (fun r137 τ137 =>
            f_X5_readAtom_b185 E (r137) τ137))
          else
            (if (gI σ 17) = 4 then
              (bd (f_X4_constructorOf ((gJ τ61 0)) τ61) (fun r165 τ165 =>
              bd (f_X9_addLeaf (1) (r165) τ165) (fun r168 τ168 =>
              f_X5_readAtom_b185 E (r168) τ168)))
            else
              (bd (f_X9_addLeaf (4) (0) τ61) (fun r181 τ181 =>
              f_X5_readAtom_b185 E (r181) τ181))))))))
def f_X5_readBuild_b81 (E : S5 → Option (Int32 × S5)) (v1 : Int32) (v2 : Int32) (σ : S5) : Option (Int32 × S5) :=
  bd (f_X9_add (9) (v1) (0) (v2) σ) (fun r90 τ90 =>
  some (r90, τ90))
def f_X5_readBuild_b72 (E : S5 → Option (Int32 × S5)) (rec14 : Int32 → Int32 → Int32 → Int32 → S5 → Option (Int32 × S5)) (v1 : Int32) (v2 : Int32) (v4 : Int32) (v5 : Int32) (σ : S5) : Option (Int32 × S5) :=
  rec14 (v1) (v2) (v5) ((v4 + 1)) σ
def f_X5_readBuild_b44 (E : S5 → Option (Int32 × S5)) (rec14 : Int32 → Int32 → Int32 → Int32 → S5 → Option (Int32 × S5)) (v1 : Int32) (v2 : Int32) (v3 : Int32) (v4 : Int32) (σ : S5) : Option (Int32 × S5) :=
  bd (f_X5_readAtom E  σ) (fun r45 τ45 =>
  if v3 = (-1) then
    (f_X5_readBuild_b72 E rec14 (v1) (r45) (v4) (r45) τ45)
  else
    (gd v3 6200 <| f_X5_readBuild_b72 E rec14 (v1) (v2) (v4) (r45) (pA τ45 17 v3 r45)))
def f_X5_readBuild_B14 (E : S5 → Option (Int32 × S5)) (rec14 : Int32 → Int32 → Int32 → Int32 → S5 → Option (Int32 × S5)) (v1 : Int32) (v2 : Int32) (v3 : Int32) (v4 : Int32) (σ : S5) : Option (Int32 × S5) :=
  gd v1 30 <| if (xA σ 2 v1) ≤ v4 then
    (f_X5_readBuild_b81 E (v1) (v2) σ)
  else
    (bd (f_X5_atomStands  σ) (fun r29 τ29 =>
    if r29 = 0 then
      (f_X5_readBuild_b81 E (v1) (v2) τ29)
    else
      (if v4 = 0 then
        (bd (f_X5_countPart  τ29) (fun _ τ41 =>
        f_X5_readBuild_b44 E rec14 (v1) (v2) (v3) (v4) τ41))
      else
        (f_X5_readBuild_b44 E rec14 (v1) (v2) (v3) (v4) τ29))))
def f_X5_readBuild_L14 (E : S5 → Option (Int32 × S5)) : Nat → Int32 → Int32 → Int32 → Int32 → S5 → Option (Int32 × S5)
  | 0, _, _, _, _, _ => none
  | n + 1, v1, v2, v3, v4, σ => f_X5_readBuild_B14 E (f_X5_readBuild_L14 E n) v1 v2 v3 v4 σ
def f_X5_readBuild (E : S5 → Option (Int32 × S5)) (a1 : Int32) (σ : S5) : Option (Int32 × S5) :=
  bd (f_X10_advance  σ) (fun _ τ4 =>
  f_X5_readBuild_L14 E FU (a1) ((-1)) ((-1)) (0) τ4)
def f_X5_readApplication_b139 (E : S5 → Option (Int32 × S5)) (v1 : Int32) (v3 : Int32) (σ : S5) : Option (Int32 × S5) :=
  if v3 = 0 then
    (some (v1, σ))
  else
    (bd (f_X9_add (8) (0) (v3) (v1) σ) (fun r156 τ156 =>
    some (r156, τ156)))
def f_X5_readApplication_b113 (E : S5 → Option (Int32 × S5)) (rec67 : Int32 → Int32 → Int32 → S5 → Option (Int32 × S5)) (v1 : Int32) (v2 : Int32) (v3 : Int32) (σ : S5) : Option (Int32 × S5) :=
  bd (f_X5_readAtom E  σ) (fun r114 τ114 =>
  gd v2 6200 <| rec67 (v1) (r114) ((v3 + 1)) (pA τ114 17 v2 r114))
def f_X5_readApplication_B67 (E : S5 → Option (Int32 × S5)) (rec67 : Int32 → Int32 → Int32 → S5 → Option (Int32 × S5)) (v1 : Int32) (v2 : Int32) (v3 : Int32) (σ : S5) : Option (Int32 × S5) :=
  if 5 < v3 then
    (f_X5_readApplication_b139 E (v1) (v3) σ)
  else
    (bd (f_X5_isAtom ((gI σ 17)) σ) (fun r79 τ79 =>
    if r79 = 0 then
      (f_X5_readApplication_b139 E (v1) (v3) τ79)
    else
      (bd (f_X5_atomStands  τ79) (fun r86 τ86 =>
      if r86 = 0 then
        (f_X5_readApplication_b139 E (v1) (v3) τ86)
      else
        (if v3 = 5 then
          (bd (f_X5_refuse (4) τ86) (fun _ τ99 =>
          f_X5_readApplication_b113 E rec67 (v1) (v2) (v3) τ99))
        else
          (if v3 = 0 then
            (bd (f_X5_countPart  τ86) (fun _ τ110 =>
            f_X5_readApplication_b113 E rec67 (v1) (v2) (v3) τ110))
          else
            (f_X5_readApplication_b113 E rec67 (v1) (v2) (v3) τ86)))))))
def f_X5_readApplication_L67 (E : S5 → Option (Int32 × S5)) : Nat → Int32 → Int32 → Int32 → S5 → Option (Int32 × S5)
  | 0, _, _, _, _ => none
  | n + 1, v1, v2, v3, σ => f_X5_readApplication_B67 E (f_X5_readApplication_L67 E n) v1 v2 v3 σ
def f_X5_readApplication_b49 (E : S5 → Option (Int32 × S5))  (σ : S5) : Option (Int32 × S5) :=
  bd (f_X5_atomStands  σ) (fun r50 τ50 =>
  if r50 = 0 then
    (some ((0 : Int32), τ50))
  else
    (bd (f_X5_readAtom E  τ50) (fun r59 τ59 =>
    f_X5_readApplication_L67 E FU (r59) (r59) (0) τ59)))
def f_X5_readApplication (E : S5 → Option (Int32 × S5))  (σ : S5) : Option (Int32 × S5) :=
  if (gI σ 17) = 4 then
    (bd (f_X4_constructorOf ((gJ σ 0)) σ) (fun r22 τ22 =>
    if r22 = (-1) then
      (f_X5_readApplication_b49 E  τ22)
    else
      (gd r22 30 <| if (xA τ22 2 r22) ≤ 0 then
        (f_X5_readApplication_b49 E  τ22)
      else
        (bd (f_X5_readBuild E (r22) τ22) (fun r45 τ45 =>
        some (r45, τ45))))))
  else
    (f_X5_readApplication_b49 E  σ)
def f_X5_readProduct_b50 (E : S5 → Option (Int32 × S5)) (rec7 : Int32 → Int32 → S5 → Option (Int32 × S5)) (v1 : Int32) (v2 : Int32) (σ : S5) : Option (Int32 × S5) :=
  bd (f_X5_readSign  σ) (fun r51 τ51 =>
  bd (f_X5_readApplication E  τ51) (fun r59 τ59 =>
  bd (f_X5_join (r51) (v1) (r59) τ59) (fun r62 τ62 =>
  rec7 (r62) ((v2 + 1)) τ62)))
def f_X5_readProduct_B7 (E : S5 → Option (Int32 × S5)) (rec7 : Int32 → Int32 → S5 → Option (Int32 × S5)) (v1 : Int32) (v2 : Int32) (σ : S5) : Option (Int32 × S5) :=
  if 3001 ≤ v2 then
    (some (v1, σ))
  else
    (if (gI σ 17) = 42 then
      (f_X5_readProduct_b50 E rec7 (v1) (v2) σ)
    else
      (if (gI σ 17) = 47 then
        (f_X5_readProduct_b50 E rec7 (v1) (v2) σ)
      else
        (if (gI σ 17) = 37 then
          (f_X5_readProduct_b50 E rec7 (v1) (v2) σ)
        else
          (some (v1, σ)))))
def f_X5_readProduct_L7 (E : S5 → Option (Int32 × S5)) : Nat → Int32 → Int32 → S5 → Option (Int32 × S5)
  | 0, _, _, _ => none
  | n + 1, v1, v2, σ => f_X5_readProduct_B7 E (f_X5_readProduct_L7 E n) v1 v2 σ
def f_X5_readProduct (E : S5 → Option (Int32 × S5))  (σ : S5) : Option (Int32 × S5) :=
  bd (f_X5_readApplication E  σ) (fun r1 τ1 =>
  f_X5_readProduct_L7 E FU (r1) (0) τ1)
def f_X5_readSum_b38 (E : S5 → Option (Int32 × S5)) (rec7 : Int32 → Int32 → S5 → Option (Int32 × S5)) (v1 : Int32) (v2 : Int32) (σ : S5) : Option (Int32 × S5) :=
  bd (f_X5_readSign  σ) (fun r39 τ39 =>
  bd (f_X5_readProduct E  τ39) (fun r47 τ47 =>
  bd (f_X5_join (r39) (v1) (r47) τ47) (fun r50 τ50 =>
  rec7 (r50) ((v2 + 1)) τ50)))
def f_X5_readSum_B7 (E : S5 → Option (Int32 × S5)) (rec7 : Int32 → Int32 → S5 → Option (Int32 × S5)) (v1 : Int32) (v2 : Int32) (σ : S5) : Option (Int32 × S5) :=
  if 3001 ≤ v2 then
    (some (v1, σ))
  else
    (if (gI σ 17) = 43 then
      (f_X5_readSum_b38 E rec7 (v1) (v2) σ)
    else
      (if (gI σ 17) = 45 then
        (f_X5_readSum_b38 E rec7 (v1) (v2) σ)
      else
        (some (v1, σ))))
def f_X5_readSum_L7 (E : S5 → Option (Int32 × S5)) : Nat → Int32 → Int32 → S5 → Option (Int32 × S5)
  | 0, _, _, _ => none
  | n + 1, v1, v2, σ => f_X5_readSum_B7 E (f_X5_readSum_L7 E n) v1 v2 σ
def f_X5_readSum (E : S5 → Option (Int32 × S5))  (σ : S5) : Option (Int32 × S5) :=
  bd (f_X5_readProduct E  σ) (fun r1 τ1 =>
  f_X5_readSum_L7 E FU (r1) (0) τ1)
def f_X5_readComparison_b43 (E : S5 → Option (Int32 × S5)) (v1 : Int32) (σ : S5) : Option (Int32 × S5) :=
  bd (f_X5_readSign  σ) (fun r44 τ44 =>
  bd (f_X5_readSum E  τ44) (fun r52 τ52 =>
  bd (f_X5_join (r44) (v1) (r52) τ52) (fun r55 τ55 =>
  some (r55, τ55))))
def f_X5_readComparison (E : S5 → Option (Int32 × S5))  (σ : S5) : Option (Int32 × S5) :=
  bd (f_X5_readSum E  σ) (fun r1 τ1 =>
  if (gI τ1 17) = 129 then
    (f_X5_readComparison_b43 E (r1) τ1)
  else
    (if (gI τ1 17) = 60 then
      (f_X5_readComparison_b43 E (r1) τ1)
    else
      (if (gI τ1 17) = 130 then
        (f_X5_readComparison_b43 E (r1) τ1)
      else
        (some (r1, τ1)))))
def f_X5_readWithin (E : S5 → Option (Int32 × S5)) (a1 : Int32) (σ : S5) : Option (Int32 × S5) :=
  bd (E  (pI σ 15 a1)) (fun r11 τ11 =>
  some (r11, (pI τ11 15 (gI σ 15))))
def f_X5_readLifted_b66 (E : S5 → Option (Int32 × S5)) (v3 : Int32) (u0 : Int32) (σ : S5) : Option (Int32 × S5) :=
  bd (f_X5_expect (u0) σ) (fun _ τ66 =>
  bd (f_X5_readWithin E (v3) τ66) (fun r79 τ79 =>
  gd v3 700 <| bd (f_X9_addLeaf (14) (v3) (pA τ79 23 v3 r79)) (fun r90 τ90 =>
  some (r90, τ90))))
def f_X5_readLifted_b49 (E : S5 → Option (Int32 × S5)) (v2 : Int32) (v3 : Int32) (σ : S5) : Option (Int32 × S5) :=
  bd (f_X5_readParameters (v3) σ) (fun _ τ51 =>
  if v2 = 0 then
    (f_X5_readLifted_b66 E (v3) (61) τ51)
  else
    (f_X5_readLifted_b66 E (v3) (46) τ51))
def f_X5_readLifted_b17 (E : S5 → Option (Int32 × S5)) (v1 : Int32) (u0 : Int32) (σ : S5) : Option (Int32 × S5) :=
  bd (f_X6_add ((gI σ 15)) (v1) (1) σ) (fun r28 τ28 =>
  if u0 = 0 then
    (f_X5_readLifted_b49 E (u0) (r28) τ28)
  else
    (bd (f_X10_advance  τ28) (fun _ τ40 =>
    bd (f_X5_declare (r28) τ40) (fun r45 τ45 =>
    f_X5_readLifted_b49 E (u0) (r28) τ45))))
def f_X5_readLifted (E : S5 → Option (Int32 × S5)) (a1 : Int32) (σ : S5) : Option (Int32 × S5) :=
  if (gI σ 17) = 92 then
    (f_X5_readLifted_b17 E (a1) (1) σ)
  else
    (f_X5_readLifted_b17 E (a1) (0) σ)
def f_X5_readBinding_b52 (E : S5 → Option (Int32 × S5)) (v2 : Int32) (v3 : Int32) (σ : S5) : Option (Int32 × S5) :=
  bd (f_X9_add (10) (v2) (0) (v3) σ) (fun r61 τ61 =>
  some (r61, τ61))
def f_X5_readBinding (E : S5 → Option (Int32 × S5))  (σ : S5) : Option (Int32 × S5) :=
  bd (f_X5_declare ((gI σ 15)) σ) (fun r13 τ13 =>
  if (gI τ13 17) = 3 then
    (bd (f_X5_countPart  τ13) (fun _ τ29 =>
    bd (f_X5_readLifted E ((gI σ 18)) τ29) (fun r34 τ34 =>
    f_X5_readBinding_b52 E (r13) (r34) τ34)))
  else
    (bd (f_X5_expect (61) τ13) (fun _ τ44 =>
    bd (E  τ44) (fun r48 τ48 =>
    f_X5_readBinding_b52 E (r13) (r48) τ48))))
def f_X5_readLet_b114 (E : S5 → Option (Int32 × S5)) (v1 : Int32) (v2 : Int32) (v3 : Int32) (σ : S5) : Option (Int32 × S5) :=
  bd (f_X5_expect (8) σ) (fun _ τ117 =>
  bd (E  τ117) (fun r121 τ121 =>
  gd r121 6200 <| bd (f_X9_add (7) (0) (v2) (r121) (pI (pI (pA τ121 17 r121 v3) 15 v1) 14 ((gI τ121 14) - 1))) (fun r162 τ162 =>
  some (r162, τ162))))
def f_X5_readLet_B61 (E : S5 → Option (Int32 × S5)) (rec61 : Int32 → Int32 → Int32 → Int32 → Int32 → S5 → Option (Int32 × S5)) (v1 : Int32) (v2 : Int32) (v3 : Int32) (v4 : Int32) (v5 : Int32) (σ : S5) : Option (Int32 × S5) :=
  if 5 < v5 then
    (f_X5_readLet_b114 E (v1) (v2) (v3) σ)
  else
    (if (gI σ 17) = 44 then
      (bd (f_X10_advance  σ) (fun _ τ83 =>
      bd (f_X5_readBinding E  τ83) (fun r87 τ87 =>
      gd v4 6200 <| rec61 (v1) (v2) (v3) (r87) ((v5 + 1)) (pA τ87 17 v4 r87))))
    else
      (f_X5_readLet_b114 E (v1) (v2) (v3) σ))
def f_X5_readLet_L61 (E : S5 → Option (Int32 × S5)) : Nat → Int32 → Int32 → Int32 → Int32 → Int32 → S5 → Option (Int32 × S5)
  | 0, _, _, _, _, _, _ => none
  | n + 1, v1, v2, v3, v4, v5, σ => f_X5_readLet_B61 E (f_X5_readLet_L61 E n) v1 v2 v3 v4 v5 σ
def f_X5_readLet (E : S5 → Option (Int32 × S5))  (σ : S5) : Option (Int32 × S5) :=
  bd (f_X5_opens  σ) (fun r1 τ1 =>
  if r1 = 0 then
    (some ((0 : Int32), τ1))
  else
    (bd (f_X5_countPart  τ1) (fun _ τ10 =>
    bd (f_X6_add ((gI τ10 15)) ((gI τ10 18)) (0) τ10) (fun r34 τ34 =>
    bd (f_X10_advance  (pI τ34 15 r34)) (fun _ τ47 =>
    bd (f_X5_readBinding E  τ47) (fun r51 τ51 =>
    f_X5_readLet_L61 E FU ((gI τ10 15)) (r34) (r51) (r51) (0) τ51))))))
def f_X5_readLambda (E : S5 → Option (Int32 × S5))  (σ : S5) : Option (Int32 × S5) :=
  bd (f_X5_opens  σ) (fun r1 τ1 =>
  if r1 = 0 then
    (some ((0 : Int32), τ1))
  else
    (bd (f_X5_countPart  τ1) (fun _ τ10 =>
    bd (f_X5_readLifted E ((gI τ10 18)) τ10) (fun r21 τ21 =>
    some (r21, (pI τ21 14 ((gI τ21 14) - 1)))))))
def f_X5_readAlternative_b214 (E : S5 → Option (Int32 × S5)) (v4 : Int32) (v6 : Int32) (u0 : Int32) (σ : S5) : Option (Int32 × S5) :=
  bd (f_X9_add (u0) (v4) (0) (v6) σ) (fun r219 τ219 =>
  some (r219, τ219))
def f_X5_readAlternative_b163 (E : S5 → Option (Int32 × S5)) (v2 : Int32) (v3 : Int32) (v4 : Int32) (v5 : Int32) (σ : S5) : Option (Int32 × S5) :=
  bd (f_X5_expect (128) σ) (fun _ τ167 =>
  bd (f_X5_readWithin E (v5) τ167) (fun r173 τ173 =>
  if v2 = 4 then
    (bd (f_X9_add (11) (v3) (v5) (r173) τ173) (fun r194 τ194 =>
    some (r194, τ194)))
  else
    (if v2 = 5 then
      (f_X5_readAlternative_b214 E (v4) (r173) (12) τ173)
    else
      (f_X5_readAlternative_b214 E (v4) (r173) (13) τ173))))
def f_X5_readAlternative_B136 (E : S5 → Option (Int32 × S5)) (rec136 : Int32 → Int32 → Int32 → Int32 → Int32 → S5 → Option (Int32 × S5)) (v2 : Int32) (v3 : Int32) (v4 : Int32) (v5 : Int32) (v6 : Int32) (σ : S5) : Option (Int32 × S5) :=
  gd v3 30 <| if (xA σ 2 v3) ≤ v6 then
    (f_X5_readAlternative_b163 E (v2) (v3) (v4) (v5) σ)
  else
    (bd (f_X5_declare (v5) σ) (fun r153 τ153 =>
    rec136 (v2) (v3) (v4) (v5) ((v6 + 1)) τ153))
def f_X5_readAlternative_L136 (E : S5 → Option (Int32 × S5)) : Nat → Int32 → Int32 → Int32 → Int32 → Int32 → S5 → Option (Int32 × S5)
  | 0, _, _, _, _, _, _ => none
  | n + 1, v2, v3, v4, v5, v6, σ => f_X5_readAlternative_B136 E (f_X5_readAlternative_L136 E n) v2 v3 v4 v5 v6 σ
def f_X5_readAlternative_b85 (E : S5 → Option (Int32 × S5)) (v2 : Int32) (v3 : Int32) (σ : S5) : Option (Int32 × S5) :=
  bd (f_X10_advance  σ) (fun _ τ104 =>
  if v3 = (-1) then
    (f_X5_readAlternative_b163 E (v2) (v3) ((gI σ 19)) ((gI σ 15)) τ104)
  else
    (bd (f_X6_add ((gI τ104 15)) ((gI τ104 18)) (0) τ104) (fun r128 τ128 =>
    f_X5_readAlternative_L136 E FU (v2) (v3) ((gI σ 19)) (r128) (0) τ128)))
def f_X5_readAlternative_b74 (E : S5 → Option (Int32 × S5)) (v1 : Int32) (v2 : Int32) (v3 : Int32) (σ : S5) : Option (Int32 × S5) :=
  if v1 < 8 then
    (f_X5_readAlternative_b85 E (v2) (v3) σ)
  else
    (bd (f_X5_refuse (4) σ) (fun _ τ82 =>
    f_X5_readAlternative_b85 E (v2) (v3) τ82))
def f_X5_readAlternative_b56 (E : S5 → Option (Int32 × S5)) (v1 : Int32) (v2 : Int32) (v3 : Int32) (σ : S5) : Option (Int32 × S5) :=
  if v2 = 4 then
    (if v3 = (-1) then
      (bd (f_X5_refuse (3) σ) (fun _ τ68 =>
      f_X5_readAlternative_b85 E (v2) (v3) τ68))
    else
      (f_X5_readAlternative_b74 E (v1) (v2) (v3) σ))
  else
    (f_X5_readAlternative_b74 E (v1) (v2) (v3) σ)
def f_X5_readAlternative_b31 (E : S5 → Option (Int32 × S5)) (v1 : Int32) (v2 : Int32) (u0 : Int32) (σ : S5) : Option (Int32 × S5) :=
  if v2 = 4 then
    (f_X5_readAlternative_b56 E (v1) (v2) (u0) σ)
  else
    (if v2 = 5 then
      (f_X5_readAlternative_b56 E (v1) (v2) (u0) σ)
    else
      (if v2 = 95 then
        (f_X5_readAlternative_b56 E (v1) (v2) (u0) σ)
      else
        (bd (f_X5_refuse (1) σ) (fun _ τ50 =>
        f_X5_readAlternative_b85 E (v2) (u0) τ50))))
def f_X5_readAlternative (E : S5 → Option (Int32 × S5)) (a1 : Int32) (σ : S5) : Option (Int32 × S5) :=
  if (gI σ 17) = 4 then
    (bd (f_X4_constructorOf ((gJ σ 0)) σ) (fun r24 τ24 =>
    f_X5_readAlternative_b31 E (a1) ((gI σ 17)) (r24) τ24))
  else
    (f_X5_readAlternative_b31 E (a1) ((gI σ 17)) ((-1)) σ)
def f_X5_readCase_b107 (E : S5 → Option (Int32 × S5)) (v1 : Int32) (σ : S5) : Option (Int32 × S5) :=
  bd (f_X5_expect (125) σ) (fun _ τ110 =>
  bd (f_X9_add (6) (0) (0) (v1) (pI τ110 14 ((gI τ110 14) - 1))) (fun r132 τ132 =>
  some (r132, τ132)))
def f_X5_readCase_B55 (E : S5 → Option (Int32 × S5)) (rec55 : Int32 → Int32 → Int32 → S5 → Option (Int32 × S5)) (v1 : Int32) (v2 : Int32) (v3 : Int32) (σ : S5) : Option (Int32 × S5) :=
  if 8 < v3 then
    (f_X5_readCase_b107 E (v1) σ)
  else
    (if (gI σ 17) = 59 then
      (bd (f_X10_advance  σ) (fun _ τ77 =>
      bd (f_X5_readAlternative E (v3) τ77) (fun r82 τ82 =>
      gd v2 6200 <| rec55 (v1) (r82) ((v3 + 1)) (pA τ82 17 v2 r82))))
    else
      (f_X5_readCase_b107 E (v1) σ))
def f_X5_readCase_L55 (E : S5 → Option (Int32 × S5)) : Nat → Int32 → Int32 → Int32 → S5 → Option (Int32 × S5)
  | 0, _, _, _, _ => none
  | n + 1, v1, v2, v3, σ => f_X5_readCase_B55 E (f_X5_readCase_L55 E n) v1 v2 v3 σ
def f_X5_readCase (E : S5 → Option (Int32 × S5))  (σ : S5) : Option (Int32 × S5) :=
  bd (f_X5_opens  σ) (fun r1 τ1 =>
  if r1 = 0 then
    (some ((0 : Int32), τ1))
  else
    (bd (f_X5_countPart  τ1) (fun _ τ10 =>
    bd (f_X10_advance  τ10) (fun _ τ17 =>
    bd (E  τ17) (fun r21 τ21 =>
    bd (f_X5_expect (10) τ21) (fun _ τ28 =>
    bd (f_X5_expect (123) τ28) (fun _ τ34 =>
    bd (f_X5_readAlternative E (0) τ34) (fun r39 τ39 =>
    gd r21 6200 <| f_X5_readCase_L55 E FU (r21) (r39) (1) (pA τ39 17 r21 r39)))))))))
def f_X5_readExpression (E : S5 → Option (Int32 × S5))  (σ : S5) : Option (Int32 × S5) :=
  if (gI σ 17) = 7 then
    (bd (f_X5_readLet E  σ) (fun r41 τ41 =>
    some (r41, τ41)))
  else if (gI σ 17) = 9 then
    (bd (f_X5_readCase E  σ) (fun r51 τ51 =>
    some (r51, τ51)))
  else if (gI σ 17) = 92 then
    (bd (f_X5_readLambda E  σ) (fun r46 τ46 =>
    some (r46, τ46)))
  else 
    (bd (f_X5_readComparison E  σ) (fun r56 τ56 =>
    some (r56, τ56)))
def f_X5_readFunction_b62 (E : S5 → Option (Int32 × S5))  (σ : S5) : Option (Unit × S5) :=
  if (gI σ 17) = 0 then
    (some ((), σ))
  else
    (bd (f_X6_add ((-1)) ((gI σ 18)) (1) σ) (fun r86 τ86 =>
    bd (f_X4_addTop ((gJ τ86 0)) (r86) τ86) (fun _ τ102 =>
    bd (f_X10_advance  τ102) (fun _ τ109 =>
    bd (f_X5_readParameters (r86) τ109) (fun _ τ114 =>
    bd (f_X5_expect (61) τ114) (fun _ τ120 =>
    bd (f_X5_readWithin E (r86) τ120) (fun r133 τ133 =>
    gd r86 700 <| bd (f_X5_expect (59) (pA τ133 23 r86 r133)) (fun _ τ140 =>
    some ((), τ140)))))))))
def f_X5_readFunction (E : S5 → Option (Int32 × S5))  (σ : S5) : Option (Unit × S5) :=
  if (gI σ 17) = 3 then
    (bd (f_X4_topOf ((gJ σ 0)) σ) (fun r30 τ30 =>
    if r30 = (-1) then
      (if (gI τ30 5) < 30 then
        (f_X5_readFunction_b62 E  τ30)
      else
        (bd (f_X5_refuse (4) τ30) (fun _ τ59 =>
        f_X5_readFunction_b62 E  τ59)))
    else
      (bd (f_X5_refuse (2) τ30) (fun _ τ39 =>
      f_X5_readFunction_b62 E  τ39))))
  else
    (bd (f_X5_refuse (1) σ) (fun _ τ13 =>
    f_X5_readFunction_b62 E  τ13))
def f_X5_readText_B90 (E : S5 → Option (Int32 × S5)) (rec90 : Int32 → S5 → Option (Unit × S5)) (v1 : Int32) (σ : S5) : Option (Unit × S5) :=
  if 30 ≤ v1 then
    (some ((), σ))
  else
    (if (gI σ 17) = 1 then
      (some ((), σ))
    else
      (if (gI σ 17) = 0 then
        (some ((), σ))
      else
        (bd (f_X5_readFunction E  σ) (fun _ τ118 =>
        rec90 ((v1 + 1)) τ118))))
def f_X5_readText_L90 (E : S5 → Option (Int32 × S5)) : Nat → Int32 → S5 → Option (Unit × S5)
  | 0, _, _ => none
  | n + 1, v1, σ => f_X5_readText_B90 E (f_X5_readText_L90 E n) v1 σ
def f_X5_readText_b84 (E : S5 → Option (Int32 × S5))  (σ : S5) : Option (Unit × S5) :=
  bd (f_X5_readFunction E  σ) (fun _ τ85 =>
  f_X5_readText_L90 E FU (0) τ85)
def f_X5_readText_B55 (E : S5 → Option (Int32 × S5)) (rec55 : Int32 → S5 → Option (Unit × S5)) (v1 : Int32) (σ : S5) : Option (Unit × S5) :=
  if 3001 ≤ v1 then
    (f_X5_readText_b84 E  σ)
  else
    (if (gI σ 17) = 6 then
      (bd (f_X5_readData  σ) (fun _ τ75 =>
      rec55 ((v1 + 1)) τ75))
    else
      (f_X5_readText_b84 E  σ))
def f_X5_readText_L55 (E : S5 → Option (Int32 × S5)) : Nat → Int32 → S5 → Option (Unit × S5)
  | 0, _, _ => none
  | n + 1, v1, σ => f_X5_readText_B55 E (f_X5_readText_L55 E n) v1 σ
def f_X5_readText (E : S5 → Option (Int32 × S5))  (σ : S5) : Option (Unit × S5) :=
  bd (f_X9_clear  σ) (fun _ τ4 =>
  bd (f_X4_clear  τ4) (fun _ τ11 =>
  bd (f_X6_clear  τ11) (fun _ τ18 =>
  bd (f_X10_begin  (pI (pI (pI (pI (pI τ18 11 0) 12 (-1)) 13 0) 14 0) 15 (-1))) (fun _ τ50 =>
  f_X5_readText_L55 E FU (0) τ50))))
def f_X2_refuse (a1 : Int32) (a2 : Int32) (σ : S5) : Option (Unit × S5) :=
  if (gI σ 20) = 0 then
    (some ((), (pI (pI σ 20 a1) 21 a2)))
  else
    (some ((), σ))
def f_X2_freeIndex_B2 (rec2 : Int32 → Int32 → Int32 → S5 → Option (Int32 × S5)) (v1 : Int32) (v2 : Int32) (v3 : Int32) (σ : S5) : Option (Int32 × S5) :=
  gd v1 630 <| if (xA σ 4 v1) ≤ v3 then
    (some (((-1) : Int32), σ))
  else
    (if 8 ≤ v3 then
      (some (((-1) : Int32), σ))
    else
      (gd ((v1 * 8) + v3) 5040 <| if (xA σ 5 ((v1 * 8) + v3)) = v2 then
        (some (v3, σ))
      else
        (rec2 (v1) (v2) ((v3 + 1)) σ)))
def f_X2_freeIndex_L2 : Nat → Int32 → Int32 → Int32 → S5 → Option (Int32 × S5)
  | 0, _, _, _, _ => none
  | n + 1, v1, v2, v3, σ => f_X2_freeIndex_B2 (f_X2_freeIndex_L2  n) v1 v2 v3 σ
def f_X2_freeIndex (a1 : Int32) (a2 : Int32) (σ : S5) : Option (Int32 × S5) :=
  f_X2_freeIndex_L2  FU (a1) (a2) (0) σ
def f_X2_addFree_b48 (v1 : Int32) (σ : S5) : Option (Unit × S5) :=
  gd v1 630 <| gd v1 630 <| some ((), (pA σ 4 v1 ((xA σ 4 v1) + 1)))
def f_X2_addFree (a1 : Int32) (a2 : Int32) (σ : S5) : Option (Unit × S5) :=
  bd (f_X2_freeIndex (a1) (a2) σ) (fun r3 τ3 =>
  if r3 = (-1) then
    (gd a1 630 <| if 8 ≤ (xA τ3 4 a1) then
      (f_X2_addFree_b48  (a1) τ3)
    else
      (gd a1 630 <| gd ((a1 * 8) + (xA τ3 4 a1)) 5040 <| f_X2_addFree_b48  (a1) (pA τ3 5 ((a1 * 8) + (xA τ3 4 a1)) a2)))
  else
    (some ((), τ3)))
def f_X2_passThrough_B18 (rec18 : Int32 → Int32 → Int32 → Int32 → S5 → Option (Unit × S5)) (v1 : Int32) (v3 : Int32) (v4 : Int32) (v5 : Int32) (σ : S5) : Option (Unit × S5) :=
  if 700 ≤ v5 then
    (some ((), σ))
  else
    (if v4 = v3 then
      (some ((), σ))
    else
      (gd v4 700 <| if (xA σ 21 v4) = (-1) then
        (some ((), σ))
      else
        (gd v4 700 <| bd (f_X2_addFree ((xA σ 26 v4)) (v1) σ) (fun _ τ58 =>
        gd v4 700 <| gd (xA τ58 21 v4) 700 <| rec18 (v1) (v3) ((xA τ58 22 (xA τ58 21 v4))) ((v5 + 1)) τ58))))
def f_X2_passThrough_L18 : Nat → Int32 → Int32 → Int32 → Int32 → S5 → Option (Unit × S5)
  | 0, _, _, _, _, _ => none
  | n + 1, v1, v3, v4, v5, σ => f_X2_passThrough_B18 (f_X2_passThrough_L18  n) v1 v3 v4 v5 σ
def f_X2_passThrough (a1 : Int32) (a2 : Int32) (σ : S5) : Option (Unit × S5) :=
  gd (a1 / 5) 700 <| f_X2_passThrough_L18  FU (a1) ((xA σ 22 (a1 / 5))) (a2) (0) σ
def f_X2_findFree_b49 (rec2 : Int32 → S5 → Option (Unit × S5)) (v1 : Int32) (σ : S5) : Option (Unit × S5) :=
  rec2 ((v1 + 1)) σ
def f_X2_findFree_B2 (rec2 : Int32 → S5 → Option (Unit × S5)) (v1 : Int32) (σ : S5) : Option (Unit × S5) :=
  if (gI σ 10) ≤ v1 then
    (some ((), σ))
  else
    (gd v1 600 <| if (xA σ 30 v1) < 0 then
      (f_X2_findFree_b49 rec2 (v1) σ)
    else
      (gd v1 600 <| gd (xA σ 27 v1) 700 <| bd (f_X2_passThrough ((xA σ 30 v1)) ((xA σ 22 (xA σ 27 v1))) σ) (fun _ τ46 =>
      f_X2_findFree_b49 rec2 (v1) τ46)))
def f_X2_findFree_L2 : Nat → Int32 → S5 → Option (Unit × S5)
  | 0, _, _ => none
  | n + 1, v1, σ => f_X2_findFree_B2 (f_X2_findFree_L2  n) v1 σ
def f_X2_findFree  (σ : S5) : Option (Unit × S5) :=
  f_X2_findFree_L2  FU (0) σ
def f_X2_numberFunctions_B99 (rec99 : Int32 → S5 → Option (Unit × S5)) (v1 : Int32) (σ : S5) : Option (Unit × S5) :=
  if (gI σ 6) ≤ v1 then
    (some ((), σ))
  else
    (gd v1 630 <| gd (xA σ 8 v1) 700 <| gd v1 630 <| rec99 ((v1 + 1)) (pA σ 7 v1 (xA σ 23 (xA σ 8 v1))))
def f_X2_numberFunctions_L99 : Nat → Int32 → S5 → Option (Unit × S5)
  | 0, _, _ => none
  | n + 1, v1, σ => f_X2_numberFunctions_B99 (f_X2_numberFunctions_L99  n) v1 σ
def f_X2_numberFunctions_b91 (rec39 : Int32 → S5 → Option (Unit × S5)) (v1 : Int32) (σ : S5) : Option (Unit × S5) :=
  rec39 ((v1 + 1)) σ
def f_X2_numberFunctions_B39 (rec39 : Int32 → S5 → Option (Unit × S5)) (v1 : Int32) (σ : S5) : Option (Unit × S5) :=
  if (gI σ 9) ≤ v1 then
    (f_X2_numberFunctions_L99  FU (0) σ)
  else
    (bd (f_X6_owns (v1) σ) (fun r55 τ55 =>
    if r55 = 0 then
      (f_X2_numberFunctions_b91 rec39 (v1) τ55)
    else
      (gd v1 700 <| if (xA τ55 21 v1) = (-1) then
        (f_X2_numberFunctions_b91 rec39 (v1) τ55)
      else
        (bd (f_X4_addFunction (v1) τ55) (fun r87 τ87 =>
        gd v1 700 <| f_X2_numberFunctions_b91 rec39 (v1) (pA τ87 26 v1 r87))))))
def f_X2_numberFunctions_L39 : Nat → Int32 → S5 → Option (Unit × S5)
  | 0, _, _ => none
  | n + 1, v1, σ => f_X2_numberFunctions_B39 (f_X2_numberFunctions_L39  n) v1 σ
def f_X2_numberFunctions_B2 (rec2 : Int32 → S5 → Option (Unit × S5)) (v1 : Int32) (σ : S5) : Option (Unit × S5) :=
  if (gI σ 5) ≤ v1 then
    (f_X2_numberFunctions_L39  FU (0) σ)
  else
    (gd v1 630 <| gd (xA σ 8 v1) 700 <| rec2 ((v1 + 1)) (pA σ 26 (xA σ 8 v1) v1))
def f_X2_numberFunctions_L2 : Nat → Int32 → S5 → Option (Unit × S5)
  | 0, _, _ => none
  | n + 1, v1, σ => f_X2_numberFunctions_B2 (f_X2_numberFunctions_L2  n) v1 σ
def f_X2_numberFunctions  (σ : S5) : Option (Unit × S5) :=
  f_X2_numberFunctions_L2  FU (0) σ
def f_X2_resolveUses_b85 (rec2 : Int32 → S5 → Option (Unit × S5)) (v1 : Int32) (v2 : Int32) (σ : S5) : Option (Unit × S5) :=
  gd v1 600 <| rec2 ((v1 + 1)) (pA σ 30 v1 v2)
def f_X2_resolveUses_b80 (rec2 : Int32 → S5 → Option (Unit × S5)) (v1 : Int32) (v3 : Int32) (σ : S5) : Option (Unit × S5) :=
  f_X2_resolveUses_b85 rec2 (v1) (((-2) - v3)) σ
def f_X2_resolveUses_B2 (rec2 : Int32 → S5 → Option (Unit × S5)) (v1 : Int32) (σ : S5) : Option (Unit × S5) :=
  if (gI σ 10) ≤ v1 then
    (some ((), σ))
  else
    (gd v1 600 <| gd v1 600 <| bd (f_X6_find ((xA σ 27 v1)) ((xB σ 4 v1)) σ) (fun r35 τ35 =>
    if r35 = (-1) then
      (gd v1 600 <| bd (f_X4_topOf ((xB τ35 4 v1)) τ35) (fun r57 τ57 =>
      if r57 = (-1) then
        (gd v1 600 <| bd (f_X2_refuse (5) ((xA τ57 28 v1)) τ57) (fun _ τ77 =>
        f_X2_resolveUses_b80 rec2 (v1) (r57) τ77))
      else
        (f_X2_resolveUses_b80 rec2 (v1) (r57) τ57)))
    else
      (f_X2_resolveUses_b85 rec2 (v1) (r35) τ35)))
def f_X2_resolveUses_L2 : Nat → Int32 → S5 → Option (Unit × S5)
  | 0, _, _ => none
  | n + 1, v1, σ => f_X2_resolveUses_B2 (f_X2_resolveUses_L2  n) v1 σ
def f_X2_resolveUses  (σ : S5) : Option (Unit × S5) :=
  f_X2_resolveUses_L2  FU (0) σ
def f_X2_refuseManyParameters_b80 (rec2 : Int32 → S5 → Option (Unit × S5)) (v1 : Int32) (σ : S5) : Option (Unit × S5) :=
  rec2 ((v1 + 1)) σ
def f_X2_refuseManyParameters_B2 (rec2 : Int32 → S5 → Option (Unit × S5)) (v1 : Int32) (σ : S5) : Option (Unit × S5) :=
  if (gI σ 6) ≤ v1 then
    (some ((), σ))
  else
    (gd v1 630 <| gd v1 630 <| gd (xA σ 8 v1) 700 <| gd v1 630 <| gd v1 630 <| if (xA (pA σ 3 v1 ((xA σ 4 v1) + (xA σ 20 (xA σ 8 v1)))) 3 v1) ≤ 8 then
      (f_X2_refuseManyParameters_b80 rec2 (v1) (pA σ 3 v1 ((xA σ 4 v1) + (xA σ 20 (xA σ 8 v1)))))
    else
      (gd (xA σ 8 v1) 700 <| bd (f_X2_refuse (6) ((xA σ 24 (xA σ 8 v1))) (pA σ 3 v1 ((xA σ 4 v1) + (xA σ 20 (xA σ 8 v1))))) (fun _ τ77 =>
      f_X2_refuseManyParameters_b80 rec2 (v1) τ77)))
def f_X2_refuseManyParameters_L2 : Nat → Int32 → S5 → Option (Unit × S5)
  | 0, _, _ => none
  | n + 1, v1, σ => f_X2_refuseManyParameters_B2 (f_X2_refuseManyParameters_L2  n) v1 σ
def f_X2_refuseManyParameters  (σ : S5) : Option (Unit × S5) :=
  f_X2_refuseManyParameters_L2  FU (0) σ
def f_X2_findMain_b46  (σ : S5) : Option (Unit × S5) :=
  bd (f_X2_refuse (7) (0) σ) (fun _ τ50 =>
  some ((), τ50))
def f_X2_findMain  (σ : S5) : Option (Unit × S5) :=
  bd (f_X4_topOf (1835100526) σ) (fun r11 τ11 =>
  if r11 = (-1) then
    (f_X2_findMain_b46   (pI τ11 7 r11))
  else
    (gd r11 630 <| if (xA τ11 3 r11) ≤ 0 then
      (some ((), (pI τ11 7 r11)))
    else
      (f_X2_findMain_b46   (pI τ11 7 r11))))
def f_X2_numberVariables_b144 (rec65 : Int32 → S5 → Option (Unit × S5)) (v1 : Int32) (σ : S5) : Option (Unit × S5) :=
  rec65 ((v1 + 1)) σ
def f_X2_numberVariables_B65 (rec65 : Int32 → S5 → Option (Unit × S5)) (v1 : Int32) (σ : S5) : Option (Unit × S5) :=
  if (gI σ 9) ≤ v1 then
    (some ((), σ))
  else
    (bd (f_X6_owns (v1) σ) (fun r81 τ81 =>
    if r81 = 0 then
      (gd v1 700 <| gd (xA τ81 22 v1) 700 <| gd (xA τ81 26 (xA τ81 22 v1)) 630 <| gd v1 700 <| gd (xA τ81 26 (xA τ81 22 v1)) 630 <| gd v1 700 <| gd (xA τ81 26 (xA τ81 22 v1)) 630 <| f_X2_numberVariables_b144 rec65 (v1) (pA (pA τ81 25 v1 (xA τ81 6 (xA τ81 26 (xA τ81 22 v1)))) 6 (xA τ81 26 (xA τ81 22 v1)) ((xA τ81 6 (xA τ81 26 (xA τ81 22 v1))) + (xA τ81 20 v1))))
    else
      (f_X2_numberVariables_b144 rec65 (v1) τ81)))
def f_X2_numberVariables_L65 : Nat → Int32 → S5 → Option (Unit × S5)
  | 0, _, _ => none
  | n + 1, v1, σ => f_X2_numberVariables_B65 (f_X2_numberVariables_L65  n) v1 σ
def f_X2_numberVariables_B2 (rec2 : Int32 → S5 → Option (Unit × S5)) (v1 : Int32) (σ : S5) : Option (Unit × S5) :=
  if (gI σ 6) ≤ v1 then
    (f_X2_numberVariables_L65  FU (0) σ)
  else
    (gd v1 630 <| gd v1 630 <| gd (xA σ 8 v1) 700 <| gd v1 630 <| gd v1 630 <| rec2 ((v1 + 1)) (pA (pA σ 25 (xA σ 8 v1) (xA σ 4 v1)) 6 v1 (xA σ 3 v1)))
def f_X2_numberVariables_L2 : Nat → Int32 → S5 → Option (Unit × S5)
  | 0, _, _ => none
  | n + 1, v1, σ => f_X2_numberVariables_B2 (f_X2_numberVariables_L2  n) v1 σ
def f_X2_numberVariables  (σ : S5) : Option (Unit × S5) :=
  f_X2_numberVariables_L2  FU (0) σ
def f_X2_numberIn (a1 : Int32) (a2 : Int32) (σ : S5) : Option (Int32 × S5) :=
  gd (a2 / 5) 700 <| gd a1 630 <| if (xA σ 22 (a2 / 5)) = (xA σ 8 a1) then
    (gd (a2 / 5) 700 <| some (((xA σ 25 (a2 / 5)) + (a2 - a2 / 5 * 5)), σ))
  else
    (bd (f_X2_freeIndex (a1) (a2) σ) (fun r43 τ43 =>
    some ((if (0 : Int32) < r43 then r43 else 0), τ43)))
def f_X2_plantUses_b96 (rec2 : Int32 → S5 → Option (Unit × S5)) (v1 : Int32) (σ : S5) : Option (Unit × S5) :=
  rec2 ((v1 + 1)) σ
def f_X2_plantUses_B2 (rec2 : Int32 → S5 → Option (Unit × S5)) (v1 : Int32) (σ : S5) : Option (Unit × S5) :=
  if (gI σ 10) ≤ v1 then
    (some ((), σ))
  else
    (gd v1 600 <| gd v1 600 <| if 0 ≤ (xA σ 30 v1) then
      (gd v1 600 <| gd (xA σ 27 v1) 700 <| gd (xA σ 22 (xA σ 27 v1)) 700 <| bd (f_X2_numberIn ((xA σ 26 (xA σ 22 (xA σ 27 v1)))) ((xA σ 30 v1)) σ) (fun r90 τ90 =>
      bd (f_X9_change ((xA σ 29 v1)) (3) (r90) τ90) (fun _ τ93 =>
      f_X2_plantUses_b96 rec2 (v1) τ93)))
    else
      (bd (f_X9_change ((xA σ 29 v1)) (2) (((-2) - (xA σ 30 v1))) σ) (fun _ τ47 =>
      f_X2_plantUses_b96 rec2 (v1) τ47)))
def f_X2_plantUses_L2 : Nat → Int32 → S5 → Option (Unit × S5)
  | 0, _, _ => none
  | n + 1, v1, σ => f_X2_plantUses_B2 (f_X2_plantUses_L2  n) v1 σ
def f_X2_plantUses  (σ : S5) : Option (Unit × S5) :=
  f_X2_plantUses_L2  FU (0) σ
def f_X2_plantLeaf (a1 : Int32) (a2 : Int32) (σ : S5) : Option (Int32 × S5) :=
  bd (f_X9_addLeaf (a1) (a2) σ) (fun r6 τ6 =>
  bd (f_X9_measureLeaf (r6) τ6) (fun _ τ15 =>
  some (r6, τ15)))
def f_X2_plantLifted_B111 (rec111 : Int32 → Int32 → Int32 → Int32 → S5 → Option (Unit × S5)) (v3 : Int32) (v4 : Int32) (v5 : Int32) (v6 : Int32) (σ : S5) : Option (Unit × S5) :=
  gd v3 630 <| if (xA σ 4 v3) ≤ v6 then
    (some ((), σ))
  else
    (if 8 ≤ v6 then
      (some ((), σ))
    else
      (gd ((v3 * 8) + v6) 5040 <| bd (f_X2_numberIn (v4) ((xA σ 5 ((v3 * 8) + v6))) σ) (fun r152 τ152 =>
      bd (f_X2_plantLeaf (3) (r152) τ152) (fun r155 τ155 =>
      gd v5 6200 <| rec111 (v3) (v4) (r155) ((v6 + 1)) (pA τ155 17 v5 r155)))))
def f_X2_plantLifted_L111 : Nat → Int32 → Int32 → Int32 → Int32 → S5 → Option (Unit × S5)
  | 0, _, _, _, _, _ => none
  | n + 1, v3, v4, v5, v6, σ => f_X2_plantLifted_B111 (f_X2_plantLifted_L111  n) v3 v4 v5 v6 σ
def f_X2_plantLifted (a1 : Int32) (a2 : Int32) (σ : S5) : Option (Unit × S5) :=
  gd a2 700 <| gd (xA σ 26 a2) 630 <| if (xA σ 4 (xA σ 26 a2)) = 0 then
    (bd (f_X9_change (a1) (2) ((xA σ 26 a2)) σ) (fun _ τ29 =>
    some ((), τ29)))
  else
    (gd a2 700 <| gd (xA σ 21 a2) 700 <| gd (xA σ 22 (xA σ 21 a2)) 700 <| bd (f_X2_plantLeaf (2) ((xA σ 26 a2)) σ) (fun r63 τ63 =>
    bd (f_X9_change (a1) (8) (0) τ63) (fun _ τ76 =>
    gd (xA σ 26 a2) 630 <| gd a1 6200 <| gd a1 6200 <| f_X2_plantLifted_L111  FU ((xA σ 26 a2)) ((xA σ 26 (xA σ 22 (xA σ 21 a2)))) (r63) (0) (pA (pA τ76 15 a1 (xA τ76 4 (xA σ 26 a2))) 16 a1 r63))))
def f_X2_plantNode (a1 : Int32) (σ : S5) : Option (Unit × S5) :=
  gd a1 6200 <| if (xA σ 13 a1) = 7 then
    (gd a1 6200 <| gd (xA σ 15 a1) 700 <| gd (xA σ 22 (xA σ 15 a1)) 700 <| gd a1 6200 <| some ((), (pA σ 15 a1 (xA σ 26 (xA σ 22 (xA σ 15 a1))))))
  else if (xA σ 13 a1) = 8 then
    (some ((), σ))
  else if (xA σ 13 a1) = 9 then
    (some ((), σ))
  else if (xA σ 13 a1) = 10 then
    (gd a1 6200 <| gd ((xA σ 14 a1) / 5) 700 <| gd a1 6200 <| some ((), (pA σ 14 a1 ((xA σ 25 ((xA σ 14 a1) / 5)) + ((xA σ 14 a1) - (xA σ 14 a1) / 5 * 5)))))
  else if (xA σ 13 a1) = 11 then
    (gd a1 6200 <| gd (xA σ 15 a1) 700 <| gd a1 6200 <| some ((), (pA σ 15 a1 (xA σ 25 (xA σ 15 a1)))))
  else if (xA σ 13 a1) = 12 then
    (some ((), σ))
  else if (xA σ 13 a1) = 13 then
    (some ((), σ))
  else if (xA σ 13 a1) = 14 then
    (gd a1 6200 <| bd (f_X2_plantLifted (a1) ((xA σ 14 a1)) σ) (fun _ τ170 =>
    some ((), τ170)))
  else 
    (some ((), σ))
def f_X2_plantNodes_b89 (rec10 : Int32 → Int32 → S5 → Option (Unit × S5)) (v1 : Int32) (v2 : Int32) (σ : S5) : Option (Unit × S5) :=
  rec10 (v1) ((v2 + 1)) σ
def f_X2_plantNodes_b86 (rec10 : Int32 → Int32 → S5 → Option (Unit × S5)) (v1 : Int32) (v2 : Int32) (u0 : Int32) (u1 : Int32) (σ : S5) : Option (Unit × S5) :=
  bd (f_X9_measure (u1) (u0) σ) (fun _ τ86 =>
  f_X2_plantNodes_b89 rec10 (v1) (v2) τ86)
def f_X2_plantNodes_B10 (rec10 : Int32 → Int32 → S5 → Option (Unit × S5)) (v1 : Int32) (v2 : Int32) (σ : S5) : Option (Unit × S5) :=
  if v1 ≤ v2 then
    (some ((), σ))
  else
    (bd (f_X2_plantNode (v2) σ) (fun _ τ17 =>
    gd v2 6200 <| gd v2 6200 <| if (xA τ17 16 v2) = (-1) then
      (bd (f_X9_measureLeaf (v2) τ17) (fun _ τ48 =>
      f_X2_plantNodes_b89 rec10 (v1) (v2) τ48))
    else
      (if (xA τ17 13 v2) = 11 then
        (gd v2 6200 <| gd (xA τ17 14 v2) 30 <| f_X2_plantNodes_b86 rec10 (v1) (v2) ((xA τ17 2 (xA τ17 14 v2))) (v2) τ17)
      else
        (f_X2_plantNodes_b86 rec10 (v1) (v2) (0) (v2) τ17))))
def f_X2_plantNodes_L10 : Nat → Int32 → Int32 → S5 → Option (Unit × S5)
  | 0, _, _, _ => none
  | n + 1, v1, v2, σ => f_X2_plantNodes_B10 (f_X2_plantNodes_L10  n) v1 v2 σ
def f_X2_plantNodes  (σ : S5) : Option (Unit × S5) :=
  f_X2_plantNodes_L10  FU ((gI σ 8)) (0) σ
def f_X2_keepMeasures_b116 (rec2 : Int32 → S5 → Option (Unit × S5)) (v1 : Int32) (σ : S5) : Option (Unit × S5) :=
  rec2 ((v1 + 1)) σ
def f_X2_keepMeasures_b93 (rec2 : Int32 → S5 → Option (Unit × S5)) (v1 : Int32) (σ : S5) : Option (Unit × S5) :=
  gd v1 630 <| gd (xA σ 8 v1) 700 <| bd (f_X2_refuse (8) ((xA σ 24 (xA σ 8 v1))) σ) (fun _ τ113 =>
  f_X2_keepMeasures_b116 rec2 (v1) τ113)
def f_X2_keepMeasures_B2 (rec2 : Int32 → S5 → Option (Unit × S5)) (v1 : Int32) (σ : S5) : Option (Unit × S5) :=
  if (gI σ 6) ≤ v1 then
    (some ((), σ))
  else
    (gd v1 630 <| gd (xA σ 7 v1) 6200 <| gd v1 630 <| gd v1 630 <| gd (xA σ 7 v1) 6200 <| gd v1 630 <| gd v1 630 <| if 40 < (xA (pA σ 10 v1 (xA σ 18 (xA σ 7 v1))) 10 v1) then
      (f_X2_keepMeasures_b93 rec2 (v1) (pA (pA σ 9 v1 (xA σ 19 (xA σ 7 v1))) 10 v1 (xA σ 18 (xA σ 7 v1))))
    else
      (gd v1 630 <| if (xA σ 6 v1) ≤ 40 then
        (f_X2_keepMeasures_b116 rec2 (v1) (pA (pA σ 9 v1 (xA σ 19 (xA σ 7 v1))) 10 v1 (xA σ 18 (xA σ 7 v1))))
      else
        (f_X2_keepMeasures_b93 rec2 (v1) (pA (pA σ 9 v1 (xA σ 19 (xA σ 7 v1))) 10 v1 (xA σ 18 (xA σ 7 v1))))))
def f_X2_keepMeasures_L2 : Nat → Int32 → S5 → Option (Unit × S5)
  | 0, _, _ => none
  | n + 1, v1, σ => f_X2_keepMeasures_B2 (f_X2_keepMeasures_L2  n) v1 σ
def f_X2_keepMeasures  (σ : S5) : Option (Unit × S5) :=
  f_X2_keepMeasures_L2  FU (0) σ
def f_X2_lift_b44  (σ : S5) : Option (Unit × S5) :=
  if (gI σ 20) = 0 then
    (bd (f_X2_numberVariables  σ) (fun _ τ52 =>
    bd (f_X2_plantUses  τ52) (fun _ τ56 =>
    bd (f_X2_plantNodes  τ56) (fun _ τ60 =>
    bd (f_X2_keepMeasures  τ60) (fun _ τ64 =>
    some ((), τ64))))))
  else
    (some ((), σ))
def f_X2_lift_b33  (σ : S5) : Option (Unit × S5) :=
  if (gI σ 20) = 0 then
    (bd (f_X2_findMain  σ) (fun _ τ41 =>
    f_X2_lift_b44   τ41))
  else
    (f_X2_lift_b44   σ)
def f_X2_lift  (σ : S5) : Option (Unit × S5) :=
  bd (f_X2_numberFunctions  (pI (pI σ 20 0) 21 (-1))) (fun _ τ11 =>
  bd (f_X2_resolveUses  τ11) (fun _ τ15 =>
  if (gI τ15 20) = 0 then
    (bd (f_X2_findFree  τ15) (fun _ τ26 =>
    bd (f_X2_refuseManyParameters  τ26) (fun _ τ30 =>
    f_X2_lift_b33   τ30)))
  else
    (f_X2_lift_b33   τ15)))
def f_J7_rangeCheck_23922 (a0 : Int32) (a1 : Int32) (a2 : Int32) (σ : S5) : Option (Unit × S5) :=
  if a1 ≤ a2 then
    (if 0 ≤ a1 then
      (if a2 ≤ a0 then
        (some ((), σ))
      else
        (none))
    else
      (none))
  else
    (none)
def f_J7_fill_bad5a_dem_table_B10 (rec10 : Int32 → Int64 → Int32 → S5 → Option (Unit × S5)) (v2 : Int32) (v3 : Int64) (v5 : Int32) (σ : S5) : Option (Unit × S5) :=
  if v2 ≤ v5 then
    (some ((), σ))
  else
    (gd v5 2520 <| rec10 (v2) (v3) ((v5 + 1)) (pB σ 5 v5 v3))
def f_J7_fill_bad5a_dem_table_L10 : Nat → Int32 → Int64 → Int32 → S5 → Option (Unit × S5)
  | 0, _, _, _, _ => none
  | n + 1, v2, v3, v5, σ => f_J7_fill_bad5a_dem_table_B10 (f_J7_fill_bad5a_dem_table_L10  n) v2 v3 v5 σ
def f_J7_fill_bad5a_dem_table (a1 : Int32) (a2 : Int32) (a3 : Int64) (σ : S5) : Option (Unit × S5) :=
  bd (f_J7_rangeCheck_23922 (2520) (a1) (a2) σ) (fun _ τ4 =>
  f_J7_fill_bad5a_dem_table_L10  FU (a2) (a3) (a1) τ4)
def f_J7_fill_bad5a_dem_bits_B10 (rec10 : Int32 → Int64 → Int32 → S5 → Option (Unit × S5)) (v2 : Int32) (v3 : Int64) (v5 : Int32) (σ : S5) : Option (Unit × S5) :=
  if v2 ≤ v5 then
    (some ((), σ))
  else
    (gd v5 40 <| rec10 (v2) (v3) ((v5 + 1)) (pB σ 6 v5 v3))
def f_J7_fill_bad5a_dem_bits_L10 : Nat → Int32 → Int64 → Int32 → S5 → Option (Unit × S5)
  | 0, _, _, _, _ => none
  | n + 1, v2, v3, v5, σ => f_J7_fill_bad5a_dem_bits_B10 (f_J7_fill_bad5a_dem_bits_L10  n) v2 v3 v5 σ
def f_J7_fill_bad5a_dem_bits (a1 : Int32) (a2 : Int32) (a3 : Int64) (σ : S5) : Option (Unit × S5) :=
  bd (f_J7_rangeCheck_23922 (40) (a1) (a2) σ) (fun _ τ4 =>
  f_J7_fill_bad5a_dem_bits_L10  FU (a2) (a3) (a1) τ4)
def f_X1_look (a1 : Int32) (a2 : Int32) (σ : S5) : Option (Int32 × S5) :=
  gd ((a1 * 4) + ((j_iushr a2 6) &&& 3)) 2520 <| some (((((j_lushr (xB σ 5 ((a1 * 4) + ((j_iushr a2 6) &&& 3))) (a2 &&& 63)) : Int64).toInt32) &&& 1), σ)
def f_X1_alone (a1 : Int32) (σ : S5) : Option (Int64 × S5) :=
  gd a1 630 <| if (xA σ 3 a1) ≤ 0 then
    (gd (a1 * 4) 2520 <| some ((-((xB σ 5 (a1 * 4)) &&& 1)), σ))
  else
    (some (((-1) : Int64), σ))
def f_X1_compose_B20 (rec5 : Int32 → Int32 → Int64 → Int32 → S5 → Option (Int64 × S5)) (rec20 : Int32 → Int32 → Int64 → Int32 → Int32 → Int32 → S5 → Option (Int64 × S5)) (v1 : Int32) (v2 : Int32) (v3 : Int64) (v5 : Int32) (v6 : Int32) (v7 : Int32) (σ : S5) : Option (Int64 × S5) :=
  if (gI σ 22) ≤ v7 then
    (bd (f_X1_look (v1) (v6) σ) (fun r63 τ63 =>
    rec5 (v1) (v2) ((v3 ||| (j_lshl ((r63).toInt64) v5))) ((v5 + 1)) τ63))
  else
    (gd v7 328 <| rec20 (v1) (v2) (v3) (v5) ((v6 ||| (((((j_lushr (xB σ 7 v7) v5) &&& 1) : Int64).toInt32) <<< ((v7 - v2) &&& 31)))) ((v7 + 1)) σ)
def f_X1_compose_L20 (rec5 : Int32 → Int32 → Int64 → Int32 → S5 → Option (Int64 × S5)) : Nat → Int32 → Int32 → Int64 → Int32 → Int32 → Int32 → S5 → Option (Int64 × S5)
  | 0, _, _, _, _, _, _, _ => none
  | n + 1, v1, v2, v3, v5, v6, v7, σ => f_X1_compose_B20 rec5 (f_X1_compose_L20 rec5 n) v1 v2 v3 v5 v6 v7 σ
def f_X1_compose_B5 (rec5 : Int32 → Int32 → Int64 → Int32 → S5 → Option (Int64 × S5)) (v1 : Int32) (v2 : Int32) (v3 : Int64) (v5 : Int32) (σ : S5) : Option (Int64 × S5) :=
  if (gI σ 23) ≤ v5 then
    (some (v3, σ))
  else
    (f_X1_compose_L20 rec5 FU (v1) (v2) (v3) (v5) (0) (v2) σ)
def f_X1_compose_L5 : Nat → Int32 → Int32 → Int64 → Int32 → S5 → Option (Int64 × S5)
  | 0, _, _, _, _, _ => none
  | n + 1, v1, v2, v3, v5, σ => f_X1_compose_B5 (f_X1_compose_L5  n) v1 v2 v3 v5 σ
def f_X1_compose (a1 : Int32) (a2 : Int32) (σ : S5) : Option (Int64 × S5) :=
  f_X1_compose_L5  FU (a1) (a2) (0) (0) σ
def f_X1_neededOf_b58 (rec19 : Int32 → Int32 → Int32 → Int32 → S5 → Option (Int32 × S5)) (v1 : Int32) (v2 : Int32) (v4 : Int32) (u0 : Int32) (u1 : Int32) (σ : S5) : Option (Int32 × S5) :=
  rec19 (v1) (v2) ((u1 ||| u0)) ((v4 + 1)) σ
def f_X1_neededOf_B19 (rec19 : Int32 → Int32 → Int32 → Int32 → S5 → Option (Int32 × S5)) (v1 : Int32) (v2 : Int32) (v3 : Int32) (v4 : Int32) (σ : S5) : Option (Int32 × S5) :=
  gd v1 630 <| if (xA σ 3 v1) ≤ v4 then
    (some (v3, σ))
  else
    (bd (f_X1_look (v1) ((v2 &&& (((1 : Int32) <<< (v4 &&& 31)) ^^^ (-1)))) σ) (fun r44 τ44 =>
    if r44 = 0 then
      (f_X1_neededOf_b58 rec19 (v1) (v2) (v4) (((1 : Int32) <<< (v4 &&& 31))) (v3) τ44)
    else
      (f_X1_neededOf_b58 rec19 (v1) (v2) (v4) (0) (v3) τ44)))
def f_X1_neededOf_L19 : Nat → Int32 → Int32 → Int32 → Int32 → S5 → Option (Int32 × S5)
  | 0, _, _, _, _, _ => none
  | n + 1, v1, v2, v3, v4, σ => f_X1_neededOf_B19 (f_X1_neededOf_L19  n) v1 v2 v3 v4 σ
def f_X1_neededOf (a1 : Int32) (σ : S5) : Option (Int32 × S5) :=
  gd a1 630 <| f_X1_neededOf_L19  FU (a1) ((((1 : Int32) <<< ((xA σ 3 a1) &&& 31)) - 1)) (0) (0) σ
def f_X1_wordOfAlternatives_b89 (E : Int32 → S5 → Option (Int64 × S5)) (rec8 : Int64 → Int32 → Int32 → S5 → Option (Int64 × S5)) (v2 : Int64) (v4 : Int32) (v5 : Int32) (σ : S5) : Option (Int64 × S5) :=
  gd v5 6200 <| bd (E ((xA σ 16 v5)) σ) (fun r101 τ101 =>
  gd v5 6200 <| rec8 ((v2 ||| r101)) ((v4 + 1)) ((xA τ101 17 v5)) τ101)
def f_X1_wordOfAlternatives_B39 (E : Int32 → S5 → Option (Int64 × S5)) (rec8 : Int64 → Int32 → Int32 → S5 → Option (Int64 × S5)) (rec39 : Int64 → Int32 → Int32 → Int32 → S5 → Option (Int64 × S5)) (v2 : Int64) (v4 : Int32) (v5 : Int32) (v6 : Int32) (σ : S5) : Option (Int64 × S5) :=
  gd v5 6200 <| gd (xA σ 14 v5) 30 <| if (xA σ 2 (xA σ 14 v5)) ≤ v6 then
    (f_X1_wordOfAlternatives_b89 E rec8 (v2) (v4) (v5) σ)
  else
    (gd v5 6200 <| gd ((xA σ 15 v5) + v6) 40 <| rec39 (v2) (v4) (v5) ((v6 + 1)) (pB σ 6 ((xA σ 15 v5) + v6) (-1)))
def f_X1_wordOfAlternatives_L39 (E : Int32 → S5 → Option (Int64 × S5)) (rec8 : Int64 → Int32 → Int32 → S5 → Option (Int64 × S5)) : Nat → Int64 → Int32 → Int32 → Int32 → S5 → Option (Int64 × S5)
  | 0, _, _, _, _, _ => none
  | n + 1, v2, v4, v5, v6, σ => f_X1_wordOfAlternatives_B39 E rec8 (f_X1_wordOfAlternatives_L39 E rec8 n) v2 v4 v5 v6 σ
def f_X1_wordOfAlternatives_B8 (E : Int32 → S5 → Option (Int64 × S5)) (rec8 : Int64 → Int32 → Int32 → S5 → Option (Int64 × S5)) (v2 : Int64) (v4 : Int32) (v5 : Int32) (σ : S5) : Option (Int64 × S5) :=
  if 10 ≤ v4 then
    (some (v2, σ))
  else
    (if v5 = (-1) then
      (some (v2, σ))
    else
      (gd v5 6200 <| if (xA σ 13 v5) = 11 then
        (f_X1_wordOfAlternatives_L39 E rec8 FU (v2) (v4) (v5) (0) σ)
      else
        (f_X1_wordOfAlternatives_b89 E rec8 (v2) (v4) (v5) σ)))
def f_X1_wordOfAlternatives_L8 (E : Int32 → S5 → Option (Int64 × S5)) : Nat → Int64 → Int32 → Int32 → S5 → Option (Int64 × S5)
  | 0, _, _, _, _ => none
  | n + 1, v2, v4, v5, σ => f_X1_wordOfAlternatives_B8 E (f_X1_wordOfAlternatives_L8 E n) v2 v4 v5 σ
def f_X1_wordOfAlternatives (E : Int32 → S5 → Option (Int64 × S5)) (a1 : Int32) (σ : S5) : Option (Int64 × S5) :=
  f_X1_wordOfAlternatives_L8 E FU (0) (0) (a1) σ
def f_X1_wordOfLet_b109 (E : Int32 → S5 → Option (Int64 × S5)) (v1 : Int32) (σ : S5) : Option (Int64 × S5) :=
  bd (E (v1) σ) (fun r111 τ111 =>
  some (r111, τ111))
def f_X1_wordOfLet_b80 (E : Int32 → S5 → Option (Int64 × S5)) (rec12 : Int32 → Int32 → Int32 → S5 → Option (Int64 × S5)) (v1 : Int32) (v2 : Int32) (v3 : Int32) (v4 : Int32) (v5 : Int64) (u0 : Int32) (u1 : Int32) (σ : S5) : Option (Int64 × S5) :=
  g_t (u1 ||| u0) <| gd v4 40 <| gd v3 6200 <| rec12 (v1) ((v2 + 1)) ((xA σ 17 v3)) (pB (pI σ 24 (u1 ||| u0)) 6 v4 v5)
def f_X1_wordOfLet_B12 (E : Int32 → S5 → Option (Int64 × S5)) (rec12 : Int32 → Int32 → Int32 → S5 → Option (Int64 × S5)) (v1 : Int32) (v2 : Int32) (v3 : Int32) (σ : S5) : Option (Int64 × S5) :=
  if 10 ≤ v2 then
    (f_X1_wordOfLet_b109 E (v1) σ)
  else
    (if v3 = (-1) then
      (f_X1_wordOfLet_b109 E (v1) σ)
    else
      (gd v3 6200 <| gd v3 6200 <| bd (E ((xA σ 16 v3)) σ) (fun r44 τ44 =>
      gd (xA σ 14 v3) 40 <| gd (xA σ 14 v3) 40 <| if (lg_cmp (r44 ||| (xB τ44 6 (xA σ 14 v3))) (xB τ44 6 (xA σ 14 v3))) = 0 then
        (f_X1_wordOfLet_b80 E rec12 (v1) (v2) (v3) ((xA σ 14 v3)) ((r44 ||| (xB τ44 6 (xA σ 14 v3)))) (0) ((gI τ44 24)) τ44)
      else
        (f_X1_wordOfLet_b80 E rec12 (v1) (v2) (v3) ((xA σ 14 v3)) ((r44 ||| (xB τ44 6 (xA σ 14 v3)))) (1) ((gI τ44 24)) τ44))))
def f_X1_wordOfLet_L12 (E : Int32 → S5 → Option (Int64 × S5)) : Nat → Int32 → Int32 → Int32 → S5 → Option (Int64 × S5)
  | 0, _, _, _, _ => none
  | n + 1, v1, v2, v3, σ => f_X1_wordOfLet_B12 E (f_X1_wordOfLet_L12 E n) v1 v2 v3 σ
def f_X1_wordOfLet (E : Int32 → S5 → Option (Int64 × S5)) (a1 : Int32) (σ : S5) : Option (Int64 × S5) :=
  gd a1 6200 <| f_X1_wordOfLet_L12 E FU (a1) (0) ((xA σ 17 a1)) σ
def f_X1_wordOfApplication_b167 (E : Int32 → S5 → Option (Int64 × S5)) (v3 : Int32) (v5 : Int32) (σ : S5) : Option (Int64 × S5) :=
  bd (f_X1_compose (v3) (v5) σ) (fun r171 τ171 =>
  some (r171, (pI τ171 22 v5)))
def f_X1_wordOfApplication_B95 (E : Int32 → S5 → Option (Int64 × S5)) (rec95 : Int32 → Int32 → Int32 → Int32 → Int32 → S5 → Option (Int64 × S5)) (v3 : Int32) (v4 : Int32) (v5 : Int32) (v6 : Int32) (v7 : Int32) (σ : S5) : Option (Int64 × S5) :=
  if v4 ≤ v7 then
    (f_X1_wordOfApplication_b167 E (v3) (v5) σ)
  else
    (if v6 = (-1) then
      (f_X1_wordOfApplication_b167 E (v3) (v5) σ)
    else
      (if 328 ≤ (gI σ 22) then
        (f_X1_wordOfApplication_b167 E (v3) (v5) σ)
      else
        (bd (E (v6) σ) (fun r123 τ123 =>
        gd (gI τ123 22) 328 <| gd v6 6200 <| rec95 (v3) (v4) (v5) ((xA τ123 17 v6)) ((v7 + 1)) (pI (pB τ123 7 (gI τ123 22) r123) 22 ((gI τ123 22) + 1))))))
def f_X1_wordOfApplication_L95 (E : Int32 → S5 → Option (Int64 × S5)) : Nat → Int32 → Int32 → Int32 → Int32 → Int32 → S5 → Option (Int64 × S5)
  | 0, _, _, _, _, _, _ => none
  | n + 1, v3, v4, v5, v6, v7, σ => f_X1_wordOfApplication_B95 E (f_X1_wordOfApplication_L95 E n) v3 v4 v5 v6 v7 σ
def f_X1_wordOfApplication_b69 (E : Int32 → S5 → Option (Int64 × S5)) (v3 : Int32) (σ : S5) : Option (Int64 × S5) :=
  bd (f_X1_alone (v3) σ) (fun r71 τ71 =>
  some (r71, τ71))
def f_X1_wordOfApplication (E : Int32 → S5 → Option (Int64 × S5)) (a1 : Int32) (σ : S5) : Option (Int64 × S5) :=
  gd a1 6200 <| gd (xA σ 16 a1) 6200 <| if (xA σ 13 (xA σ 16 a1)) = 2 then
    (gd (xA σ 16 a1) 6200 <| gd (xA σ 14 (xA σ 16 a1)) 630 <| if (xA σ 3 (xA σ 14 (xA σ 16 a1))) = 0 then
      (f_X1_wordOfApplication_b69 E ((xA σ 14 (xA σ 16 a1))) σ)
    else
      (gd a1 6200 <| if (xA σ 3 (xA σ 14 (xA σ 16 a1))) ≤ (xA σ 15 a1) then
        (gd (xA σ 16 a1) 6200 <| f_X1_wordOfApplication_L95 E FU ((xA σ 14 (xA σ 16 a1))) ((xA σ 3 (xA σ 14 (xA σ 16 a1)))) ((gI σ 22)) ((xA σ 17 (xA σ 16 a1))) (0) σ)
      else
        (f_X1_wordOfApplication_b69 E ((xA σ 14 (xA σ 16 a1))) σ)))
  else
    (bd (E ((xA σ 16 a1)) σ) (fun r25 τ25 =>
    some (r25, τ25)))
def f_X1_wordOf (E : Int32 → S5 → Option (Int64 × S5)) (a1 : Int32) (σ : S5) : Option (Int64 × S5) :=
  gd a1 6200 <| gd a1 6200 <| if (xA σ 13 a1) = 2 then
    (gd a1 6200 <| bd (f_X1_alone ((xA σ 14 a1)) σ) (fun r85 τ85 =>
    some (r85, τ85)))
  else if (xA σ 13 a1) = 3 then
    (gd a1 6200 <| gd (xA σ 14 a1) 40 <| some ((xB σ 6 (xA σ 14 a1)), σ))
  else if (xA σ 13 a1) = 4 then
    (some ((0 : Int64), σ))
  else if (xA σ 13 a1) = 5 then
    (bd (E ((xA σ 16 a1)) σ) (fun r93 τ93 =>
    gd (xA σ 16 a1) 6200 <| bd (E ((xA τ93 17 (xA σ 16 a1))) τ93) (fun r106 τ106 =>
    some ((r93 &&& r106), τ106))))
  else if (xA σ 13 a1) = 6 then
    (bd (E ((xA σ 16 a1)) σ) (fun r113 τ113 =>
    gd (xA σ 16 a1) 6200 <| bd (f_X1_wordOfAlternatives E ((xA τ113 17 (xA σ 16 a1))) τ113) (fun r126 τ126 =>
    some ((r113 &&& r126), τ126))))
  else if (xA σ 13 a1) = 7 then
    (bd (f_X1_wordOfLet E ((xA σ 16 a1)) σ) (fun r133 τ133 =>
    some (r133, τ133)))
  else if (xA σ 13 a1) = 8 then
    (bd (f_X1_wordOfApplication E (a1) σ) (fun r139 τ139 =>
    some (r139, τ139)))
  else 
    (some (((-1) : Int64), σ))
def f_X1_settle_b66 (E : Int32 → S5 → Option (Int64 × S5)) (v4 : Int64) (σ : S5) : Option (Int64 × S5) :=
  if (gI σ 23) = 64 then
    (some (v4, σ))
  else
    (some ((v4 &&& ((j_lshl 1 (gI σ 23)) - 1)), σ))
def f_X1_settle_B34 (E : Int32 → S5 → Option (Int64 × S5)) (rec34 : Int32 → Int64 → Int32 → S5 → Option (Int64 × S5)) (v1 : Int32) (v4 : Int64) (v6 : Int32) (σ : S5) : Option (Int64 × S5) :=
  if 100000 ≤ v6 then
    (f_X1_settle_b66 E (v4) σ)
  else
    (if (gI σ 24) = 0 then
      (f_X1_settle_b66 E (v4) σ)
    else
      (bd (E (v1) (pI σ 24 0)) (fun r55 τ55 =>
      rec34 (v1) (r55) ((v6 + 1)) τ55)))
def f_X1_settle_L34 (E : Int32 → S5 → Option (Int64 × S5)) : Nat → Int32 → Int64 → Int32 → S5 → Option (Int64 × S5)
  | 0, _, _, _, _ => none
  | n + 1, v1, v4, v6, σ => f_X1_settle_B34 E (f_X1_settle_L34 E n) v1 v4 v6 σ
def f_X1_settle_B3 (E : Int32 → S5 → Option (Int64 × S5)) (rec3 : Int32 → Int32 → Int32 → S5 → Option (Int64 × S5)) (v1 : Int32) (v3 : Int32) (v4 : Int32) (σ : S5) : Option (Int64 × S5) :=
  if v3 ≤ v4 then
    (f_X1_settle_L34 E FU (v1) (0) (0) (pI σ 24 1))
  else
    (gd v4 40 <| rec3 (v1) (v3) ((v4 + 1)) (pB σ 6 v4 0))
def f_X1_settle_L3 (E : Int32 → S5 → Option (Int64 × S5)) : Nat → Int32 → Int32 → Int32 → S5 → Option (Int64 × S5)
  | 0, _, _, _, _ => none
  | n + 1, v1, v3, v4, σ => f_X1_settle_B3 E (f_X1_settle_L3 E n) v1 v3 v4 σ
def f_X1_settle (E : Int32 → S5 → Option (Int64 × S5)) (a1 : Int32) (a2 : Int32) (a3 : Int32) (σ : S5) : Option (Int64 × S5) :=
  f_X1_settle_L3 E FU (a1) (a3) (a2) σ
def f_X1_improve_b156 (E : Int32 → S5 → Option (Int64 × S5)) (rec51 : Int32 → Int32 → Int32 → Int32 → Int32 → S5 → Option (Int32 × S5)) (v1 : Int32) (v2 : Int32) (v3 : Int32) (v5 : Int32) (v6 : Int64) (u0 : Int32) (u1 : Int32) (σ : S5) : Option (Int32 × S5) :=
  gd ((v1 * 4) + v5) 2520 <| rec51 (v1) (v2) (v3) ((u1 ||| u0)) ((v5 + 1)) (pB σ 5 ((v1 * 4) + v5) v6)
def f_X1_improve_b100 (E : Int32 → S5 → Option (Int64 × S5)) (rec51 : Int32 → Int32 → Int32 → Int32 → Int32 → S5 → Option (Int32 × S5)) (rec60 : Int32 → Int32 → Int32 → Int32 → Int32 → Int32 → S5 → Option (Int32 × S5)) (v1 : Int32) (v2 : Int32) (v3 : Int32) (v4 : Int32) (v5 : Int32) (v6 : Int32) (u0 : Int64) (u1 : Int32) (σ : S5) : Option (Int32 × S5) :=
  gd u1 40 <| rec60 (v1) (v2) (v3) (v4) (v5) ((v6 + 1)) (pB σ 6 u1 u0)
def f_X1_improve_B60 (E : Int32 → S5 → Option (Int64 × S5)) (rec51 : Int32 → Int32 → Int32 → Int32 → Int32 → S5 → Option (Int32 × S5)) (rec60 : Int32 → Int32 → Int32 → Int32 → Int32 → Int32 → S5 → Option (Int32 × S5)) (v1 : Int32) (v2 : Int32) (v3 : Int32) (v4 : Int32) (v5 : Int32) (v6 : Int32) (σ : S5) : Option (Int32 × S5) :=
  if v2 ≤ v6 then
    (gd v1 630 <| gd v1 630 <| bd (f_X1_settle E ((xA σ 7 v1)) (v2) ((xA σ 6 v1)) σ) (fun r127 τ127 =>
    gd ((v1 * 4) + v5) 2520 <| if (lg_cmp r127 (xB τ127 5 ((v1 * 4) + v5))) = 0 then
      (f_X1_improve_b156 E rec51 (v1) (v2) (v3) (v5) (r127) (0) (v4) τ127)
    else
      (f_X1_improve_b156 E rec51 (v1) (v2) (v3) (v5) (r127) (1) (v4) τ127)))
  else
    (if 6 ≤ v6 then
      (f_X1_improve_b100 E rec51 rec60 (v1) (v2) (v3) (v4) (v5) (v6) ((-((((j_iushr v5 (v6 - 6)) &&& 1)).toInt64))) (v6) σ)
    else
      (gd v6 6 <| f_X1_improve_b100 E rec51 rec60 (v1) (v2) (v3) (v4) (v5) (v6) ((sLanes.getD (v6).toNatClampNeg 0)) (v6) σ))
def f_X1_improve_L60 (E : Int32 → S5 → Option (Int64 × S5)) (rec51 : Int32 → Int32 → Int32 → Int32 → Int32 → S5 → Option (Int32 × S5)) : Nat → Int32 → Int32 → Int32 → Int32 → Int32 → Int32 → S5 → Option (Int32 × S5)
  | 0, _, _, _, _, _, _, _ => none
  | n + 1, v1, v2, v3, v4, v5, v6, σ => f_X1_improve_B60 E rec51 (f_X1_improve_L60 E rec51 n) v1 v2 v3 v4 v5 v6 σ
def f_X1_improve_B51 (E : Int32 → S5 → Option (Int64 × S5)) (rec51 : Int32 → Int32 → Int32 → Int32 → Int32 → S5 → Option (Int32 × S5)) (v1 : Int32) (v2 : Int32) (v3 : Int32) (v4 : Int32) (v5 : Int32) (σ : S5) : Option (Int32 × S5) :=
  if v3 ≤ v5 then
    (g_t v4 <| some (v4, σ))
  else
    (f_X1_improve_L60 E rec51 FU (v1) (v2) (v3) (v4) (v5) (0) σ)
def f_X1_improve_L51 (E : Int32 → S5 → Option (Int64 × S5)) : Nat → Int32 → Int32 → Int32 → Int32 → Int32 → S5 → Option (Int32 × S5)
  | 0, _, _, _, _, _, _ => none
  | n + 1, v1, v2, v3, v4, v5, σ => f_X1_improve_B51 E (f_X1_improve_L51 E n) v1 v2 v3 v4 v5 σ
def f_X1_improve_b44 (E : Int32 → S5 → Option (Int64 × S5)) (v1 : Int32) (v2 : Int32) (u0 : Int32) (σ : S5) : Option (Int32 × S5) :=
  f_X1_improve_L51 E FU (v1) (v2) (u0) (0) (0) σ
def f_X1_improve_b25 (E : Int32 → S5 → Option (Int64 × S5)) (v1 : Int32) (v2 : Int32) (u0 : Int32) (σ : S5) : Option (Int32 × S5) :=
  if 6 < v2 then
    (f_X1_improve_b44 E (v1) (v2) (((1 : Int32) <<< ((v2 - 6) &&& 31))) (pI σ 23 u0))
  else
    (f_X1_improve_b44 E (v1) (v2) (1) (pI σ 23 u0))
def f_X1_improve (E : Int32 → S5 → Option (Int64 × S5)) (a1 : Int32) (σ : S5) : Option (Int32 × S5) :=
  gd a1 630 <| if (xA σ 3 a1) < 6 then
    (f_X1_improve_b25 E (a1) ((xA σ 3 a1)) (((1 : Int32) <<< ((xA σ 3 a1) &&& 31))) σ)
  else
    (f_X1_improve_b25 E (a1) ((xA σ 3 a1)) (64) σ)
def f_X1_markLet (E : Int32 → S5 → Option (Int64 × S5)) (a1 : Int32) (σ : S5) : Option (Unit × S5) :=
  gd a1 6200 <| gd (xA σ 16 a1) 6200 <| gd (xA σ 17 (xA σ 16 a1)) 6200 <| gd a1 6200 <| gd a1 6200 <| gd (xA σ 17 (xA σ 16 a1)) 6200 <| if (xA σ 17 (xA σ 17 (xA σ 16 a1))) = (-1) then
    (gd (xA σ 17 (xA σ 16 a1)) 6200 <| gd (xA σ 16 (xA σ 17 (xA σ 16 a1))) 6200 <| if (lg_cmp ((j_lushr (xB σ 2 (xA σ 16 (xA σ 17 (xA σ 16 a1)))) (xA σ 14 (xA σ 17 (xA σ 16 a1)))) &&& 1) 0) = 0 then
      (bd (f_J7_fill_bad5a_dem_bits (0) ((xA σ 14 (xA σ 17 (xA σ 16 a1)))) ((-1)) (pI (pA σ 14 a1 0) 23 1)) (fun _ τ108 =>
      gd (xA σ 15 a1) 630 <| bd (f_X1_settle E ((xA σ 16 a1)) ((xA σ 14 (xA σ 17 (xA σ 16 a1)))) ((xA τ108 6 (xA σ 15 a1))) τ108) (fun r125 τ125 =>
      if (lg_cmp r125 0) = 0 then
        (gd a1 6200 <| gd (xA σ 15 a1) 630 <| gd (xA σ 15 a1) 630 <| some ((), (pA (pA τ125 14 a1 1) 11 (xA σ 15 a1) ((xA τ125 11 (xA σ 15 a1)) + 1))))
      else
        (some ((), τ125)))))
    else
      (some ((), (pA σ 14 a1 0))))
  else
    (some ((), (pA σ 14 a1 0)))
def f_X1_solve_b133 (E : Int32 → S5 → Option (Int64 × S5)) (rec103 : Int32 → S5 → Option (Unit × S5)) (v2 : Int32) (σ : S5) : Option (Unit × S5) :=
  rec103 ((v2 + 1)) σ
def f_X1_solve_B103 (E : Int32 → S5 → Option (Int64 × S5)) (rec103 : Int32 → S5 → Option (Unit × S5)) (v2 : Int32) (σ : S5) : Option (Unit × S5) :=
  if (gI σ 8) ≤ v2 then
    (some ((), σ))
  else
    (gd v2 6200 <| if (xA σ 13 v2) = 7 then
      (bd (f_X1_markLet E (v2) σ) (fun _ τ130 =>
      f_X1_solve_b133 E rec103 (v2) τ130))
    else
      (f_X1_solve_b133 E rec103 (v2) σ))
def f_X1_solve_L103 (E : Int32 → S5 → Option (Int64 × S5)) : Nat → Int32 → S5 → Option (Unit × S5)
  | 0, _, _ => none
  | n + 1, v2, σ => f_X1_solve_B103 E (f_X1_solve_L103 E n) v2 σ
def f_X1_solve_B70 (E : Int32 → S5 → Option (Int64 × S5)) (rec70 : Int32 → S5 → Option (Unit × S5)) (v2 : Int32) (σ : S5) : Option (Unit × S5) :=
  if (gI σ 6) ≤ v2 then
    (f_X1_solve_L103 E FU (0) σ)
  else
    (bd (f_X1_neededOf (v2) σ) (fun r91 τ91 =>
    gd v2 630 <| rec70 ((v2 + 1)) (pA τ91 12 v2 r91)))
def f_X1_solve_L70 (E : Int32 → S5 → Option (Int64 × S5)) : Nat → Int32 → S5 → Option (Unit × S5)
  | 0, _, _ => none
  | n + 1, v2, σ => f_X1_solve_B70 E (f_X1_solve_L70 E n) v2 σ
def f_X1_solve_b68 (E : Int32 → S5 → Option (Int64 × S5))  (σ : S5) : Option (Unit × S5) :=
  f_X1_solve_L70 E FU (0) σ
def f_X1_solve_B44 (E : Int32 → S5 → Option (Int64 × S5)) (rec22 : Int32 → Int32 → S5 → Option (Unit × S5)) (rec44 : Int32 → Int32 → Int32 → S5 → Option (Unit × S5)) (v1 : Int32) (v2 : Int32) (v3 : Int32) (σ : S5) : Option (Unit × S5) :=
  if v3 < 0 then
    (rec22 (v1) ((v2 + 1)) σ)
  else
    (bd (f_X1_improve E (v3) σ) (fun r51 τ51 =>
    rec44 ((v1 ||| r51)) (v2) ((v3 + (-1))) τ51))
def f_X1_solve_L44 (E : Int32 → S5 → Option (Int64 × S5)) (rec22 : Int32 → Int32 → S5 → Option (Unit × S5)) : Nat → Int32 → Int32 → Int32 → S5 → Option (Unit × S5)
  | 0, _, _, _, _ => none
  | n + 1, v1, v2, v3, σ => f_X1_solve_B44 E rec22 (f_X1_solve_L44 E rec22 n) v1 v2 v3 σ
def f_X1_solve_B22 (E : Int32 → S5 → Option (Int64 × S5)) (rec22 : Int32 → Int32 → S5 → Option (Unit × S5)) (v1 : Int32) (v2 : Int32) (σ : S5) : Option (Unit × S5) :=
  if 1000000 ≤ v2 then
    (f_X1_solve_b68 E  σ)
  else
    (if v1 = 0 then
      (f_X1_solve_b68 E  σ)
    else
      (f_X1_solve_L44 E rec22 FU (0) (v2) (((gI σ 6) - 1)) σ))
def f_X1_solve_L22 (E : Int32 → S5 → Option (Int64 × S5)) : Nat → Int32 → Int32 → S5 → Option (Unit × S5)
  | 0, _, _, _ => none
  | n + 1, v1, v2, σ => f_X1_solve_B22 E (f_X1_solve_L22 E n) v1 v2 σ
def f_X1_solve (E : Int32 → S5 → Option (Int64 × S5))  (σ : S5) : Option (Unit × S5) :=
  bd (f_J7_fill_bad5a_dem_table (0) (((gI σ 6) * 4)) (0) σ) (fun _ τ15 =>
  f_X1_solve_L22 E FU (1) (0) τ15)
def f_X7_writeFunction (a1 : Int32) (σ : S5) : Option (Unit × S5) :=
  if a1 = (gI σ 7) then
    (gq (gN σ 9) 1 <| bd (f_X8_addText_draft 4  σ) (fun _ τ17 =>
    some ((), τ17)))
  else
    (gq (gN σ 9) 1 <| bd (f_X8_add_draft (102) σ) (fun _ τ29 =>
    gq (gN τ29 9) 1 <| bd (f_X8_addNumber_draft (a1) τ29) (fun _ τ37 =>
    some ((), τ37))))
def f_X7_writeVariable (a1 : Int32) (σ : S5) : Option (Unit × S5) :=
  gq (gN σ 9) 1 <| bd (f_X8_add_draft (118) σ) (fun _ τ6 =>
  gq (gN τ6 9) 1 <| bd (f_X8_addNumber_draft (a1) τ6) (fun _ τ14 =>
  some ((), τ14)))
def f_X7_writeConstructors_b29 (rec2 : Int32 → S5 → Option (Unit × S5)) (v1 : Int32) (u0 : Nat) (σ : S5) : Option (Unit × S5) :=
  bd (f_X8_addText_draft u0  σ) (fun _ τ29 =>
  gq (gN τ29 9) 1 <| gd v1 30 <| bd (f_X8_addName_draft ((xB τ29 0 v1)) τ29) (fun _ τ45 =>
  gq (gN τ45 9) 1 <| bd (f_X8_add_draft (32) τ45) (fun _ τ54 =>
  gq (gN τ54 9) 1 <| gd v1 30 <| bd (f_X8_addNumber_draft ((xA τ54 2 v1)) τ54) (fun _ τ70 =>
  rec2 ((v1 + 1)) τ70))))
def f_X7_writeConstructors_B2 (rec2 : Int32 → S5 → Option (Unit × S5)) (v1 : Int32) (σ : S5) : Option (Unit × S5) :=
  if (gI σ 4) ≤ v1 then
    (if (gI σ 4) ≤ 2 then
      (some ((), σ))
    else
      (gq (gN σ 9) 1 <| bd (f_X8_addText_draft 3  σ) (fun _ τ96 =>
      some ((), τ96))))
  else
    (gq (gN σ 9) 1 <| if v1 = 2 then
      (f_X7_writeConstructors_b29 rec2 (v1) (1) σ)
    else
      (f_X7_writeConstructors_b29 rec2 (v1) (2) σ))
def f_X7_writeConstructors_L2 : Nat → Int32 → S5 → Option (Unit × S5)
  | 0, _, _ => none
  | n + 1, v1, σ => f_X7_writeConstructors_B2 (f_X7_writeConstructors_L2  n) v1 σ
def f_X7_writeConstructors  (σ : S5) : Option (Unit × S5) :=
  f_X7_writeConstructors_L2  FU (2) σ
def f_X7_writeSign_b55  (σ : S5) : Option (Unit × S5) :=
  gq (gN σ 9) 1 <| bd (f_X8_add_draft (32) σ) (fun _ τ61 =>
  some ((), τ61))
def f_X7_writeSign (a1 : Int32) (σ : S5) : Option (Unit × S5) :=
  gq (gN σ 9) 1 <| bd (f_X8_add_draft (32) σ) (fun _ τ6 =>
  if a1 = 129 then
    (gq (gN τ6 9) 1 <| bd (f_X8_addText_draft 7  τ6) (fun _ τ22 =>
    f_X7_writeSign_b55   τ22))
  else
    (if a1 = 130 then
      (gq (gN τ6 9) 1 <| bd (f_X8_addText_draft 8  τ6) (fun _ τ41 =>
      f_X7_writeSign_b55   τ41))
    else
      (gq (gN τ6 9) 1 <| bd (f_X8_add_draft (a1) τ6) (fun _ τ52 =>
      f_X7_writeSign_b55   τ52))))
def f_X7_writePattern_B79 (rec79 : Int32 → Int32 → Int32 → S5 → Option (Unit × S5)) (v1 : Int32) (v2 : Int32) (v3 : Int32) (σ : S5) : Option (Unit × S5) :=
  gd v2 30 <| if (xA σ 2 v2) ≤ v3 then
    (some ((), σ))
  else
    (gq (gN σ 9) 1 <| bd (f_X8_add_draft (32) σ) (fun _ τ98 =>
    gd v1 6200 <| bd (f_X7_writeVariable (((xA τ98 15 v1) + v3)) τ98) (fun _ τ113 =>
    rec79 (v1) (v2) ((v3 + 1)) τ113)))
def f_X7_writePattern_L79 : Nat → Int32 → Int32 → Int32 → S5 → Option (Unit × S5)
  | 0, _, _, _, _ => none
  | n + 1, v1, v2, v3, σ => f_X7_writePattern_B79 (f_X7_writePattern_L79  n) v1 v2 v3 σ
def f_X7_writePattern (a1 : Int32) (σ : S5) : Option (Unit × S5) :=
  gd a1 6200 <| gd a1 6200 <| if (xA σ 13 a1) = 13 then
    (gq (gN σ 9) 1 <| bd (f_X8_add_draft (95) σ) (fun _ τ30 =>
    some ((), τ30)))
  else
    (gd a1 6200 <| if (xA σ 13 a1) = 12 then
      (gq (gN σ 9) 1 <| bd (f_X8_addNumber_draft ((xA σ 14 a1)) σ) (fun _ τ55 =>
      some ((), τ55)))
    else
      (gq (gN σ 9) 1 <| gd (xA σ 14 a1) 30 <| bd (f_X8_addName_draft ((xB σ 0 (xA σ 14 a1))) σ) (fun _ τ74 =>
      f_X7_writePattern_L79  FU (a1) ((xA σ 14 a1)) (0) τ74)))
def f_X7_writeRow_b28 (E : Int32 → S5 → Option (Unit × S5)) (rec4 : Int32 → Int32 → S5 → Option (Unit × S5)) (v2 : Int32) (v3 : Int32) (σ : S5) : Option (Unit × S5) :=
  bd (E (v3) σ) (fun _ τ30 =>
  gd v3 6200 <| rec4 ((v2 + 1)) ((xA τ30 17 v3)) τ30)
def f_X7_writeRow_B4 (E : Int32 → S5 → Option (Unit × S5)) (rec4 : Int32 → Int32 → S5 → Option (Unit × S5)) (v2 : Int32) (v3 : Int32) (σ : S5) : Option (Unit × S5) :=
  if 10 ≤ v2 then
    (some ((), σ))
  else
    (if v3 = (-1) then
      (some ((), σ))
    else
      (if v2 ≤ 0 then
        (f_X7_writeRow_b28 E rec4 (v2) (v3) σ)
      else
        (gq (gN σ 9) 1 <| bd (f_X8_add_draft (32) σ) (fun _ τ25 =>
        f_X7_writeRow_b28 E rec4 (v2) (v3) τ25))))
def f_X7_writeRow_L4 (E : Int32 → S5 → Option (Unit × S5)) : Nat → Int32 → Int32 → S5 → Option (Unit × S5)
  | 0, _, _, _ => none
  | n + 1, v2, v3, σ => f_X7_writeRow_B4 E (f_X7_writeRow_L4 E n) v2 v3 σ
def f_X7_writeRow (E : Int32 → S5 → Option (Unit × S5)) (a1 : Int32) (σ : S5) : Option (Unit × S5) :=
  f_X7_writeRow_L4 E FU (0) (a1) σ
def f_X7_writeBindings_b28 (E : Int32 → S5 → Option (Unit × S5)) (rec4 : Int32 → Int32 → S5 → Option (Unit × S5)) (v2 : Int32) (v3 : Int32) (σ : S5) : Option (Unit × S5) :=
  gd v3 6200 <| bd (f_X7_writeVariable ((xA σ 14 v3)) σ) (fun _ τ38 =>
  gq (gN τ38 9) 1 <| bd (f_X8_addText_draft 5  τ38) (fun _ τ47 =>
  gd v3 6200 <| bd (E ((xA τ47 16 v3)) τ47) (fun _ τ60 =>
  gd v3 6200 <| rec4 ((v2 + 1)) ((xA τ60 17 v3)) τ60)))
def f_X7_writeBindings_B4 (E : Int32 → S5 → Option (Unit × S5)) (rec4 : Int32 → Int32 → S5 → Option (Unit × S5)) (v2 : Int32) (v3 : Int32) (σ : S5) : Option (Unit × S5) :=
  if 10 ≤ v2 then
    (some ((), σ))
  else
    (if v3 = (-1) then
      (some ((), σ))
    else
      (if v2 ≤ 0 then
        (f_X7_writeBindings_b28 E rec4 (v2) (v3) σ)
      else
        (gq (gN σ 9) 1 <| bd (f_X8_addText_draft 14  σ) (fun _ τ25 =>
        f_X7_writeBindings_b28 E rec4 (v2) (v3) τ25))))
def f_X7_writeBindings_L4 (E : Int32 → S5 → Option (Unit × S5)) : Nat → Int32 → Int32 → S5 → Option (Unit × S5)
  | 0, _, _, _ => none
  | n + 1, v2, v3, σ => f_X7_writeBindings_B4 E (f_X7_writeBindings_L4 E n) v2 v3 σ
def f_X7_writeBindings (E : Int32 → S5 → Option (Unit × S5)) (a1 : Int32) (σ : S5) : Option (Unit × S5) :=
  f_X7_writeBindings_L4 E FU (0) (a1) σ
def f_X7_writeAlternatives_b28 (E : Int32 → S5 → Option (Unit × S5)) (rec4 : Int32 → Int32 → S5 → Option (Unit × S5)) (v2 : Int32) (v3 : Int32) (σ : S5) : Option (Unit × S5) :=
  bd (f_X7_writePattern (v3) σ) (fun _ τ30 =>
  gq (gN τ30 9) 1 <| bd (f_X8_addText_draft 12  τ30) (fun _ τ39 =>
  gd v3 6200 <| bd (E ((xA τ39 16 v3)) τ39) (fun _ τ52 =>
  gd v3 6200 <| rec4 ((v2 + 1)) ((xA τ52 17 v3)) τ52)))
def f_X7_writeAlternatives_B4 (E : Int32 → S5 → Option (Unit × S5)) (rec4 : Int32 → Int32 → S5 → Option (Unit × S5)) (v2 : Int32) (v3 : Int32) (σ : S5) : Option (Unit × S5) :=
  if 10 ≤ v2 then
    (some ((), σ))
  else
    (if v3 = (-1) then
      (some ((), σ))
    else
      (if v2 ≤ 0 then
        (f_X7_writeAlternatives_b28 E rec4 (v2) (v3) σ)
      else
        (gq (gN σ 9) 1 <| bd (f_X8_addText_draft 11  σ) (fun _ τ25 =>
        f_X7_writeAlternatives_b28 E rec4 (v2) (v3) τ25))))
def f_X7_writeAlternatives_L4 (E : Int32 → S5 → Option (Unit × S5)) : Nat → Int32 → Int32 → S5 → Option (Unit × S5)
  | 0, _, _, _ => none
  | n + 1, v2, v3, σ => f_X7_writeAlternatives_B4 E (f_X7_writeAlternatives_L4 E n) v2 v3 σ
def f_X7_writeAlternatives (E : Int32 → S5 → Option (Unit × S5)) (a1 : Int32) (σ : S5) : Option (Unit × S5) :=
  f_X7_writeAlternatives_L4 E FU (0) (a1) σ
def f_X7_writeInner (E : Int32 → S5 → Option (Unit × S5)) (a1 : Int32) (σ : S5) : Option (Unit × S5) :=
  gd a1 6200 <| gd a1 6200 <| if (xA σ 13 a1) = 5 then
    (bd (E ((xA σ 16 a1)) σ) (fun _ τ54 =>
    gd a1 6200 <| bd (f_X7_writeSign ((xA τ54 14 a1)) τ54) (fun _ τ67 =>
    gd (xA σ 16 a1) 6200 <| bd (E ((xA τ67 17 (xA σ 16 a1))) τ67) (fun _ τ80 =>
    some ((), τ80)))))
  else if (xA σ 13 a1) = 6 then
    (gq (gN σ 9) 1 <| bd (f_X8_addText_draft 9  σ) (fun _ τ92 =>
    bd (E ((xA σ 16 a1)) τ92) (fun _ τ97 =>
    gq (gN τ97 9) 1 <| bd (f_X8_addText_draft 10  τ97) (fun _ τ106 =>
    gd (xA σ 16 a1) 6200 <| bd (f_X7_writeAlternatives E ((xA τ106 17 (xA σ 16 a1))) τ106) (fun _ τ119 =>
    gq (gN τ119 9) 1 <| bd (f_X8_add_draft (125) τ119) (fun _ τ128 =>
    some ((), τ128)))))))
  else if (xA σ 13 a1) = 7 then
    (gq (gN σ 9) 1 <| bd (f_X8_addText_draft 13  σ) (fun _ τ140 =>
    gd (xA σ 16 a1) 6200 <| bd (f_X7_writeBindings E ((xA τ140 17 (xA σ 16 a1))) τ140) (fun _ τ153 =>
    gq (gN τ153 9) 1 <| bd (f_X8_addText_draft 15  τ153) (fun _ τ162 =>
    bd (E ((xA σ 16 a1)) τ162) (fun _ τ167 =>
    some ((), τ167))))))
  else if (xA σ 13 a1) = 8 then
    (bd (f_X7_writeRow E ((xA σ 16 a1)) σ) (fun _ τ216 =>
    some ((), τ216)))
  else if (xA σ 13 a1) = 9 then
    (gq (gN σ 9) 1 <| gd a1 6200 <| gd (xA σ 14 a1) 30 <| bd (f_X8_addName_draft ((xB σ 0 (xA σ 14 a1))) σ) (fun _ τ194 =>
    gq (gN τ194 9) 1 <| bd (f_X8_add_draft (32) τ194) (fun _ τ203 =>
    bd (f_X7_writeRow E ((xA σ 16 a1)) τ203) (fun _ τ208 =>
    some ((), τ208)))))
  else 
    (bd (f_X7_writeRow E ((xA σ 16 a1)) σ) (fun _ τ216 =>
    some ((), τ216)))
def f_X7_writePart (E : Int32 → S5 → Option (Unit × S5)) (a1 : Int32) (σ : S5) : Option (Unit × S5) :=
  gd a1 6200 <| gd a1 6200 <| if (xA σ 13 a1) = 0 then
    (gq (gN σ 9) 1 <| bd (f_X8_addNumber_draft ((xA σ 14 a1)) σ) (fun _ τ57 =>
    some ((), τ57)))
  else if (xA σ 13 a1) = 1 then
    (gq (gN σ 9) 1 <| gd (xA σ 14 a1) 30 <| bd (f_X8_addName_draft ((xB σ 0 (xA σ 14 a1))) σ) (fun _ τ76 =>
    some ((), τ76)))
  else if (xA σ 13 a1) = 2 then
    (bd (f_X7_writeFunction ((xA σ 14 a1)) σ) (fun _ τ84 =>
    some ((), τ84)))
  else if (xA σ 13 a1) = 3 then
    (bd (f_X7_writeVariable ((xA σ 14 a1)) σ) (fun _ τ92 =>
    some ((), τ92)))
  else if (xA σ 13 a1) = 4 then
    (gq (gN σ 9) 1 <| bd (f_X8_addText_draft 6  σ) (fun _ τ104 =>
    some ((), τ104)))
  else 
    (gq (gN σ 9) 1 <| bd (f_X8_add_draft (40) σ) (fun _ τ116 =>
    bd (f_X7_writeInner E (a1) τ116) (fun _ τ121 =>
    gq (gN τ121 9) 1 <| bd (f_X8_add_draft (41) τ121) (fun _ τ130 =>
    some ((), τ130)))))
def f_X7_writeProgram_B29 (E : Int32 → S5 → Option (Unit × S5)) (rec11 : Int32 → S5 → Option (Unit × S5)) (rec29 : Int32 → Int32 → S5 → Option (Unit × S5)) (v2 : Int32) (v3 : Int32) (σ : S5) : Option (Unit × S5) :=
  gd v2 630 <| if (xA σ 3 v2) ≤ v3 then
    (gq (gN σ 9) 1 <| bd (f_X8_addText_draft 5  σ) (fun _ τ68 =>
    gd v2 630 <| bd (E ((xA τ68 7 v2)) τ68) (fun _ τ81 =>
    gq (gN τ81 9) 1 <| bd (f_X8_addText_draft 3  τ81) (fun _ τ90 =>
    rec11 ((v2 + 1)) τ90))))
  else
    (gq (gN σ 9) 1 <| bd (f_X8_add_draft (32) σ) (fun _ τ48 =>
    bd (f_X7_writeVariable (v3) τ48) (fun _ τ53 =>
    rec29 (v2) ((v3 + 1)) τ53)))
def f_X7_writeProgram_L29 (E : Int32 → S5 → Option (Unit × S5)) (rec11 : Int32 → S5 → Option (Unit × S5)) : Nat → Int32 → Int32 → S5 → Option (Unit × S5)
  | 0, _, _, _ => none
  | n + 1, v2, v3, σ => f_X7_writeProgram_B29 E rec11 (f_X7_writeProgram_L29 E rec11 n) v2 v3 σ
def f_X7_writeProgram_B11 (E : Int32 → S5 → Option (Unit × S5)) (rec11 : Int32 → S5 → Option (Unit × S5)) (v2 : Int32) (σ : S5) : Option (Unit × S5) :=
  if (gI σ 6) ≤ v2 then
    (some ((), σ))
  else
    (bd (f_X7_writeFunction (v2) σ) (fun _ τ24 =>
    f_X7_writeProgram_L29 E rec11 FU (v2) (0) τ24))
def f_X7_writeProgram_L11 (E : Int32 → S5 → Option (Unit × S5)) : Nat → Int32 → S5 → Option (Unit × S5)
  | 0, _, _ => none
  | n + 1, v2, σ => f_X7_writeProgram_B11 E (f_X7_writeProgram_L11 E n) v2 σ
def f_X7_writeProgram (E : Int32 → S5 → Option (Unit × S5))  (σ : S5) : Option (Unit × S5) :=
  bd (f_X7_writeConstructors  (pN σ 9 1)) (fun _ τ6 =>
  f_X7_writeProgram_L11 E FU (0) τ6)
/-- the reader, so many levels deep -/
def f_readE : Nat → S5 → Option (Int32 × S5)
  | 0, _ => none
  | d + 1, σ => f_X5_readExpression (f_readE d) σ
/-- what is needed, so many levels deep -/
def f_wordE : Nat → Int32 → S5 → Option (Int64 × S5)
  | 0, _, _ => none
  | d + 1, a1, σ => f_X1_wordOf (f_wordE d) a1 σ
/-- the scribe, so many levels deep -/
def f_writeE : Nat → Int32 → S5 → Option (Unit × S5)
  | 0, _, _ => none
  | d + 1, a1, σ => f_X7_writePart (f_writeE d) a1 σ

