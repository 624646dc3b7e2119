


def f_X12_thrown  (σ : S5) : Option (Int32 × S5) :=
  some ((gI σ 0), σ)
def f_X12_sign (a1 : Int32) (σ : S5) : Option (Int32 × S5) :=
  if (gI σ 1) ≤ a1 then
    (some ((0 : Int32), σ))
  else
    (gd a1 3000 <| some ((xA σ 0 a1), σ))
def f_X12_isDigit (a0 : Int32) (σ : S5) : Option (Int32 × S5) :=
  if a0 < 48 then
    (some ((0 : Int32), σ))
  else
    (if 57 < a0 then
      (some ((0 : Int32), σ))
    else
      (some ((1 : Int32), σ)))
def f_X12_isSmall (a0 : Int32) (σ : S5) : Option (Int32 × S5) :=
  if a0 < 97 then
    (some ((0 : Int32), σ))
  else
    (if 122 < a0 then
      (some ((0 : Int32), σ))
    else
      (some ((1 : Int32), σ)))
def f_X12_isCapital (a0 : Int32) (σ : S5) : Option (Int32 × S5) :=
  if a0 < 65 then
    (some ((0 : Int32), σ))
  else
    (if 90 < a0 then
      (some ((0 : Int32), σ))
    else
      (some ((1 : Int32), σ)))
def f_X12_pack_b59 (v4 : Int32) (u0 : Int64) (σ : S5) : Option (Int64 × S5) :=
  if v4 = 0 then
    (some (u0, σ))
  else
    (some (((j_lshl u0 8) ||| ((v4).toInt64)), σ))
def f_X12_pack_b40 (v3 : Int32) (v4 : Int32) (u0 : Int64) (σ : S5) : Option (Int64 × S5) :=
  if v3 = 0 then
    (f_X12_pack_b59  (v4) (u0) σ)
  else
    (f_X12_pack_b59  (v4) (((j_lshl u0 8) ||| ((v3).toInt64))) σ)
def f_X12_pack_b21 (v2 : Int32) (v3 : Int32) (v4 : Int32) (u0 : Int64) (σ : S5) : Option (Int64 × S5) :=
  if v2 = 0 then
    (f_X12_pack_b40  (v3) (v4) (u0) σ)
  else
    (f_X12_pack_b40  (v3) (v4) (((j_lshl u0 8) ||| ((v2).toInt64))) σ)
def f_X12_pack (a0 : Int32) (a1 : Int32) (a2 : Int32) (a3 : Int32) (a4 : Int32) (σ : S5) : Option (Int64 × S5) :=
  if a1 = 0 then
    (f_X12_pack_b21  (a2) (a3) (a4) (((a0).toInt64)) σ)
  else
    (f_X12_pack_b21  (a2) (a3) (a4) (((j_lshl ((a0).toInt64) 8) ||| ((a1).toInt64))) σ)
def f_X12_keyword (a0 : Int64) (σ : S5) : Option (Int32 × S5) :=
  bd (f_X12_pack (100) (97) (116) (97) (0) σ) (fun r10 τ10 =>
  if (lg_cmp a0 r10) = 0 then
    (some ((10 : Int32), τ10))
  else
    (bd (f_X12_pack (108) (101) (116) (0) (0) τ10) (fun r29 τ29 =>
    if (lg_cmp a0 r29) = 0 then
      (some ((11 : Int32), τ29))
    else
      (bd (f_X12_pack (105) (110) (0) (0) (0) τ29) (fun r47 τ47 =>
      if (lg_cmp a0 r47) = 0 then
        (some ((12 : Int32), τ47))
      else
        (bd (f_X12_pack (99) (97) (115) (101) (0) τ47) (fun r67 τ67 =>
        if (lg_cmp a0 r67) = 0 then
          (some ((13 : Int32), τ67))
        else
          (bd (f_X12_pack (111) (102) (0) (0) (0) τ67) (fun r85 τ85 =>
          if (lg_cmp a0 r85) = 0 then
            (some ((14 : Int32), τ85))
          else
            (bd (f_X12_pack (102) (97) (105) (108) (0) τ85) (fun r105 τ105 =>
            if (lg_cmp a0 r105) = 0 then
              (some ((15 : Int32), τ105))
            else
              (some ((3 : Int32), τ105)))))))))))))
def f_X12_passBlanks_b93 (rec2 : Int32 → S5 → Option (Unit × S5)) (v1 : Int32) (σ : S5) : Option (Unit × S5) :=
  rec2 (v1) (pI σ 3 ((gI σ 3) + 1))
def f_X12_passBlanks_B30 (rec2 : Int32 → S5 → Option (Unit × S5)) (rec30 : Int32 → S5 → Option (Unit × S5)) (v1 : Int32) (σ : S5) : Option (Unit × S5) :=
  if (gI σ 1) ≤ (gI σ 3) then
    (rec2 (v1) σ)
  else
    (bd (f_X12_sign ((gI σ 3)) σ) (fun r46 τ46 =>
    if r46 = 10 then
      (rec2 (v1) τ46)
    else
      (rec30 (v1) (pI τ46 3 ((gI τ46 3) + 1)))))
def f_X12_passBlanks_L30 (rec2 : Int32 → S5 → Option (Unit × S5)) : Nat → Int32 → S5 → Option (Unit × S5)
  | 0, _, _ => none
  | n + 1, v1, σ => f_X12_passBlanks_B30 rec2 (f_X12_passBlanks_L30 rec2 n) v1 σ
def f_X12_passBlanks_B2 (rec2 : Int32 → S5 → Option (Unit × S5)) (v1 : Int32) (σ : S5) : Option (Unit × S5) :=
  if v1 = 0 then
    (some ((), σ))
  else
    (if (gI σ 1) ≤ (gI σ 3) then
      (some ((), σ))
    else
      (bd (f_X12_sign ((gI σ 3)) σ) (fun r22 τ22 =>
      if r22 = 35 then
        (f_X12_passBlanks_L30 rec2 FU (v1) τ22)
      else
        (bd (f_X12_sign ((gI τ22 3)) τ22) (fun r72 τ72 =>
        if r72 = 32 then
          (f_X12_passBlanks_b93 rec2 (v1) τ72)
        else
          (bd (f_X12_sign ((gI τ72 3)) τ72) (fun r85 τ85 =>
          if r85 = 10 then
            (f_X12_passBlanks_b93 rec2 (v1) τ85)
          else
            (rec2 (0) τ85))))))))
def f_X12_passBlanks_L2 : Nat → Int32 → S5 → Option (Unit × S5)
  | 0, _, _ => none
  | n + 1, v1, σ => f_X12_passBlanks_B2 (f_X12_passBlanks_L2  n) v1 σ
def f_X12_passBlanks  (σ : S5) : Option (Unit × S5) :=
  f_X12_passBlanks_L2  FU (1) σ
def f_X12_readName_b123 (u0 : Int32) (σ : S5) : Option (Unit × S5) :=
  some ((), (pI σ 4 u0))
def f_X12_readName_b73 (rec2 : Int32 → Int64 → S5 → Option (Unit × S5)) (v1 : Int32) (u0 : Int64) (σ : S5) : Option (Unit × S5) :=
  rec2 (v1) (u0) (pI σ 3 ((gI σ 3) + 1))
def f_X12_readName_b41 (rec2 : Int32 → Int64 → S5 → Option (Unit × S5)) (v1 : Int32) (v2 : Int64) (σ : S5) : Option (Unit × S5) :=
  if 8 ≤ ((gI σ 3) - (gI σ 5)) then
    (f_X12_readName_b73 rec2 (v1) (v2) σ)
  else
    (bd (f_X12_sign ((gI σ 3)) σ) (fun r64 τ64 =>
    f_X12_readName_b73 rec2 (v1) (((j_lshl v2 8) ||| ((r64).toInt64))) τ64))
def f_X12_readName_B2 (rec2 : Int32 → Int64 → S5 → Option (Unit × S5)) (v1 : Int32) (v2 : Int64) (σ : S5) : Option (Unit × S5) :=
  bd (f_X12_sign ((gI σ 3)) σ) (fun r7 τ7 =>
  bd (f_X12_isSmall (r7) τ7) (fun r10 τ10 =>
  if r10 = 0 then
    (bd (f_X12_sign ((gI τ10 3)) τ10) (fun r21 τ21 =>
    bd (f_X12_isDigit (r21) τ21) (fun r24 τ24 =>
    if r24 = 0 then
      (if (gI τ24 3) = (gI τ24 5) then
        (f_X12_readName_b41 rec2 (v1) (v2) τ24)
      else
        (if ((gI τ24 3) - (gI τ24 5)) ≤ 8 then
          (if v1 = 0 then
            (bd (f_X12_keyword (v2) (pJ τ24 0 v2)) (fun r120 τ120 =>
            f_X12_readName_b123  (r120) τ120))
          else
            (f_X12_readName_b123  (4) (pJ τ24 0 v2)))
        else
          (f_X12_readName_b123  (1) (pJ τ24 0 v2))))
    else
      (f_X12_readName_b41 rec2 (v1) (v2) τ24))))
  else
    (f_X12_readName_b41 rec2 (v1) (v2) τ10)))
def f_X12_readName_L2 : Nat → Int32 → Int64 → S5 → Option (Unit × S5)
  | 0, _, _, _ => none
  | n + 1, v1, v2, σ => f_X12_readName_B2 (f_X12_readName_L2  n) v1 v2 σ
def f_X12_readName (a1 : Int32) (σ : S5) : Option (Unit × S5) :=
  f_X12_readName_L2  FU (a1) (0) σ
def f_X12_readNumber_b95 (v1 : Int64) (u0 : Int32) (σ : S5) : Option (Unit × S5) :=
  some ((), (pI (pI σ 4 u0) 6 ((v1 : Int64).toInt32)))
def f_X12_readNumber_b90 (v1 : Int64) (σ : S5) : Option (Unit × S5) :=
  f_X12_readNumber_b95  (v1) (1) σ
def f_X12_readNumber_b53 (rec2 : Int64 → S5 → Option (Unit × S5)) (u0 : Int64) (σ : S5) : Option (Unit × S5) :=
  rec2 (u0) (pI σ 3 ((gI σ 3) + 1))
def f_X12_readNumber_B2 (rec2 : Int64 → S5 → Option (Unit × S5)) (v1 : Int64) (σ : S5) : Option (Unit × S5) :=
  bd (f_X12_sign ((gI σ 3)) σ) (fun r7 τ7 =>
  bd (f_X12_isDigit (r7) τ7) (fun r10 τ10 =>
  if r10 = 0 then
    (if 10 < ((gI τ10 3) - (gI τ10 5)) then
      (f_X12_readNumber_b90  (v1) τ10)
    else
      (if (lg_cmp v1 2147483647) ≤ 0 then
        (f_X12_readNumber_b95  (v1) (2) τ10)
      else
        (f_X12_readNumber_b90  (v1) τ10)))
  else
    (if 10 ≤ ((gI τ10 3) - (gI τ10 5)) then
      (f_X12_readNumber_b53 rec2 (v1) τ10)
    else
      (bd (f_X12_sign ((gI τ10 3)) τ10) (fun r40 τ40 =>
      f_X12_readNumber_b53 rec2 ((((10 * v1) + ((r40).toInt64)) - 48)) τ40)))))
def f_X12_readNumber_L2 : Nat → Int64 → S5 → Option (Unit × S5)
  | 0, _, _ => none
  | n + 1, v1, σ => f_X12_readNumber_B2 (f_X12_readNumber_L2  n) v1 σ
def f_X12_readNumber  (σ : S5) : Option (Unit × S5) :=
  f_X12_readNumber_L2  FU (0) σ
def f_X12_next_b308 (u0 : Int32) (σ : S5) : Option (Unit × S5) :=
  some ((), (pI σ 4 u0))
def f_X12_next_b284 (v1 : Int32) (u0 : Int32) (σ : S5) : Option (Unit × S5) :=
  if u0 = 0 then
    (f_X12_next_b308  (1) (pI σ 3 ((gI σ 3) + 1)))
  else
    (f_X12_next_b308  ((100 + v1)) (pI σ 3 ((gI σ 3) + 1)))
def f_X12_next_b279 (v1 : Int32) (σ : S5) : Option (Unit × S5) :=
  f_X12_next_b284  (v1) (1) σ
def f_X12_next_b226 (v1 : Int32) (u0 : Int32) (σ : S5) : Option (Unit × S5) :=
  if u0 = 0 then
    (if v1 = 95 then
      (f_X12_next_b279  (v1) σ)
    else
      (if v1 = 43 then
        (f_X12_next_b279  (v1) σ)
      else
        (if v1 = 45 then
          (f_X12_next_b279  (v1) σ)
        else
          (if v1 = 42 then
            (f_X12_next_b279  (v1) σ)
          else
            (if v1 = 47 then
              (f_X12_next_b279  (v1) σ)
            else
              (if v1 = 37 then
                (f_X12_next_b279  (v1) σ)
              else
                (if v1 = 60 then
                  (f_X12_next_b279  (v1) σ)
                else
                  (if v1 = 124 then
                    (f_X12_next_b279  (v1) σ)
                  else
                    (f_X12_next_b284  (v1) (0) σ)))))))))
  else
    (f_X12_next_b279  (v1) σ)
def f_X12_next_b221 (v1 : Int32) (σ : S5) : Option (Unit × S5) :=
  f_X12_next_b226  (v1) (1) σ
def f_X12_next_b167 (v1 : Int32) (σ : S5) : Option (Unit × S5) :=
  if v1 = 40 then
    (f_X12_next_b221  (v1) σ)
  else
    (if v1 = 41 then
      (f_X12_next_b221  (v1) σ)
    else
      (if v1 = 123 then
        (f_X12_next_b221  (v1) σ)
      else
        (if v1 = 125 then
          (f_X12_next_b221  (v1) σ)
        else
          (if v1 = 61 then
            (f_X12_next_b221  (v1) σ)
          else
            (if v1 = 59 then
              (f_X12_next_b221  (v1) σ)
            else
              (if v1 = 44 then
                (f_X12_next_b221  (v1) σ)
              else
                (if v1 = 92 then
                  (f_X12_next_b221  (v1) σ)
                else
                  (if v1 = 46 then
                    (f_X12_next_b221  (v1) σ)
                  else
                    (f_X12_next_b226  (v1) (0) σ)))))))))
def f_X12_next_b161 (u0 : Int32) (σ : S5) : Option (Unit × S5) :=
  some ((), (pI σ 4 u0))
def f_X12_next_b126 (v1 : Int32) (σ : S5) : Option (Unit × S5) :=
  if v1 = 45 then
    (f_X12_next_b161  (20) (pI σ 3 ((gI σ 3) + 2)))
  else
    (if v1 = 60 then
      (f_X12_next_b161  (22) (pI σ 3 ((gI σ 3) + 2)))
    else
      (f_X12_next_b161  (21) (pI σ 3 ((gI σ 3) + 2))))
def f_X12_next_b114 (v1 : Int32) (v2 : Int32) (σ : S5) : Option (Unit × S5) :=
  if v1 = 61 then
    (if v2 = 61 then
      (f_X12_next_b126  (v1) σ)
    else
      (f_X12_next_b167  (v1) σ))
  else
    (f_X12_next_b167  (v1) σ)
def f_X12_next_b102 (v1 : Int32) (v2 : Int32) (σ : S5) : Option (Unit × S5) :=
  if v1 = 60 then
    (if v2 = 61 then
      (f_X12_next_b126  (v1) σ)
    else
      (f_X12_next_b114  (v1) (v2) σ))
  else
    (f_X12_next_b114  (v1) (v2) σ)
def f_X12_next_b65 (v1 : Int32) (σ : S5) : Option (Unit × S5) :=
  bd (f_X12_isCapital (v1) σ) (fun r67 τ67 =>
  bd (f_X12_readName (r67) τ67) (fun _ τ70 =>
  some ((), τ70)))
def f_X12_next  (σ : S5) : Option (Unit × S5) :=
  bd (f_X12_passBlanks  σ) (fun _ τ1 =>
  bd (f_X12_sign ((gI τ1 3)) (pI τ1 5 (gI τ1 3))) (fun r17 τ17 =>
  bd (f_X12_sign (((gI τ17 3) + 1)) τ17) (fun r28 τ28 =>
  if (gI τ28 3) < (gI τ28 1) then
    (bd (f_X12_isSmall (r17) τ28) (fun r52 τ52 =>
    if r52 = 0 then
      (bd (f_X12_isCapital (r17) τ52) (fun r59 τ59 =>
      if r59 = 0 then
        (bd (f_X12_isDigit (r17) τ59) (fun r77 τ77 =>
        if r77 = 0 then
          (if r17 = 45 then
            (if r28 = 62 then
              (f_X12_next_b126  (r17) τ77)
            else
              (f_X12_next_b102  (r17) (r28) τ77))
          else
            (f_X12_next_b102  (r17) (r28) τ77))
        else
          (bd (f_X12_readNumber  τ77) (fun _ τ84 =>
          some ((), τ84)))))
      else
        (f_X12_next_b65  (r17) τ59)))
    else
      (f_X12_next_b65  (r17) τ52)))
  else
    (some ((), (pI τ28 4 0))))))
def f_X12_isSign (a1 : Int32) (σ : S5) : Option (Int32 × S5) :=
  if (gI σ 4) = (100 + a1) then
    (some ((1 : Int32), σ))
  else
    (some ((0 : Int32), σ))
def f_X12_fail (a1 : Int32) (a2 : Int32) (σ : S5) : Option (Unit × S5) :=
  if (gI σ 7) = 0 then
    (some ((), (pI (pI σ 7 a1) 8 a2)))
  else
    (some ((), σ))
def f_X12_wrong  (σ : S5) : Option (Unit × S5) :=
  bd (f_X12_fail (1) ((gI σ 5)) σ) (fun _ τ6 =>
  some ((), τ6))
def f_X12_accept_b18  (σ : S5) : Option (Unit × S5) :=
  bd (f_X12_wrong  σ) (fun _ τ19 =>
  some ((), τ19))
def f_X12_accept (a1 : Int32) (σ : S5) : Option (Unit × S5) :=
  if a1 = 0 then
    (f_X12_accept_b18   σ)
  else
    (if (gI σ 7) = 0 then
      (bd (f_X12_next  σ) (fun _ τ12 =>
      some ((), τ12)))
    else
      (f_X12_accept_b18   σ))
def f_X12_node (a1 : Int32) (σ : S5) : Option (Int32 × S5) :=
  gd (gI σ 9) 3200 <| gd (gI σ 9) 3200 <| gd (gI σ 9) 3200 <| gd (gI σ 9) 3200 <| gd (gI σ 9) 3200 <| gd (gI σ 9) 3200 <| gd (gI σ 9) 3200 <| gd (gI σ 9) 3200 <| gd (gI σ 9) 3200 <| gd (gI σ 9) 3200 <| some ((gI σ 9), (pA (pA (pB (pA (pA (pA (pA (pA (pA (pA (pI σ 9 ((gI σ 9) + 1)) 2 (gI σ 9) a1) 3 (gI σ 9) (-1)) 4 (gI σ 9) (-1)) 5 (gI σ 9) (-1)) 6 (gI σ 9) (gI σ 5)) 7 (gI σ 9) 0) 8 (gI σ 9) 0) 0 (gI σ 9) 0) 9 (gI σ 9) (gI σ 10)) 10 (gI σ 9) 0))
def f_X12_part_b46  (σ : S5) : Option (Int32 × S5) :=
  if (gI σ 7) = 0 then
    (some ((1 : Int32), σ))
  else
    (some ((0 : Int32), σ))
def f_X12_part_b19  (σ : S5) : Option (Int32 × S5) :=
  if (gI σ 7) = 0 then
    (f_X12_part_b46   (pI (pI σ 11 ((gI σ 11) + 1)) 12 ((gI σ 12) + 1)))
  else
    (f_X12_part_b46   σ)
def f_X12_part  (σ : S5) : Option (Int32 × S5) :=
  if (gI σ 11) = 600 then
    (bd (f_X12_fail (4) ((gI σ 5)) σ) (fun _ τ16 =>
    f_X12_part_b19   τ16))
  else
    (f_X12_part_b19   σ)
def f_X12_opens_b13  (σ : S5) : Option (Unit × S5) :=
  some ((), (pI σ 15 ((gI σ 15) + 1)))
def f_X12_opens  (σ : S5) : Option (Unit × S5) :=
  if (gI σ 15) = 30 then
    (bd (f_X12_wrong  σ) (fun _ τ10 =>
    f_X12_opens_b13   τ10))
  else
    (f_X12_opens_b13   σ)
def f_X12_pile (a1 : Int32) (a2 : Int32) (a3 : Int32) (σ : S5) : Option (Unit × S5) :=
  gd (gI σ 16) 3200 <| gd (gI σ 16) 3200 <| gd (gI σ 16) 3200 <| gd (gI σ 16) 3200 <| some ((), (pI (pA (pA (pA (pA σ 14 (gI σ 16) a1) 15 (gI σ 16) a2) 16 (gI σ 16) a3) 17 (gI σ 16) 0) 16 ((gI σ 16) + 1)))
def f_X12_operand (a1 : Int32) (σ : S5) : Option (Unit × S5) :=
  gd (gI σ 17) 3200 <| some ((), (pI (pA σ 18 (gI σ 17) a1) 17 ((gI σ 17) + 1)))
def f_X12_taken  (σ : S5) : Option (Int32 × S5) :=
  gd ((gI σ 17) - 1) 3200 <| some ((xA σ 18 ((gI σ 17) - 1)), (pI σ 17 ((gI σ 17) - 1)))
def f_X12_append_b31 (v1 : Int32) (v2 : Int32) (σ : S5) : Option (Unit × S5) :=
  gd v1 3200 <| some ((), (pA σ 4 v1 v2))
def f_X12_append (a1 : Int32) (a2 : Int32) (σ : S5) : Option (Unit × S5) :=
  gd a1 3200 <| if 0 ≤ (xA σ 3 a1) then
    (gd a1 3200 <| gd (xA σ 4 a1) 3200 <| f_X12_append_b31  (a1) (a2) (pA σ 5 (xA σ 4 a1) a2))
  else
    (gd a1 3200 <| f_X12_append_b31  (a1) (a2) (pA σ 3 a1 a2))
def f_X12_findConstructor_b27 (v3 : Int32) (σ : S5) : Option (Int32 × S5) :=
  if (gI σ 14) ≤ v3 then
    (some (((-1) : Int32), σ))
  else
    (some (v3, σ))
def f_X12_findConstructor_B2 (rec2 : Int64 → Int32 → S5 → Option (Int32 × S5)) (v1 : Int64) (v3 : Int32) (σ : S5) : Option (Int32 × S5) :=
  if (gI σ 14) ≤ v3 then
    (f_X12_findConstructor_b27  (v3) σ)
  else
    (gd v3 30 <| if (lg_cmp (xB σ 3 v3) v1) = 0 then
      (f_X12_findConstructor_b27  (v3) σ)
    else
      (rec2 (v1) ((v3 + 1)) σ))
def f_X12_findConstructor_L2 : Nat → Int64 → Int32 → S5 → Option (Int32 × S5)
  | 0, _, _, _ => none
  | n + 1, v1, v3, σ => f_X12_findConstructor_B2 (f_X12_findConstructor_L2  n) v1 v3 σ
def f_X12_findConstructor (a1 : Int64) (σ : S5) : Option (Int32 × S5) :=
  f_X12_findConstructor_L2  FU (a1) (0) σ
def f_X12_isGiven_b46 (rec6 : Int32 → Int64 → Int32 → Int32 → S5 → Option (Int32 × S5)) (v1 : Int32) (v2 : Int64) (v5 : Int32) (u0 : Int32) (σ : S5) : Option (Int32 × S5) :=
  rec6 (v1) (v2) (u0) ((v5 + 1)) σ
def f_X12_isGiven_b41 (rec6 : Int32 → Int64 → Int32 → Int32 → S5 → Option (Int32 × S5)) (v1 : Int32) (v2 : Int64) (v5 : Int32) (σ : S5) : Option (Int32 × S5) :=
  f_X12_isGiven_b46 rec6 (v1) (v2) (v5) (1) σ
def f_X12_isGiven_B6 (rec6 : Int32 → Int64 → Int32 → Int32 → S5 → Option (Int32 × S5)) (v1 : Int32) (v2 : Int64) (v4 : Int32) (v5 : Int32) (σ : S5) : Option (Int32 × S5) :=
  gd v1 3200 <| if (xA σ 10 v1) ≤ v5 then
    (g_t v4 <| some (v4, σ))
  else
    (if v4 = 0 then
      (gd v1 3200 <| gd ((xA σ 9 v1) + v5) 3200 <| if (lg_cmp (xB σ 1 ((xA σ 9 v1) + v5)) v2) = 0 then
        (f_X12_isGiven_b41 rec6 (v1) (v2) (v5) σ)
      else
        (f_X12_isGiven_b46 rec6 (v1) (v2) (v5) (0) σ))
    else
      (f_X12_isGiven_b41 rec6 (v1) (v2) (v5) σ))
def f_X12_isGiven_L6 : Nat → Int32 → Int64 → Int32 → Int32 → S5 → Option (Int32 × S5)
  | 0, _, _, _, _, _ => none
  | n + 1, v1, v2, v4, v5, σ => f_X12_isGiven_B6 (f_X12_isGiven_L6  n) v1 v2 v4 v5 σ
def f_X12_isGiven (a1 : Int32) (a2 : Int64) (σ : S5) : Option (Int32 × S5) :=
  f_X12_isGiven_L6  FU (a1) (a2) (0) (0) σ
def f_X12_giveName (a1 : Int32) (a2 : Int64) (σ : S5) : Option (Unit × S5) :=
  gd (gI σ 10) 3200 <| gd a1 3200 <| gd a1 3200 <| some ((), (pA (pI (pB σ 1 (gI σ 10) a2) 10 ((gI σ 10) + 1)) 10 a1 ((xA σ 10 a1) + 1)))
def f_X12_parameters_b168 (rec10 : Int32 → Int32 → S5 → Option (Unit × S5)) (v1 : Int32) (v2 : Int32) (σ : S5) : Option (Unit × S5) :=
  rec10 (v1) (v2) σ
def f_X12_parameters_b152 (rec10 : Int32 → Int32 → S5 → Option (Unit × S5)) (v1 : Int32) (v2 : Int32) (v3 : Int64) (u0 : Int32) (σ : S5) : Option (Unit × S5) :=
  bd (f_X12_accept (u0) σ) (fun _ τ152 =>
  if (gI τ152 7) = 0 then
    (bd (f_X12_giveName (v1) (v3) τ152) (fun _ τ165 =>
    f_X12_parameters_b168 rec10 (v1) (v2) τ165))
  else
    (f_X12_parameters_b168 rec10 (v1) (v2) τ152))
def f_X12_parameters_b138 (rec10 : Int32 → Int32 → S5 → Option (Unit × S5)) (v1 : Int32) (v2 : Int32) (v3 : Int64) (σ : S5) : Option (Unit × S5) :=
  if (gI σ 4) = 3 then
    (f_X12_parameters_b152 rec10 (v1) (v2) (v3) (1) σ)
  else
    (f_X12_parameters_b152 rec10 (v1) (v2) (v3) (0) σ)
def f_X12_parameters_b94 (rec10 : Int32 → Int32 → S5 → Option (Unit × S5)) (v1 : Int32) (v2 : Int32) (σ : S5) : Option (Unit × S5) :=
  gd v1 3200 <| if (xA σ 2 v1) = 1 then
    (gd v1 3200 <| if (xA σ 10 v1) = 0 then
      (if (gI σ 4) = 3 then
        (if (gI σ 7) = 0 then
          (bd (f_X12_part  σ) (fun r134 τ134 =>
          f_X12_parameters_b138 rec10 (v1) (v2) ((gJ σ 0)) τ134))
        else
          (f_X12_parameters_b138 rec10 (v1) (v2) ((gJ σ 0)) σ))
      else
        (f_X12_parameters_b138 rec10 (v1) (v2) ((gJ σ 0)) σ))
    else
      (f_X12_parameters_b138 rec10 (v1) (v2) ((gJ σ 0)) σ))
  else
    (f_X12_parameters_b138 rec10 (v1) (v2) ((gJ σ 0)) σ)
def f_X12_parameters_b67 (rec10 : Int32 → Int32 → S5 → Option (Unit × S5)) (v1 : Int32) (v2 : Int32) (σ : S5) : Option (Unit × S5) :=
  if (gI σ 4) = 3 then
    (gd v1 3200 <| if (xA σ 10 v1) = 5 then
      (bd (f_X12_fail (4) ((gI σ 5)) σ) (fun _ τ91 =>
      f_X12_parameters_b94 rec10 (v1) (v2) τ91))
    else
      (f_X12_parameters_b94 rec10 (v1) (v2) σ))
  else
    (f_X12_parameters_b94 rec10 (v1) (v2) σ)
def f_X12_parameters_b35 (rec10 : Int32 → Int32 → S5 → Option (Unit × S5)) (v1 : Int32) (v2 : Int32) (σ : S5) : Option (Unit × S5) :=
  if (gI σ 4) = 3 then
    (bd (f_X12_isGiven (v1) ((gJ σ 0)) σ) (fun r49 τ49 =>
    if r49 = 0 then
      (f_X12_parameters_b67 rec10 (v1) (v2) τ49)
    else
      (bd (f_X12_fail (2) ((gI τ49 5)) τ49) (fun _ τ61 =>
      f_X12_parameters_b94 rec10 (v1) (v2) τ61))))
  else
    (f_X12_parameters_b67 rec10 (v1) (v2) σ)
def f_X12_parameters_B10 (rec10 : Int32 → Int32 → S5 → Option (Unit × S5)) (v1 : Int32) (v2 : Int32) (σ : S5) : Option (Unit × S5) :=
  if (gI σ 7) = 0 then
    (if (gI σ 4) = 3 then
      (f_X12_parameters_b35 rec10 (v1) (v2) σ)
    else
      (gd v1 3200 <| if v2 ≤ (xA σ 10 v1) then
        (some ((), σ))
      else
        (f_X12_parameters_b35 rec10 (v1) (v2) σ)))
  else
    (some ((), σ))
def f_X12_parameters_L10 : Nat → Int32 → Int32 → S5 → Option (Unit × S5)
  | 0, _, _, _ => none
  | n + 1, v1, v2, σ => f_X12_parameters_B10 (f_X12_parameters_L10  n) v1 v2 σ
def f_X12_parameters (a1 : Int32) (a2 : Int32) (σ : S5) : Option (Unit × S5) :=
  gd a1 3200 <| f_X12_parameters_L10  FU (a1) (a2) (pA σ 9 a1 (gI σ 10))
def f_X12_binding_b102  (σ : S5) : Option (Unit × S5) :=
  bd (f_X12_wrong  σ) (fun _ τ103 =>
  some ((), τ103))
def f_X12_binding_b87 (v1 : Int32) (σ : S5) : Option (Unit × S5) :=
  if 0 < (gI σ 7) then
    (f_X12_binding_b102   σ)
  else
    (if (gI σ 4) = 3 then
      (bd (f_X12_node (1) σ) (fun r109 τ109 =>
      gd r109 3200 <| bd (f_X12_append (v1) (r109) (pB τ109 0 r109 (gJ τ109 0))) (fun _ τ126 =>
      bd (f_X12_next  τ126) (fun _ τ130 =>
      bd (f_X12_parameters (r109) (0) τ130) (fun _ τ136 =>
      bd (f_X12_isSign (61) τ136) (fun r143 τ143 =>
      bd (f_X12_accept (r143) τ143) (fun _ τ146 =>
      bd (f_X12_pile (2) (r109) (0) τ146) (fun _ τ153 =>
      some ((), (pI (pI τ153 19 1) 18 1))))))))))
    else
      (f_X12_binding_b102   σ))
def f_X12_binding_b55 (rec17 : Int32 → Int32 → Int32 → S5 → Option (Unit × S5)) (v1 : Int32) (v2 : Int32) (v3 : Int32) (σ : S5) : Option (Unit × S5) :=
  gd v3 3200 <| rec17 (v1) (v2) ((xA σ 5 v3)) σ
def f_X12_binding_B17 (rec17 : Int32 → Int32 → Int32 → S5 → Option (Unit × S5)) (v1 : Int32) (v2 : Int32) (v3 : Int32) (σ : S5) : Option (Unit × S5) :=
  if v3 < 0 then
    (if (gI σ 4) = 3 then
      (if v2 = 5 then
        (bd (f_X12_fail (4) ((gI σ 5)) σ) (fun _ τ84 =>
        f_X12_binding_b87  (v1) τ84))
      else
        (f_X12_binding_b87  (v1) σ))
    else
      (f_X12_binding_b87  (v1) σ))
  else
    (if (gI σ 4) = 3 then
      (gd v3 3200 <| if (lg_cmp (xB σ 0 v3) (gJ σ 0)) = 0 then
        (bd (f_X12_fail (2) ((gI σ 5)) σ) (fun _ τ52 =>
        f_X12_binding_b55 rec17 (v1) ((v2 + 1)) (v3) τ52))
      else
        (f_X12_binding_b55 rec17 (v1) ((v2 + 1)) (v3) σ))
    else
      (f_X12_binding_b55 rec17 (v1) ((v2 + 1)) (v3) σ))
def f_X12_binding_L17 : Nat → Int32 → Int32 → Int32 → S5 → Option (Unit × S5)
  | 0, _, _, _, _ => none
  | n + 1, v1, v2, v3, σ => f_X12_binding_B17 (f_X12_binding_L17  n) v1 v2 v3 σ
def f_X12_binding (a1 : Int32) (σ : S5) : Option (Unit × S5) :=
  if (gI σ 7) ≤ 0 then
    (gd a1 3200 <| f_X12_binding_L17  FU (a1) (0) ((xA σ 3 a1)) σ)
  else
    (some ((), σ))
def f_X12_begins_b175 (v1 : Int32) (σ : S5) : Option (Int32 × S5) :=
  bd (f_X12_isSign (46) σ) (fun r179 τ179 =>
  bd (f_X12_accept (r179) τ179) (fun _ τ182 =>
  bd (f_X12_pile (4) (v1) (0) τ182) (fun _ τ189 =>
  some ((1 : Int32), τ189))))
def f_X12_begins_b156 (u0 : Int32) (σ : S5) : Option (Int32 × S5) :=
  bd (f_X12_accept (1) σ) (fun _ τ159 =>
  if (gI τ159 7) = 0 then
    (bd (f_X12_parameters (u0) (1) τ159) (fun _ τ172 =>
    f_X12_begins_b175  (u0) τ172))
  else
    (f_X12_begins_b175  (u0) τ159))
def f_X12_begins_b155  (σ : S5) : Option (Int32 × S5) :=
  f_X12_begins_b156  (0) σ
def f_X12_begins_b114 (u0 : Int32) (σ : S5) : Option (Int32 × S5) :=
  bd (f_X12_accept (1) σ) (fun _ τ117 =>
  bd (f_X12_pile (5) (u0) (0) τ117) (fun _ τ124 =>
  some ((1 : Int32), τ124)))
def f_X12_begins_b113  (σ : S5) : Option (Int32 × S5) :=
  f_X12_begins_b114  (0) σ
def f_X12_begins_b67 (u0 : Int32) (σ : S5) : Option (Int32 × S5) :=
  bd (f_X12_accept (1) σ) (fun _ τ70 =>
  bd (f_X12_pile (3) (u0) (0) τ70) (fun _ τ77 =>
  bd (f_X12_binding (u0) τ77) (fun _ τ82 =>
  some ((1 : Int32), τ82))))
def f_X12_begins_b66  (σ : S5) : Option (Int32 × S5) :=
  f_X12_begins_b67  (0) σ
def f_X12_begins  (σ : S5) : Option (Int32 × S5) :=
  if (gI σ 4) = 11 then
    (bd (f_X12_opens  σ) (fun _ τ41 =>
    if (gI τ41 7) = 0 then
      (bd (f_X12_part  τ41) (fun r52 τ52 =>
      if r52 = 0 then
        (f_X12_begins_b66   τ52)
      else
        (bd (f_X12_node (0) τ52) (fun r60 τ60 =>
        f_X12_begins_b67  (r60) τ60))))
    else
      (f_X12_begins_b66   τ41)))
  else if (gI σ 4) = 13 then
    (bd (f_X12_opens  σ) (fun _ τ88 =>
    if (gI τ88 7) = 0 then
      (bd (f_X12_part  τ88) (fun r99 τ99 =>
      if r99 = 0 then
        (f_X12_begins_b113   τ99)
      else
        (bd (f_X12_node (3) τ99) (fun r107 τ107 =>
        f_X12_begins_b114  (r107) τ107))))
    else
      (f_X12_begins_b113   τ88)))
  else if (gI σ 4) = 192 then
    (bd (f_X12_opens  σ) (fun _ τ130 =>
    if (gI τ130 7) = 0 then
      (bd (f_X12_part  τ130) (fun r141 τ141 =>
      if r141 = 0 then
        (f_X12_begins_b155   τ141)
      else
        (bd (f_X12_node (2) τ141) (fun r149 τ149 =>
        f_X12_begins_b156  (r149) τ149))))
    else
      (f_X12_begins_b155   τ130)))
  else 
    (some ((0 : Int32), σ))
def f_X12_isAtom_b42  (σ : S5) : Option (Int32 × S5) :=
  some ((1 : Int32), σ)
def f_X12_isAtom  (σ : S5) : Option (Int32 × S5) :=
  if (gI σ 4) = 3 then
    (f_X12_isAtom_b42   σ)
  else
    (if (gI σ 4) = 4 then
      (f_X12_isAtom_b42   σ)
    else
      (if (gI σ 4) = 2 then
        (f_X12_isAtom_b42   σ)
      else
        (if (gI σ 4) = 15 then
          (f_X12_isAtom_b42   σ)
        else
          (bd (f_X12_isSign (40) σ) (fun r36 τ36 =>
          if r36 = 0 then
            (some ((0 : Int32), τ36))
          else
            (f_X12_isAtom_b42   τ36))))))
def f_X12_atom_b189 (v2 : Int32) (u0 : Int32) (u1 : Int32) (σ : S5) : Option (Int32 × S5) :=
  gd u1 3200 <| bd (f_X12_next  (pA σ 7 u1 u0)) (fun _ τ191 =>
  bd (f_X12_operand (v2) τ191) (fun _ τ196 =>
  some ((1 : Int32), τ196)))
def f_X12_atom_b154 (v1 : Int32) (u0 : Int32) (σ : S5) : Option (Int32 × S5) :=
  bd (f_X12_node (u0) σ) (fun r154 τ154 =>
  gd r154 3200 <| if (gI τ154 4) = 4 then
    (f_X12_atom_b189  (r154) (v1) (r154) (pB τ154 0 r154 (gJ τ154 0)))
  else
    (f_X12_atom_b189  (r154) ((gI τ154 6)) (r154) (pB τ154 0 r154 (gJ τ154 0))))
def f_X12_atom_b96 (v1 : Int32) (σ : S5) : Option (Int32 × S5) :=
  if 0 < (gI σ 7) then
    (some ((0 : Int32), σ))
  else
    (bd (f_X12_part  σ) (fun r104 τ104 =>
    if r104 = 0 then
      (some ((0 : Int32), τ104))
    else
      (if (gI τ104 4) = 3 then
        (f_X12_atom_b154  (v1) (8) τ104)
      else
        (if (gI τ104 4) = 4 then
          (f_X12_atom_b154  (v1) (9) τ104)
        else
          (if (gI τ104 4) = 2 then
            (f_X12_atom_b154  (v1) (10) τ104)
          else
            (f_X12_atom_b154  (v1) (11) τ104))))))
def f_X12_atom_b76 (v1 : Int32) (σ : S5) : Option (Int32 × S5) :=
  bd (f_X12_wrong  σ) (fun _ τ77 =>
  f_X12_atom_b96  (v1) τ77)
def f_X12_atom_b69 (v1 : Int32) (σ : S5) : Option (Int32 × S5) :=
  bd (f_X12_isAtom  σ) (fun r70 τ70 =>
  if r70 = 0 then
    (f_X12_atom_b76  (v1) τ70)
  else
    (if 0 ≤ v1 then
      (f_X12_atom_b96  (v1) τ70)
    else
      (bd (f_X12_fail (3) ((gI τ70 5)) τ70) (fun _ τ93 =>
      f_X12_atom_b96  (v1) τ93))))
def f_X12_atom_b47 (u0 : Int32) (σ : S5) : Option (Int32 × S5) :=
  if (gI σ 4) = 4 then
    (if u0 < 0 then
      (f_X12_atom_b69  (u0) σ)
    else
      (gd u0 30 <| if 0 < (xA σ 13 u0) then
        (f_X12_atom_b76  (u0) σ)
      else
        (f_X12_atom_b69  (u0) σ)))
  else
    (f_X12_atom_b69  (u0) σ)
def f_X12_atom  (σ : S5) : Option (Int32 × S5) :=
  bd (f_X12_isSign (40) σ) (fun r3 τ3 =>
  if r3 = 0 then
    (if (gI τ3 4) = 4 then
      (bd (f_X12_findConstructor ((gJ τ3 0)) τ3) (fun r40 τ40 =>
      f_X12_atom_b47  (r40) τ40))
    else
      (f_X12_atom_b47  (0) τ3))
  else
    (bd (f_X12_opens  τ3) (fun _ τ10 =>
    bd (f_X12_accept (1) τ10) (fun _ τ15 =>
    bd (f_X12_pile (1) (0) (0) τ15) (fun _ τ22 =>
    some ((0 : Int32), τ22))))))
def f_X12_tooDeep  (σ : S5) : Option (Unit × S5) :=
  bd (f_X12_isSign (40) σ) (fun r3 τ3 =>
  if r3 = 0 then
    (some ((), τ3))
  else
    (if (gI τ3 15) = 30 then
      (bd (f_X12_wrong  τ3) (fun _ τ19 =>
      some ((), τ19)))
    else
      (some ((), τ3))))
def f_X12_judgeAtom_b53  (σ : S5) : Option (Unit × S5) :=
  bd (f_X12_wrong  σ) (fun _ τ54 =>
  some ((), τ54))
def f_X12_judgeAtom_b46 (v1 : Int32) (σ : S5) : Option (Unit × S5) :=
  bd (f_X12_isAtom  σ) (fun r47 τ47 =>
  if r47 = 0 then
    (f_X12_judgeAtom_b53   τ47)
  else
    (if 0 ≤ v1 then
      (some ((), τ47))
    else
      (bd (f_X12_fail (3) ((gI τ47 5)) τ47) (fun _ τ70 =>
      some ((), τ70)))))
def f_X12_judgeAtom_b20 (u0 : Int32) (σ : S5) : Option (Unit × S5) :=
  bd (f_X12_tooDeep  σ) (fun _ τ22 =>
  if (gI τ22 4) = 4 then
    (if u0 < 0 then
      (f_X12_judgeAtom_b46  (u0) τ22)
    else
      (gd u0 30 <| if 0 < (xA τ22 13 u0) then
        (f_X12_judgeAtom_b53   τ22)
      else
        (f_X12_judgeAtom_b46  (u0) τ22)))
  else
    (f_X12_judgeAtom_b46  (u0) τ22))
def f_X12_judgeAtom  (σ : S5) : Option (Unit × S5) :=
  if (gI σ 4) = 4 then
    (bd (f_X12_findConstructor ((gJ σ 0)) σ) (fun r13 τ13 =>
    f_X12_judgeAtom_b20  (r13) τ13))
  else
    (f_X12_judgeAtom_b20  (0) σ)
def f_X12_field_b25  (σ : S5) : Option (Int32 × S5) :=
  if (gI σ 7) = 0 then
    (bd (f_X12_atom  σ) (fun r33 τ33 =>
    if r33 = 0 then
      (some ((0 : Int32), τ33))
    else
      (some ((1 : Int32), τ33))))
  else
    (some ((0 : Int32), σ))
def f_X12_field (a1 : Int32) (σ : S5) : Option (Int32 × S5) :=
  bd (f_X12_judgeAtom  σ) (fun _ τ1 =>
  if (gI τ1 7) = 0 then
    (gd a1 3200 <| if (xA τ1 17 a1) = 0 then
      (bd (f_X12_part  τ1) (fun r21 τ21 =>
      f_X12_field_b25   τ21))
    else
      (f_X12_field_b25   τ1))
  else
    (f_X12_field_b25   τ1))
def f_X12_application_b76  (σ : S5) : Option (Int32 × S5) :=
  bd (f_X12_pile (8) ((-1)) (0) σ) (fun _ τ81 =>
  bd (f_X12_atom  τ81) (fun r85 τ85 =>
  g_t r85 <| some (r85, τ85)))
def f_X12_application_b25 (u0 : Int32) (σ : S5) : Option (Int32 × S5) :=
  if u0 < 0 then
    (f_X12_application_b76   σ)
  else
    (gd u0 30 <| if (xA σ 13 u0) ≤ 0 then
      (f_X12_application_b76   σ)
    else
      (bd (f_X12_node (7) σ) (fun r42 τ42 =>
      gd r42 3200 <| bd (f_X12_next  (pA τ42 7 r42 u0)) (fun _ τ54 =>
      bd (f_X12_pile (9) (r42) (0) τ54) (fun _ τ62 =>
      bd (f_X12_field (((gI τ62 16) - 1)) τ62) (fun r72 τ72 =>
      g_t r72 <| some (r72, τ72)))))))
def f_X12_application  (σ : S5) : Option (Int32 × S5) :=
  if (gI σ 4) = 4 then
    (bd (f_X12_findConstructor ((gJ σ 0)) (pI σ 21 0)) (fun r18 τ18 =>
    f_X12_application_b25  (r18) τ18))
  else
    (f_X12_application_b25  ((-1)) (pI σ 21 0))
def f_X12_atomEnds_b323 (u0 : Int32) (σ : S5) : Option (Unit × S5) :=
  g_t u0 <| some ((), (pI (pI σ 19 u0) 18 1))
def f_X12_atomEnds_b322  (σ : S5) : Option (Unit × S5) :=
  f_X12_atomEnds_b323  (0) σ
def f_X12_atomEnds_b303  (σ : S5) : Option (Unit × S5) :=
  if (gI σ 7) = 0 then
    (bd (f_X12_atom  σ) (fun r312 τ312 =>
    if r312 = 0 then
      (f_X12_atomEnds_b323  (1) τ312)
    else
      (f_X12_atomEnds_b322   τ312)))
  else
    (f_X12_atomEnds_b322   σ)
def f_X12_atomEnds_b259 (v1 : Int32) (v2 : Int32) (σ : S5) : Option (Unit × S5) :=
  if (gI σ 7) = 0 then
    (if 0 ≤ v2 then
      (f_X12_atomEnds_b303   σ)
    else
      (bd (f_X12_part  σ) (fun r271 τ271 =>
      if r271 = 0 then
        (f_X12_atomEnds_b303   τ271)
      else
        (bd (f_X12_node (6) τ271) (fun r280 τ280 =>
        bd (f_X12_taken  τ280) (fun r289 τ289 =>
        bd (f_X12_append (r280) (r289) τ289) (fun _ τ292 =>
        gd v1 3200 <| f_X12_atomEnds_b303   (pA τ292 15 v1 r280))))))))
  else
    (f_X12_atomEnds_b303   σ)
def f_X12_atomEnds_b227 (v1 : Int32) (v2 : Int32) (v3 : Int32) (v4 : Int32) (σ : S5) : Option (Unit × S5) :=
  if 0 ≤ v4 then
    (if v3 = 6 then
      (bd (f_X12_fail (4) ((gI σ 5)) σ) (fun _ τ256 =>
      f_X12_atomEnds_b259  (v1) (v2) τ256))
    else
      (f_X12_atomEnds_b259  (v1) (v2) σ))
  else
    (bd (f_X12_fail (3) ((gI σ 5)) σ) (fun _ τ238 =>
    f_X12_atomEnds_b259  (v1) (v2) τ238))
def f_X12_atomEnds_b191 (v1 : Int32) (v2 : Int32) (v3 : Int32) (u0 : Int32) (σ : S5) : Option (Unit × S5) :=
  bd (f_X12_tooDeep  σ) (fun _ τ194 =>
  if (gI τ194 4) = 4 then
    (if u0 < 0 then
      (f_X12_atomEnds_b227  (v1) (v2) (v3) (u0) τ194)
    else
      (gd u0 30 <| if (xA τ194 13 u0) ≤ 0 then
        (f_X12_atomEnds_b227  (v1) (v2) (v3) (u0) τ194)
      else
        (bd (f_X12_wrong  τ194) (fun _ τ221 =>
        f_X12_atomEnds_b259  (v1) (v2) τ221))))
  else
    (f_X12_atomEnds_b227  (v1) (v2) (v3) (u0) τ194))
def f_X12_atomEnds_b165  (σ : S5) : Option (Unit × S5) :=
  some ((), (pI σ 20 1))
def f_X12_atomEnds_b139 (v1 : Int32) (v2 : Int32) (v3 : Int32) (σ : S5) : Option (Unit × S5) :=
  bd (f_X12_isAtom  σ) (fun r140 τ140 =>
  if r140 = 0 then
    (if v2 < 0 then
      (f_X12_atomEnds_b165   (pI τ140 16 ((gI τ140 16) - 1)))
    else
      (bd (f_X12_operand (v2) (pI τ140 16 ((gI τ140 16) - 1))) (fun _ τ162 =>
      f_X12_atomEnds_b165   τ162)))
  else
    (if (gI τ140 4) = 4 then
      (bd (f_X12_findConstructor ((gJ τ140 0)) τ140) (fun r184 τ184 =>
      f_X12_atomEnds_b191  (v1) (v2) (v3) (r184) τ184))
    else
      (f_X12_atomEnds_b191  (v1) (v2) (v3) (0) τ140)))
def f_X12_atomEnds_b80 (u0 : Int32) (σ : S5) : Option (Unit × S5) :=
  g_t u0 <| some ((), (pI (pI σ 19 u0) 18 1))
def f_X12_atomEnds  (σ : S5) : Option (Unit × S5) :=
  gd ((gI σ 16) - 1) 3200 <| gd ((gI σ 16) - 1) 3200 <| gd ((gI σ 16) - 1) 3200 <| gd ((gI σ 16) - 1) 3200 <| gd ((gI σ 16) - 1) 3200 <| if (xA σ 14 ((gI σ 16) - 1)) = 9 then
    (bd (f_X12_taken  (pA σ 17 ((gI σ 16) - 1) ((xA σ 17 ((gI σ 16) - 1)) + 1))) (fun r45 τ45 =>
    bd (f_X12_append ((xA σ 15 ((gI σ 16) - 1))) (r45) τ45) (fun _ τ48 =>
    gd (xA σ 15 ((gI σ 16) - 1)) 3200 <| gd (xA τ48 7 (xA σ 15 ((gI σ 16) - 1))) 30 <| if (xA τ48 13 (xA τ48 7 (xA σ 15 ((gI σ 16) - 1)))) ≤ (xA (pA σ 17 ((gI σ 16) - 1) ((xA σ 17 ((gI σ 16) - 1)) + 1)) 17 ((gI σ 16) - 1)) then
      (bd (f_X12_isAtom  τ48) (fun r92 τ92 =>
      if r92 = 0 then
        (bd (f_X12_operand ((xA σ 15 ((gI σ 16) - 1))) (pI τ92 16 ((gI τ92 16) - 1))) (fun _ τ117 =>
        some ((), (pI τ117 20 1))))
      else
        (bd (f_X12_wrong  τ92) (fun _ τ99 =>
        some ((), τ99)))))
    else
      (bd (f_X12_field (((gI σ 16) - 1)) τ48) (fun r69 τ69 =>
      if r69 = 0 then
        (f_X12_atomEnds_b80  (1) τ69)
      else
        (f_X12_atomEnds_b80  (0) τ69))))))
  else
    (if (xA σ 15 ((gI σ 16) - 1)) < 0 then
      (f_X12_atomEnds_b139  (((gI σ 16) - 1)) ((xA σ 15 ((gI σ 16) - 1))) ((xA (pA σ 17 ((gI σ 16) - 1) ((xA σ 17 ((gI σ 16) - 1)) + 1)) 17 ((gI σ 16) - 1))) (pA σ 17 ((gI σ 16) - 1) ((xA σ 17 ((gI σ 16) - 1)) + 1)))
    else
      (bd (f_X12_taken  (pA σ 17 ((gI σ 16) - 1) ((xA σ 17 ((gI σ 16) - 1)) + 1))) (fun r133 τ133 =>
      bd (f_X12_append ((xA σ 15 ((gI σ 16) - 1))) (r133) τ133) (fun _ τ136 =>
      f_X12_atomEnds_b139  (((gI σ 16) - 1)) ((xA σ 15 ((gI σ 16) - 1))) ((xA (pA σ 17 ((gI σ 16) - 1) ((xA σ 17 ((gI σ 16) - 1)) + 1)) 17 ((gI σ 16) - 1))) τ136))))
def f_X12_rank (a0 : Int32) (σ : S5) : Option (Int32 × S5) :=
  if a0 = 21 then
    (some ((1 : Int32), σ))
  else if a0 = 22 then
    (some ((1 : Int32), σ))
  else if a0 = 137 then
    (some ((3 : Int32), σ))
  else if a0 = 142 then
    (some ((3 : Int32), σ))
  else if a0 = 143 then
    (some ((2 : Int32), σ))
  else if a0 = 145 then
    (some ((2 : Int32), σ))
  else if a0 = 147 then
    (some ((3 : Int32), σ))
  else if a0 = 160 then
    (some ((1 : Int32), σ))
  else 
    (some ((0 : Int32), σ))
def f_X12_reduce_B0 (rec0 : Int32 → S5 → Option (Unit × S5)) (v1 : Int32) (σ : S5) : Option (Unit × S5) :=
  if (gI σ 16) ≤ 0 then
    (some ((), σ))
  else
    (gd ((gI σ 16) - 1) 3200 <| if (xA σ 14 ((gI σ 16) - 1)) = 7 then
      (gd ((gI σ 16) - 1) 3200 <| if (xA σ 16 ((gI σ 16) - 1)) < v1 then
        (some ((), σ))
      else
        (gd ((gI σ 16) - 1) 3200 <| bd (f_X12_taken  (pI σ 16 ((gI σ 16) - 1))) (fun r64 τ64 =>
        gd (xA σ 15 ((gI σ 16) - 1)) 3200 <| bd (f_X12_taken  (pA τ64 4 (xA σ 15 ((gI σ 16) - 1)) r64)) (fun r74 τ74 =>
        gd (xA σ 15 ((gI σ 16) - 1)) 3200 <| bd (f_X12_operand ((xA σ 15 ((gI σ 16) - 1))) (pA τ74 3 (xA σ 15 ((gI σ 16) - 1)) r74)) (fun _ τ80 =>
        rec0 (v1) τ80)))))
    else
      (some ((), σ)))
def f_X12_reduce_L0 : Nat → Int32 → S5 → Option (Unit × S5)
  | 0, _, _ => none
  | n + 1, v1, σ => f_X12_reduce_B0 (f_X12_reduce_L0  n) v1 σ
def f_X12_reduce (a1 : Int32) (σ : S5) : Option (Unit × S5) :=
  f_X12_reduce_L0  FU (a1) σ
def f_X12_signE_b64 (v1 : Int32) (u0 : Int32) (σ : S5) : Option (Unit × S5) :=
  gd u0 3200 <| bd (f_X12_accept (1) (pA σ 7 u0 (gI σ 4))) (fun _ τ77 =>
  bd (f_X12_pile (7) (u0) (v1) τ77) (fun _ τ85 =>
  some ((), (pI (pI τ85 19 1) 18 0))))
def f_X12_signE_b48 (v1 : Int32) (σ : S5) : Option (Unit × S5) :=
  bd (f_X12_part  σ) (fun r49 τ49 =>
  if r49 = 0 then
    (f_X12_signE_b64  (v1) (0) τ49)
  else
    (bd (f_X12_node (5) τ49) (fun r57 τ57 =>
    f_X12_signE_b64  (v1) (r57) τ57)))
def f_X12_signE_b19 (v1 : Int32) (u0 : Int32) (σ : S5) : Option (Unit × S5) :=
  bd (f_X12_reduce (u0) σ) (fun _ τ19 =>
  if v1 = 1 then
    (gd ((gI τ19 16) - 1) 3200 <| if (xA τ19 14 ((gI τ19 16) - 1)) = 7 then
      (bd (f_X12_wrong  τ19) (fun _ τ44 =>
      some ((), τ44)))
    else
      (f_X12_signE_b48  (v1) τ19))
  else
    (f_X12_signE_b48  (v1) τ19))
def f_X12_signE  (σ : S5) : Option (Unit × S5) :=
  bd (f_X12_rank ((gI σ 4)) σ) (fun r4 τ4 =>
  if r4 = 1 then
    (f_X12_signE_b19  (r4) (2) τ4)
  else
    (f_X12_signE_b19  (r4) (r4) τ4))
def f_X12_branch_b331 (v5 : Int32) (u0 : Int32) (σ : S5) : Option (Unit × S5) :=
  bd (f_X12_accept (u0) σ) (fun _ τ331 =>
  bd (f_X12_pile (6) (v5) (0) τ331) (fun _ τ340 =>
  some ((), (pI (pI τ340 19 1) 18 1))))
def f_X12_branch_b316 (v5 : Int32) (σ : S5) : Option (Unit × S5) :=
  if (gI σ 4) = 20 then
    (f_X12_branch_b331  (v5) (1) σ)
  else
    (f_X12_branch_b331  (v5) (0) σ)
def f_X12_branch_b310 (rec215 : Int32 → Int32 → Int32 → S5 → Option (Unit × S5)) (v4 : Int32) (v5 : Int32) (v6 : Int32) (σ : S5) : Option (Unit × S5) :=
  rec215 (v4) (v5) ((v6 + 1)) σ
def f_X12_branch_b292 (rec215 : Int32 → Int32 → Int32 → S5 → Option (Unit × S5)) (v4 : Int32) (v5 : Int32) (v6 : Int32) (v7 : Int64) (u0 : Int32) (σ : S5) : Option (Unit × S5) :=
  bd (f_X12_accept (u0) σ) (fun _ τ292 =>
  if (gI τ292 7) = 0 then
    (bd (f_X12_giveName (v5) (v7) τ292) (fun _ τ307 =>
    f_X12_branch_b310 rec215 (v4) (v5) (v6) τ307))
  else
    (f_X12_branch_b310 rec215 (v4) (v5) (v6) τ292))
def f_X12_branch_b278 (rec215 : Int32 → Int32 → Int32 → S5 → Option (Unit × S5)) (v4 : Int32) (v5 : Int32) (v6 : Int32) (v7 : Int64) (σ : S5) : Option (Unit × S5) :=
  if (gI σ 4) = 3 then
    (f_X12_branch_b292 rec215 (v4) (v5) (v6) (v7) (1) σ)
  else
    (f_X12_branch_b292 rec215 (v4) (v5) (v6) (v7) (0) σ)
def f_X12_branch_B215 (rec215 : Int32 → Int32 → Int32 → S5 → Option (Unit × S5)) (v4 : Int32) (v5 : Int32) (v6 : Int32) (σ : S5) : Option (Unit × S5) :=
  gd v5 3200 <| if (xA σ 8 v5) = 0 then
    (gd v4 30 <| if (xA σ 13 v4) ≤ v6 then
      (f_X12_branch_b316  (v5) σ)
    else
      (if (gI σ 7) = 0 then
        (if (gI σ 4) = 3 then
          (bd (f_X12_isGiven (v5) ((gJ σ 0)) σ) (fun r263 τ263 =>
          if r263 = 0 then
            (f_X12_branch_b278 rec215 (v4) (v5) (v6) ((gJ σ 0)) τ263)
          else
            (bd (f_X12_fail (2) ((gI τ263 5)) τ263) (fun _ τ275 =>
            f_X12_branch_b278 rec215 (v4) (v5) (v6) ((gJ σ 0)) τ275))))
        else
          (f_X12_branch_b278 rec215 (v4) (v5) (v6) ((gJ σ 0)) σ))
      else
        (f_X12_branch_b316  (v5) σ)))
  else
    (f_X12_branch_b316  (v5) σ)
def f_X12_branch_L215 : Nat → Int32 → Int32 → Int32 → S5 → Option (Unit × S5)
  | 0, _, _, _, _ => none
  | n + 1, v4, v5, v6, σ => f_X12_branch_B215 (f_X12_branch_L215  n) v4 v5 v6 σ
def f_X12_branch_b207 (v4 : Int32) (v5 : Int32) (u0 : Int32) (u1 : Int32) (σ : S5) : Option (Unit × S5) :=
  gd u1 3200 <| bd (f_X12_next  (pA σ 7 u1 u0)) (fun _ τ209 =>
  f_X12_branch_L215  FU (v4) (v5) (0) τ209)
def f_X12_branch_b183 (v4 : Int32) (v5 : Int32) (u0 : Int32) (u1 : Int32) (σ : S5) : Option (Unit × S5) :=
  gd u1 3200 <| if (gI σ 4) = 4 then
    (f_X12_branch_b207  (v4) (v5) (v4) (v5) (pA σ 8 u1 u0))
  else
    (f_X12_branch_b207  (v4) (v5) ((gI σ 6)) (v5) (pA σ 8 u1 u0))
def f_X12_branch_b130 (v1 : Int32) (v4 : Int32) (σ : S5) : Option (Unit × S5) :=
  if (gI σ 7) ≤ 0 then
    (bd (f_X12_node (4) σ) (fun r140 τ140 =>
    bd (f_X12_append (v1) (r140) τ140) (fun _ τ149 =>
    if (gI τ149 4) = 4 then
      (f_X12_branch_b183  (v4) (r140) (0) (r140) τ149)
    else
      (if (gI τ149 4) = 2 then
        (f_X12_branch_b183  (v4) (r140) (1) (r140) τ149)
      else
        (f_X12_branch_b183  (v4) (r140) (2) (r140) τ149)))))
  else
    (some ((), σ))
def f_X12_branch_b85 (v1 : Int32) (v2 : Int32) (v3 : Int32) (u0 : Int32) (σ : S5) : Option (Unit × S5) :=
  if v3 = 0 then
    (bd (f_X12_wrong  σ) (fun _ τ92 =>
    f_X12_branch_b130  (v1) (u0) τ92))
  else
    (if 0 ≤ u0 then
      (if v2 = 8 then
        (bd (f_X12_fail (4) ((gI σ 5)) σ) (fun _ τ127 =>
        f_X12_branch_b130  (v1) (u0) τ127))
      else
        (f_X12_branch_b130  (v1) (u0) σ))
    else
      (bd (f_X12_fail (3) ((gI σ 5)) σ) (fun _ τ109 =>
      f_X12_branch_b130  (v1) (u0) τ109)))
def f_X12_branch_b64 (v1 : Int32) (v2 : Int32) (u0 : Int32) (σ : S5) : Option (Unit × S5) :=
  if (gI σ 4) = 4 then
    (bd (f_X12_findConstructor ((gJ σ 0)) σ) (fun r78 τ78 =>
    f_X12_branch_b85  (v1) (v2) (u0) (r78) τ78))
  else
    (f_X12_branch_b85  (v1) (v2) (u0) (0) σ)
def f_X12_branch_b59 (v1 : Int32) (v2 : Int32) (σ : S5) : Option (Unit × S5) :=
  f_X12_branch_b64  (v1) (v2) (1) σ
def f_X12_branch_B17 (rec17 : Int32 → Int32 → Int32 → S5 → Option (Unit × S5)) (v1 : Int32) (v2 : Int32) (v3 : Int32) (σ : S5) : Option (Unit × S5) :=
  if v3 < 0 then
    (if (gI σ 4) = 4 then
      (f_X12_branch_b59  (v1) (v2) σ)
    else
      (if (gI σ 4) = 2 then
        (f_X12_branch_b59  (v1) (v2) σ)
      else
        (bd (f_X12_isSign (95) σ) (fun r53 τ53 =>
        if r53 = 0 then
          (f_X12_branch_b64  (v1) (v2) (0) τ53)
        else
          (f_X12_branch_b59  (v1) (v2) τ53)))))
  else
    (gd v3 3200 <| rec17 (v1) ((v2 + 1)) ((xA σ 5 v3)) σ)
def f_X12_branch_L17 : Nat → Int32 → Int32 → Int32 → S5 → Option (Unit × S5)
  | 0, _, _, _, _ => none
  | n + 1, v1, v2, v3, σ => f_X12_branch_B17 (f_X12_branch_L17  n) v1 v2 v3 σ
def f_X12_branch (a1 : Int32) (σ : S5) : Option (Unit × S5) :=
  if (gI σ 7) ≤ 0 then
    (gd a1 3200 <| f_X12_branch_L17  FU (a1) (0) ((xA σ 3 a1)) σ)
  else
    (some ((), σ))
def f_X12_close (a1 : Int32) (σ : S5) : Option (Unit × S5) :=
  bd (f_X12_operand (a1) (pI (pI σ 16 ((gI σ 16) - 1)) 15 ((gI σ 15) - 1))) (fun _ τ22 =>
  some ((), (pI τ22 21 1)))
def f_X12_endBinding_b68 (u0 : Int32) (σ : S5) : Option (Unit × S5) :=
  bd (f_X12_accept (u0) σ) (fun _ τ68 =>
  some ((), (pI (pI τ68 19 1) 18 1)))
def f_X12_endBinding (a1 : Int32) (σ : S5) : Option (Unit × S5) :=
  bd (f_X12_taken  σ) (fun r6 τ6 =>
  gd a1 3200 <| gd (((gI τ6 16) - 1) - 1) 3200 <| bd (f_X12_isSign (44) (pI (pA τ6 3 a1 r6) 16 ((gI τ6 16) - 1))) (fun r35 τ35 =>
  if r35 = 0 then
    (if (gI τ35 4) = 12 then
      (f_X12_endBinding_b68  (1) τ35)
    else
      (f_X12_endBinding_b68  (0) τ35))
  else
    (bd (f_X12_next  τ35) (fun _ τ42 =>
    bd (f_X12_binding ((xA τ6 15 (((gI τ6 16) - 1) - 1))) τ42) (fun _ τ47 =>
    some ((), τ47))))))
def f_X12_endBranch (a1 : Int32) (σ : S5) : Option (Unit × S5) :=
  bd (f_X12_taken  σ) (fun r6 τ6 =>
  gd a1 3200 <| gd (((gI τ6 16) - 1) - 1) 3200 <| bd (f_X12_isSign (59) (pI (pA τ6 3 a1 r6) 16 ((gI τ6 16) - 1))) (fun r35 τ35 =>
  if r35 = 0 then
    (bd (f_X12_isSign (125) τ35) (fun r57 τ57 =>
    bd (f_X12_accept (r57) τ57) (fun _ τ60 =>
    bd (f_X12_close ((xA τ6 15 (((gI τ6 16) - 1) - 1))) τ60) (fun _ τ65 =>
    some ((), τ65)))))
  else
    (bd (f_X12_next  τ35) (fun _ τ42 =>
    bd (f_X12_branch ((xA τ6 15 (((gI τ6 16) - 1) - 1))) τ42) (fun _ τ47 =>
    some ((), τ47))))))
def f_X12_endE_b176 (v2 : Int32) (u0 : Int32) (σ : S5) : Option (Unit × S5) :=
  bd (f_X12_accept (u0) σ) (fun _ τ176 =>
  bd (f_X12_isSign (123) τ176) (fun r183 τ183 =>
  bd (f_X12_accept (r183) τ183) (fun _ τ186 =>
  bd (f_X12_branch (v2) τ186) (fun _ τ191 =>
  some ((), τ191)))))
def f_X12_endE  (σ : S5) : Option (Unit × S5) :=
  bd (f_X12_reduce (1) σ) (fun _ τ2 =>
  gd ((gI τ2 16) - 1) 3200 <| gd ((gI τ2 16) - 1) 3200 <| if (xA τ2 14 ((gI τ2 16) - 1)) = 1 then
    (bd (f_X12_isSign (41) τ2) (fun r68 τ68 =>
    bd (f_X12_accept (r68) τ68) (fun _ τ71 =>
    some ((), (pI (pI (pI (pI τ71 16 ((gI τ71 16) - 1)) 15 ((gI τ71 15) - 1)) 20 0) 21 0)))))
  else if (xA τ2 14 ((gI τ2 16) - 1)) = 2 then
    (bd (f_X12_endBinding ((xA τ2 15 ((gI τ2 16) - 1))) τ2) (fun _ τ109 =>
    some ((), τ109)))
  else if (xA τ2 14 ((gI τ2 16) - 1)) = 3 then
    (bd (f_X12_taken  τ2) (fun r121 τ121 =>
    gd (xA τ2 15 ((gI τ2 16) - 1)) 3200 <| bd (f_X12_close ((xA τ2 15 ((gI τ2 16) - 1))) (pA τ121 7 (xA τ2 15 ((gI τ2 16) - 1)) r121)) (fun _ τ127 =>
    some ((), τ127))))
  else if (xA τ2 14 ((gI τ2 16) - 1)) = 4 then
    (bd (f_X12_taken  τ2) (fun r139 τ139 =>
    gd (xA τ2 15 ((gI τ2 16) - 1)) 3200 <| bd (f_X12_close ((xA τ2 15 ((gI τ2 16) - 1))) (pA τ139 3 (xA τ2 15 ((gI τ2 16) - 1)) r139)) (fun _ τ145 =>
    some ((), τ145))))
  else if (xA τ2 14 ((gI τ2 16) - 1)) = 5 then
    (bd (f_X12_taken  τ2) (fun r157 τ157 =>
    gd (xA τ2 15 ((gI τ2 16) - 1)) 3200 <| if (gI τ157 4) = 14 then
      (f_X12_endE_b176  ((xA τ2 15 ((gI τ2 16) - 1))) (1) (pA τ157 7 (xA τ2 15 ((gI τ2 16) - 1)) r157))
    else
      (f_X12_endE_b176  ((xA τ2 15 ((gI τ2 16) - 1))) (0) (pA τ157 7 (xA τ2 15 ((gI τ2 16) - 1)) r157))))
  else if (xA τ2 14 ((gI τ2 16) - 1)) = 6 then
    (bd (f_X12_endBranch ((xA τ2 15 ((gI τ2 16) - 1))) τ2) (fun _ τ199 =>
    some ((), τ199)))
  else 
    (bd (f_X12_taken  τ2) (fun r211 τ211 =>
    gd (xA τ2 15 ((gI τ2 16) - 1)) 3200 <| bd (f_X12_isSign (59) (pA τ211 3 (xA τ2 15 ((gI τ2 16) - 1)) r211)) (fun r219 τ219 =>
    bd (f_X12_accept (r219) τ219) (fun _ τ222 =>
    some ((), (pI τ222 16 ((gI τ222 16) - 1))))))))
def f_X12_wantE_b60 (u0 : Int32) (σ : S5) : Option (Unit × S5) :=
  g_t u0 <| some ((), (pI (pI σ 19 u0) 18 1))
def f_X12_wantE_b44 (u0 : Int32) (σ : S5) : Option (Unit × S5) :=
  if u0 = 0 then
    (f_X12_wantE_b60  (1) (pI σ 20 0))
  else
    (f_X12_wantE_b60  (0) (pI σ 20 0))
def f_X12_wantE_b43  (σ : S5) : Option (Unit × S5) :=
  f_X12_wantE_b44  (0) σ
def f_X12_wantE_b25  (σ : S5) : Option (Unit × S5) :=
  if (gI σ 7) = 0 then
    (bd (f_X12_application  σ) (fun r33 τ33 =>
    if r33 = 0 then
      (f_X12_wantE_b43   τ33)
    else
      (f_X12_wantE_b44  (1) τ33)))
  else
    (f_X12_wantE_b43   σ)
def f_X12_wantE  (σ : S5) : Option (Unit × S5) :=
  if (gI σ 18) = 0 then
    (f_X12_wantE_b25   σ)
  else
    (bd (f_X12_begins  σ) (fun r8 τ8 =>
    if r8 = 0 then
      (f_X12_wantE_b25   τ8)
    else
      (some ((), (pI (pI τ8 19 1) 18 1)))))
def f_X12_readE_b88 (rec22 : S5 → Option (Unit × S5))  (σ : S5) : Option (Unit × S5) :=
  bd (f_X12_rank ((gI σ 4)) σ) (fun r92 τ92 =>
  if r92 ≤ 0 then
    (bd (f_X12_endE  (pI τ92 20 1)) (fun _ τ111 =>
    rec22  τ111))
  else
    (bd (f_X12_signE  τ92) (fun _ τ99 =>
    rec22  τ99)))
def f_X12_readE_B22 (rec22 : S5 → Option (Unit × S5))  (σ : S5) : Option (Unit × S5) :=
  if (gI σ 7) = 0 then
    (if (gI σ 16) ≤ 0 then
      (some ((), σ))
    else
      (if (gI σ 19) = 0 then
        (if (gI σ 20) = 0 then
          (bd (f_X12_atomEnds  σ) (fun _ τ58 =>
          rec22  τ58))
        else
          (bd (f_X12_rank ((gI σ 4)) σ) (fun r68 τ68 =>
          if r68 ≤ 0 then
            (f_X12_readE_b88 rec22  τ68)
          else
            (if (gI τ68 21) = 0 then
              (f_X12_readE_b88 rec22  τ68)
            else
              (bd (f_X12_wrong  τ68) (fun _ τ82 =>
              rec22  τ82))))))
      else
        (bd (f_X12_wantE  σ) (fun _ τ44 =>
        rec22  τ44))))
  else
    (some ((), σ))
def f_X12_readE_L22 : Nat → S5 → Option (Unit × S5)
  | 0, _ => none
  | n + 1, σ => f_X12_readE_B22 (f_X12_readE_L22  n) σ
def f_X12_readE (a1 : Int32) (σ : S5) : Option (Unit × S5) :=
  bd (f_X12_pile (0) (a1) (0) σ) (fun _ τ4 =>
  f_X12_readE_L22  FU  (pI (pI (pI τ4 19 1) 18 1) 20 1))
def f_X12_readData_b182 (rec2 : Int32 → S5 → Option (Unit × S5)) (v1 : Int32) (σ : S5) : Option (Unit × S5) :=
  rec2 (v1) σ
def f_X12_readData_b173 (rec2 : Int32 → S5 → Option (Unit × S5)) (u0 : Int32) (σ : S5) : Option (Unit × S5) :=
  if u0 = 0 then
    (f_X12_readData_b182 rec2 (u0) σ)
  else
    (bd (f_X12_next  σ) (fun _ τ179 =>
    f_X12_readData_b182 rec2 (u0) τ179))
def f_X12_readData_b172 (rec2 : Int32 → S5 → Option (Unit × S5))  (σ : S5) : Option (Unit × S5) :=
  f_X12_readData_b173 rec2 (0) σ
def f_X12_readData_b152 (rec2 : Int32 → S5 → Option (Unit × S5))  (σ : S5) : Option (Unit × S5) :=
  if (gI σ 7) = 0 then
    (bd (f_X12_isSign (124) σ) (fun r162 τ162 =>
    if r162 = 0 then
      (f_X12_readData_b172 rec2  τ162)
    else
      (f_X12_readData_b173 rec2 (1) τ162)))
  else
    (f_X12_readData_b172 rec2  σ)
def f_X12_readData_b111 (rec2 : Int32 → S5 → Option (Unit × S5)) (v2 : Int64) (v4 : Int32) (u0 : Int32) (σ : S5) : Option (Unit × S5) :=
  bd (f_X12_accept (u0) σ) (fun _ τ111 =>
  if (gI τ111 7) = 0 then
    (gd (gI τ111 14) 30 <| gd (gI τ111 14) 30 <| f_X12_readData_b152 rec2  (pI (pA (pB τ111 3 (gI τ111 14) v2) 13 (gI τ111 14) v4) 14 ((gI τ111 14) + 1)))
  else
    (f_X12_readData_b152 rec2  τ111))
def f_X12_readData_b110 (rec2 : Int32 → S5 → Option (Unit × S5)) (v2 : Int64) (v4 : Int32) (σ : S5) : Option (Unit × S5) :=
  f_X12_readData_b111 rec2 (v2) (v4) (0) σ
def f_X12_readData_b82 (rec2 : Int32 → S5 → Option (Unit × S5)) (v2 : Int64) (u0 : Int32) (σ : S5) : Option (Unit × S5) :=
  bd (f_X12_accept (u0) σ) (fun _ τ82 =>
  if (gI τ82 4) = 2 then
    (if 4 < (gI τ82 6) then
      (f_X12_readData_b110 rec2 (v2) ((gI τ82 6)) τ82)
    else
      (f_X12_readData_b111 rec2 (v2) ((gI τ82 6)) (1) τ82))
  else
    (f_X12_readData_b110 rec2 (v2) ((gI τ82 6)) τ82))
def f_X12_readData_b63 (rec2 : Int32 → S5 → Option (Unit × S5))  (σ : S5) : Option (Unit × S5) :=
  if (gI σ 4) = 4 then
    (f_X12_readData_b82 rec2 ((gJ σ 0)) (1) σ)
  else
    (f_X12_readData_b82 rec2 ((gJ σ 0)) (0) σ)
def f_X12_readData_b37 (rec2 : Int32 → S5 → Option (Unit × S5))  (σ : S5) : Option (Unit × S5) :=
  if (gI σ 4) = 4 then
    (if (gI σ 14) = 30 then
      (bd (f_X12_fail (4) ((gI σ 5)) σ) (fun _ τ60 =>
      f_X12_readData_b63 rec2  τ60))
    else
      (f_X12_readData_b63 rec2  σ))
  else
    (f_X12_readData_b63 rec2  σ)
def f_X12_readData_B2 (rec2 : Int32 → S5 → Option (Unit × S5)) (v1 : Int32) (σ : S5) : Option (Unit × S5) :=
  if v1 = 0 then
    (bd (f_X12_isSign (59) σ) (fun r189 τ189 =>
    bd (f_X12_accept (r189) τ189) (fun _ τ192 =>
    some ((), τ192))))
  else
    (if (gI σ 4) = 4 then
      (bd (f_X12_findConstructor ((gJ σ 0)) σ) (fun r19 τ19 =>
      if r19 < 0 then
        (f_X12_readData_b37 rec2  τ19)
      else
        (bd (f_X12_fail (2) ((gI τ19 5)) τ19) (fun _ τ31 =>
        f_X12_readData_b63 rec2  τ31))))
    else
      (f_X12_readData_b37 rec2  σ))
def f_X12_readData_L2 : Nat → Int32 → S5 → Option (Unit × S5)
  | 0, _, _ => none
  | n + 1, v1, σ => f_X12_readData_B2 (f_X12_readData_L2  n) v1 σ
def f_X12_readData  (σ : S5) : Option (Unit × S5) :=
  f_X12_readData_L2  FU (1) σ
def f_X12_readFunction_b180 (v1 : Int32) (σ : S5) : Option (Unit × S5) :=
  bd (f_X12_isSign (61) σ) (fun r184 τ184 =>
  bd (f_X12_accept (r184) τ184) (fun _ τ187 =>
  if (gI τ187 7) = 0 then
    (bd (f_X12_readE (v1) τ187) (fun _ τ199 =>
    some ((), τ199)))
  else
    (some ((), τ187))))
def f_X12_readFunction_b123 (v1 : Int32) (v2 : Int32) (u0 : Int32) (σ : S5) : Option (Unit × S5) :=
  bd (f_X12_accept (u0) σ) (fun _ τ123 =>
  if (gI τ123 7) = 0 then
    (gd v1 3200 <| gd v2 640 <| gd v1 3200 <| gd v2 640 <| gd v2 640 <| bd (f_X12_parameters (v1) (0) (pI (pA (pA (pB τ123 2 v2 (xB τ123 0 v1)) 11 v2 (xA τ123 6 v1)) 12 v2 v1) 13 ((gI τ123 13) + 1))) (fun _ τ177 =>
    f_X12_readFunction_b180  (v1) τ177))
  else
    (f_X12_readFunction_b180  (v1) τ123))
def f_X12_readFunction_b93 (u0 : Int32) (σ : S5) : Option (Unit × S5) :=
  gd u0 3200 <| if (gI σ 4) = 3 then
    (f_X12_readFunction_b123  (u0) ((gI σ 13)) (1) (pB σ 0 u0 (gJ σ 0)))
  else
    (f_X12_readFunction_b123  (u0) ((gI σ 13)) (0) (pB σ 0 u0 (gJ σ 0)))
def f_X12_readFunction_b73  (σ : S5) : Option (Unit × S5) :=
  if 3200 ≤ (gI σ 9) then
    (f_X12_readFunction_b93  (0) σ)
  else
    (bd (f_X12_node (12) σ) (fun r86 τ86 =>
    f_X12_readFunction_b93  (r86) τ86))
def f_X12_readFunction_b41 (rec2 : Int32 → S5 → Option (Unit × S5)) (v1 : Int32) (σ : S5) : Option (Unit × S5) :=
  rec2 ((v1 + 1)) σ
def f_X12_readFunction_B2 (rec2 : Int32 → S5 → Option (Unit × S5)) (v1 : Int32) (σ : S5) : Option (Unit × S5) :=
  if (gI σ 13) ≤ v1 then
    (if (gI σ 4) = 3 then
      (if (gI σ 13) = 30 then
        (bd (f_X12_fail (4) ((gI σ 5)) σ) (fun _ τ70 =>
        f_X12_readFunction_b73   τ70))
      else
        (f_X12_readFunction_b73   σ))
    else
      (f_X12_readFunction_b73   σ))
  else
    (if (gI σ 4) = 3 then
      (gd v1 640 <| if (lg_cmp (xB σ 2 v1) (gJ σ 0)) = 0 then
        (bd (f_X12_fail (2) ((gI σ 5)) σ) (fun _ τ38 =>
        f_X12_readFunction_b41 rec2 (v1) τ38))
      else
        (f_X12_readFunction_b41 rec2 (v1) σ))
    else
      (f_X12_readFunction_b41 rec2 (v1) σ))
def f_X12_readFunction_L2 : Nat → Int32 → S5 → Option (Unit × S5)
  | 0, _, _ => none
  | n + 1, v1, σ => f_X12_readFunction_B2 (f_X12_readFunction_L2  n) v1 σ
def f_X12_readFunction  (σ : S5) : Option (Unit × S5) :=
  f_X12_readFunction_L2  FU (0) σ
def f_X12_readProgram_b172 (rec145 : Int32 → S5 → Option (Unit × S5)) (u0 : Int32) (σ : S5) : Option (Unit × S5) :=
  rec145 (u0) σ
def f_X12_readProgram_b171 (rec145 : Int32 → S5 → Option (Unit × S5))  (σ : S5) : Option (Unit × S5) :=
  f_X12_readProgram_b172 rec145 (0) σ
def f_X12_readProgram_B145 (rec145 : Int32 → S5 → Option (Unit × S5)) (v1 : Int32) (σ : S5) : Option (Unit × S5) :=
  if v1 = 0 then
    (some ((), σ))
  else
    (bd (f_X12_readFunction  σ) (fun _ τ150 =>
    if (gI τ150 7) = 0 then
      (if (gI τ150 4) = 0 then
        (f_X12_readProgram_b171 rec145  τ150)
      else
        (f_X12_readProgram_b172 rec145 (1) τ150))
    else
      (f_X12_readProgram_b171 rec145  τ150)))
def f_X12_readProgram_L145 : Nat → Int32 → S5 → Option (Unit × S5)
  | 0, _, _ => none
  | n + 1, v1, σ => f_X12_readProgram_B145 (f_X12_readProgram_L145  n) v1 σ
def f_X12_readProgram_b144 (u0 : Int32) (σ : S5) : Option (Unit × S5) :=
  f_X12_readProgram_L145  FU (u0) σ
def f_X12_readProgram_b132  (σ : S5) : Option (Unit × S5) :=
  if (gI σ 7) = 0 then
    (f_X12_readProgram_b144  (1) σ)
  else
    (f_X12_readProgram_b144  (0) σ)
def f_X12_readProgram_B105 (rec105 : S5 → Option (Unit × S5))  (σ : S5) : Option (Unit × S5) :=
  if (gI σ 7) = 0 then
    (if (gI σ 4) = 10 then
      (bd (f_X12_next  σ) (fun _ τ122 =>
      bd (f_X12_readData  τ122) (fun _ τ126 =>
      rec105  τ126)))
    else
      (f_X12_readProgram_b132   σ))
  else
    (f_X12_readProgram_b132   σ)
def f_X12_readProgram_L105 : Nat → S5 → Option (Unit × S5)
  | 0, _ => none
  | n + 1, σ => f_X12_readProgram_B105 (f_X12_readProgram_L105  n) σ
def f_X12_readProgram  (σ : S5) : Option (Unit × S5) :=
  bd (f_X12_pack (70) (97) (108) (115) (101) (pI (pI (pI (pI (pI (pI (pI (pI (pI (pI σ 7 0) 9 0) 10 0) 11 0) 13 0) 15 0) 16 0) 17 0) 3 0) 14 2)) (fun r65 τ65 =>
  bd (f_X12_pack (84) (114) (117) (101) (0) (pB τ65 3 0 r65)) (fun r83 τ83 =>
  bd (f_X12_next  (pA (pA (pB τ83 3 1 r83) 13 0 0) 13 1 0)) (fun _ τ102 =>
  f_X12_readProgram_L105  FU  τ102)))
def f_X12_newVariable (a1 : Int64) (σ : S5) : Option (Int32 × S5) :=
  gd ((gI σ 25) - 1) 64 <| gd (gI σ 23) 3200 <| gd (xA σ 27 ((gI σ 25) - 1)) 640 <| gd (gI σ 23) 3200 <| gd (xA σ 27 ((gI σ 25) - 1)) 640 <| gd (xA σ 27 ((gI σ 25) - 1)) 640 <| gd (gI σ 24) 3200 <| gd (gI σ 24) 3200 <| some ((gI σ 23), (pI (pA (pB (pA (pA (pA (pI σ 23 ((gI σ 23) + 1)) 22 (gI σ 23) (xA σ 27 ((gI σ 25) - 1))) 23 (gI σ 23) (xA σ 24 (xA σ 27 ((gI σ 25) - 1)))) 24 (xA σ 27 ((gI σ 25) - 1)) ((xA σ 24 (xA σ 27 ((gI σ 25) - 1))) + 1)) 4 (gI σ 24) a1) 26 (gI σ 24) (gI σ 23)) 24 ((gI σ 24) + 1)))
def f_X12_giveNames_B12 (rec12 : Int32 → Int32 → S5 → Option (Unit × S5)) (v1 : Int32) (v2 : Int32) (σ : S5) : Option (Unit × S5) :=
  gd v1 3200 <| if (xA σ 10 v1) ≤ v2 then
    (some ((), σ))
  else
    (gd v1 3200 <| gd ((xA σ 9 v1) + v2) 3200 <| bd (f_X12_newVariable ((xB σ 1 ((xA σ 9 v1) + v2))) σ) (fun r36 τ36 =>
    rec12 (v1) ((v2 + 1)) τ36))
def f_X12_giveNames_L12 : Nat → Int32 → Int32 → S5 → Option (Unit × S5)
  | 0, _, _, _ => none
  | n + 1, v1, v2, σ => f_X12_giveNames_B12 (f_X12_giveNames_L12  n) v1 v2 σ
def f_X12_giveNames (a1 : Int32) (σ : S5) : Option (Unit × S5) :=
  gd a1 3200 <| f_X12_giveNames_L12  FU (a1) (0) (pA σ 25 a1 (gI σ 23))
def f_X12_numberAll_B107 (rec107 : Int32 → S5 → Option (Unit × S5)) (v1 : Int32) (σ : S5) : Option (Unit × S5) :=
  if (gI σ 22) ≤ v1 then
    (some ((), σ))
  else
    (gd v1 640 <| gd v1 640 <| rec107 ((v1 + 1)) (pA (pA σ 20 v1 0) 24 v1 0))
def f_X12_numberAll_L107 : Nat → Int32 → S5 → Option (Unit × S5)
  | 0, _, _ => none
  | n + 1, v1, σ => f_X12_numberAll_B107 (f_X12_numberAll_L107  n) v1 σ
def f_X12_numberAll_b99 (rec10 : Int32 → S5 → Option (Unit × S5)) (v1 : Int32) (σ : S5) : Option (Unit × S5) :=
  rec10 ((v1 + 1)) σ
def f_X12_numberAll_b54 (rec10 : Int32 → S5 → Option (Unit × S5)) (v1 : Int32) (σ : S5) : Option (Unit × S5) :=
  gd v1 3200 <| gd (gI σ 22) 640 <| gd v1 3200 <| gd (gI σ 22) 640 <| f_X12_numberAll_b99 rec10 (v1) (pI (pA (pA (pA σ 19 v1 (gI σ 22)) 12 (gI σ 22) v1) 11 (gI σ 22) (xA σ 6 v1)) 22 ((gI σ 22) + 1))
def f_X12_numberAll_B10 (rec10 : Int32 → S5 → Option (Unit × S5)) (v1 : Int32) (σ : S5) : Option (Unit × S5) :=
  if (gI σ 9) ≤ v1 then
    (f_X12_numberAll_L107  FU (0) σ)
  else
    (gd v1 3200 <| gd v1 3200 <| if (xA σ 2 v1) = 2 then
      (f_X12_numberAll_b54 rec10 (v1) (pA σ 19 v1 (-1)))
    else
      (gd v1 3200 <| if (xA σ 2 v1) = 1 then
        (gd v1 3200 <| if (xA σ 10 v1) ≤ 0 then
          (f_X12_numberAll_b99 rec10 (v1) (pA σ 19 v1 (-1)))
        else
          (f_X12_numberAll_b54 rec10 (v1) (pA σ 19 v1 (-1))))
      else
        (f_X12_numberAll_b99 rec10 (v1) (pA σ 19 v1 (-1)))))
def f_X12_numberAll_L10 : Nat → Int32 → S5 → Option (Unit × S5)
  | 0, _, _ => none
  | n + 1, v1, σ => f_X12_numberAll_B10 (f_X12_numberAll_L10  n) v1 σ
def f_X12_numberAll  (σ : S5) : Option (Unit × S5) :=
  f_X12_numberAll_L10  FU (0) (pI σ 22 (gI σ 13))
def f_X12_addFree_b41 (rec5 : Int32 → Int32 → Int32 → Int32 → S5 → Option (Unit × S5)) (v1 : Int32) (v2 : Int32) (v4 : Int32) (u0 : Int32) (σ : S5) : Option (Unit × S5) :=
  rec5 (v1) (v2) (u0) ((v4 + 1)) σ
def f_X12_addFree_b36 (rec5 : Int32 → Int32 → Int32 → Int32 → S5 → Option (Unit × S5)) (v1 : Int32) (v2 : Int32) (v4 : Int32) (σ : S5) : Option (Unit × S5) :=
  f_X12_addFree_b41 rec5 (v1) (v2) (v4) (1) σ
def f_X12_addFree_B5 (rec5 : Int32 → Int32 → Int32 → Int32 → S5 → Option (Unit × S5)) (v1 : Int32) (v2 : Int32) (v3 : Int32) (v4 : Int32) (σ : S5) : Option (Unit × S5) :=
  gd v1 640 <| if (xA σ 20 v1) ≤ v4 then
    (if v3 = 0 then
      (gd v1 640 <| if 9 ≤ (xA σ 20 v1) then
        (some ((), σ))
      else
        (gd v1 640 <| gd ((9 * v1) + (xA σ 20 v1)) 5760 <| gd v1 640 <| gd v1 640 <| some ((), (pA (pA σ 21 ((9 * v1) + (xA σ 20 v1)) v2) 20 v1 ((xA σ 20 v1) + 1)))))
    else
      (some ((), σ)))
  else
    (if v3 = 0 then
      (gd ((9 * v1) + v4) 5760 <| if (xA σ 21 ((9 * v1) + v4)) = v2 then
        (f_X12_addFree_b36 rec5 (v1) (v2) (v4) σ)
      else
        (f_X12_addFree_b41 rec5 (v1) (v2) (v4) (0) σ))
    else
      (f_X12_addFree_b36 rec5 (v1) (v2) (v4) σ))
def f_X12_addFree_L5 : Nat → Int32 → Int32 → Int32 → Int32 → S5 → Option (Unit × S5)
  | 0, _, _, _, _, _ => none
  | n + 1, v1, v2, v3, v4, σ => f_X12_addFree_B5 (f_X12_addFree_L5  n) v1 v2 v3 v4 σ
def f_X12_addFree (a1 : Int32) (a2 : Int32) (σ : S5) : Option (Unit × S5) :=
  f_X12_addFree_L5  FU (a1) (a2) (0) (0) σ
def f_X12_use_b133 (v1 : Int32) (v3 : Int32) (σ : S5) : Option (Unit × S5) :=
  gd v1 3200 <| gd v1 3200 <| if v3 = (gI σ 13) then
    (gd v1 3200 <| bd (f_X12_fail (5) ((xA σ 6 v1)) (pA (pA σ 8 v1 0) 7 v1 v3)) (fun _ τ163 =>
    some ((), τ163)))
  else
    (some ((), (pA (pA σ 8 v1 0) 7 v1 v3)))
def f_X12_use_B103 (rec103 : Int32 → Int32 → S5 → Option (Unit × S5)) (v1 : Int32) (v3 : Int32) (σ : S5) : Option (Unit × S5) :=
  if (gI σ 13) ≤ v3 then
    (f_X12_use_b133  (v1) (v3) σ)
  else
    (gd v3 640 <| gd v1 3200 <| if (lg_cmp (xB σ 2 v3) (xB σ 0 v1)) = 0 then
      (f_X12_use_b133  (v1) (v3) σ)
    else
      (rec103 (v1) ((v3 + 1)) σ))
def f_X12_use_L103 : Nat → Int32 → Int32 → S5 → Option (Unit × S5)
  | 0, _, _, _ => none
  | n + 1, v1, v3, σ => f_X12_use_B103 (f_X12_use_L103  n) v1 v3 σ
def f_X12_use_B66 (rec66 : Int32 → Int32 → S5 → Option (Unit × S5)) (v3 : Int32) (v4 : Int32) (σ : S5) : Option (Unit × S5) :=
  gd v4 64 <| gd v3 3200 <| if (xA σ 27 v4) = (xA σ 22 v3) then
    (some ((), σ))
  else
    (gd v4 64 <| bd (f_X12_addFree ((xA σ 27 v4)) (v3) σ) (fun _ τ91 =>
    rec66 (v3) ((v4 + (-1))) τ91))
def f_X12_use_L66 : Nat → Int32 → Int32 → S5 → Option (Unit × S5)
  | 0, _, _, _ => none
  | n + 1, v3, v4, σ => f_X12_use_B66 (f_X12_use_L66  n) v3 v4 σ
def f_X12_use_b33 (v1 : Int32) (v2 : Int32) (σ : S5) : Option (Unit × S5) :=
  if v2 < 0 then
    (f_X12_use_L103  FU (v1) (0) σ)
  else
    (gd v2 3200 <| gd v1 3200 <| gd v1 3200 <| f_X12_use_L66  FU ((xA σ 26 v2)) (((gI σ 25) - 1)) (pA (pA σ 8 v1 1) 7 v1 (xA σ 26 v2)))
def f_X12_use_B7 (rec7 : Int32 → Int32 → S5 → Option (Unit × S5)) (v1 : Int32) (v2 : Int32) (σ : S5) : Option (Unit × S5) :=
  if v2 < 0 then
    (f_X12_use_b33  (v1) (v2) σ)
  else
    (gd v2 3200 <| gd v1 3200 <| if (lg_cmp (xB σ 4 v2) (xB σ 0 v1)) = 0 then
      (f_X12_use_b33  (v1) (v2) σ)
    else
      (rec7 (v1) ((v2 + (-1))) σ))
def f_X12_use_L7 : Nat → Int32 → Int32 → S5 → Option (Unit × S5)
  | 0, _, _, _ => none
  | n + 1, v1, v2, σ => f_X12_use_B7 (f_X12_use_L7  n) v1 v2 σ
def f_X12_use (a1 : Int32) (σ : S5) : Option (Unit × S5) :=
  f_X12_use_L7  FU (a1) (((gI σ 24) - 1)) σ
def f_X12_comeInto_B60 (rec60 : Int32 → S5 → Option (Unit × S5)) (v2 : Int32) (σ : S5) : Option (Unit × S5) :=
  if v2 < 0 then
    (some ((), σ))
  else
    (gd v2 3200 <| bd (f_X12_newVariable ((xB σ 0 v2)) σ) (fun r71 τ71 =>
    gd v2 3200 <| rec60 ((xA τ71 5 v2)) τ71))
def f_X12_comeInto_L60 : Nat → Int32 → S5 → Option (Unit × S5)
  | 0, _, _ => none
  | n + 1, v2, σ => f_X12_comeInto_B60 (f_X12_comeInto_L60  n) v2 σ
def f_X12_comeInto_b34 (v1 : Int32) (σ : S5) : Option (Unit × S5) :=
  gd v1 3200 <| if (xA σ 2 v1) = 0 then
    (gd v1 3200 <| gd v1 3200 <| f_X12_comeInto_L60  FU ((xA σ 3 v1)) (pA σ 25 v1 (gI σ 23)))
  else
    (gd v1 3200 <| if (xA σ 2 v1) = 8 then
      (bd (f_X12_use (v1) σ) (fun _ τ101 =>
      some ((), τ101)))
    else
      (bd (f_X12_giveNames (v1) σ) (fun _ τ109 =>
      some ((), τ109))))
def f_X12_comeInto (a1 : Int32) (σ : S5) : Option (Unit × S5) :=
  gd a1 3200 <| if (xA σ 19 a1) < 0 then
    (f_X12_comeInto_b34  (a1) σ)
  else
    (gd a1 3200 <| gd (gI σ 25) 64 <| f_X12_comeInto_b34  (a1) (pI (pA σ 27 (gI σ 25) (xA σ 19 a1)) 25 ((gI σ 25) + 1)))
def f_X12_goOutOf_B35 (rec35 : Int32 → S5 → Option (Unit × S5)) (v2 : Int32) (σ : S5) : Option (Unit × S5) :=
  if v2 < 0 then
    (some ((), σ))
  else
    (gd v2 3200 <| rec35 ((xA σ 5 v2)) (pI σ 24 ((gI σ 24) - 1)))
def f_X12_goOutOf_L35 : Nat → Int32 → S5 → Option (Unit × S5)
  | 0, _, _ => none
  | n + 1, v2, σ => f_X12_goOutOf_B35 (f_X12_goOutOf_L35  n) v2 σ
def f_X12_goOutOf_b19 (v1 : Int32) (σ : S5) : Option (Unit × S5) :=
  gd v1 3200 <| if (xA σ 2 v1) = 0 then
    (gd v1 3200 <| f_X12_goOutOf_L35  FU ((xA σ 3 v1)) σ)
  else
    (gd v1 3200 <| some ((), (pI σ 24 ((gI σ 24) - (xA σ 10 v1)))))
def f_X12_goOutOf (a1 : Int32) (σ : S5) : Option (Unit × S5) :=
  gd a1 3200 <| if (xA σ 19 a1) < 0 then
    (f_X12_goOutOf_b19  (a1) σ)
  else
    (f_X12_goOutOf_b19  (a1) (pI σ 25 ((gI σ 25) - 1)))
def f_X12_childAt_b193 (v3 : Int32) (σ : S5) : Option (Int32 × S5) :=
  some (v3, σ)
def f_X12_childAt_b109 (v1 : Int32) (v3 : Int32) (u0 : Int32) (σ : S5) : Option (Int32 × S5) :=
  if u0 = 0 then
    (some (v3, σ))
  else
    (gd v1 3200 <| some ((xA σ 7 v1), σ))
def f_X12_childAt_b108 (v1 : Int32) (v3 : Int32) (σ : S5) : Option (Int32 × S5) :=
  f_X12_childAt_b109  (v1) (v3) (0) σ
def f_X12_childAt (a1 : Int32) (a2 : Int32) (a3 : Int32) (σ : S5) : Option (Int32 × S5) :=
  gd a1 3200 <| if (xA σ 2 a1) = 0 then
    (gd a1 3200 <| if (xA σ 2 a1) = 3 then
      (if a2 = 0 then
        (f_X12_childAt_b109  (a1) (a3) (1) σ)
      else
        (f_X12_childAt_b109  (a1) (a3) (0) σ))
    else
      (if 0 ≤ a3 then
        (f_X12_childAt_b108  (a1) (a3) σ)
      else
        (if 100 ≤ a2 then
          (f_X12_childAt_b108  (a1) (a3) σ)
        else
          (f_X12_childAt_b109  (a1) (a3) (1) σ))))
  else if (xA σ 2 a1) = 1 then
    (if a2 = 0 then
      (gd a1 3200 <| some ((xA σ 3 a1), σ))
    else
      (some (((-1) : Int32), σ)))
  else if (xA σ 2 a1) = 2 then
    (if a2 = 0 then
      (gd a1 3200 <| some ((xA σ 3 a1), σ))
    else
      (some (((-1) : Int32), σ)))
  else if (xA σ 2 a1) = 3 then
    (gd a1 3200 <| if (xA σ 2 a1) = 3 then
      (if a2 = 0 then
        (f_X12_childAt_b109  (a1) (a3) (1) σ)
      else
        (f_X12_childAt_b109  (a1) (a3) (0) σ))
    else
      (if 0 ≤ a3 then
        (f_X12_childAt_b108  (a1) (a3) σ)
      else
        (if 100 ≤ a2 then
          (f_X12_childAt_b108  (a1) (a3) σ)
        else
          (f_X12_childAt_b109  (a1) (a3) (1) σ))))
  else if (xA σ 2 a1) = 4 then
    (if a2 = 0 then
      (gd a1 3200 <| some ((xA σ 3 a1), σ))
    else
      (some (((-1) : Int32), σ)))
  else if (xA σ 2 a1) = 5 then
    (if a2 = 0 then
      (gd a1 3200 <| some ((xA σ 3 a1), σ))
    else
      (if a2 = 1 then
        (gd a1 3200 <| some ((xA σ 4 a1), σ))
      else
        (some (((-1) : Int32), σ))))
  else if (xA σ 2 a1) = 6 then
    (gd a1 3200 <| if (xA σ 2 a1) = 6 then
      (f_X12_childAt_b193  (a3) σ)
    else
      (gd a1 3200 <| if (xA σ 2 a1) = 7 then
        (f_X12_childAt_b193  (a3) σ)
      else
        (some (((-1) : Int32), σ))))
  else if (xA σ 2 a1) = 7 then
    (gd a1 3200 <| if (xA σ 2 a1) = 6 then
      (f_X12_childAt_b193  (a3) σ)
    else
      (gd a1 3200 <| if (xA σ 2 a1) = 7 then
        (f_X12_childAt_b193  (a3) σ)
      else
        (some (((-1) : Int32), σ))))
  else if (xA σ 2 a1) = 8 then
    (gd a1 3200 <| if (xA σ 2 a1) = 6 then
      (f_X12_childAt_b193  (a3) σ)
    else
      (gd a1 3200 <| if (xA σ 2 a1) = 7 then
        (f_X12_childAt_b193  (a3) σ)
      else
        (some (((-1) : Int32), σ))))
  else if (xA σ 2 a1) = 9 then
    (gd a1 3200 <| if (xA σ 2 a1) = 6 then
      (f_X12_childAt_b193  (a3) σ)
    else
      (gd a1 3200 <| if (xA σ 2 a1) = 7 then
        (f_X12_childAt_b193  (a3) σ)
      else
        (some (((-1) : Int32), σ))))
  else if (xA σ 2 a1) = 10 then
    (gd a1 3200 <| if (xA σ 2 a1) = 6 then
      (f_X12_childAt_b193  (a3) σ)
    else
      (gd a1 3200 <| if (xA σ 2 a1) = 7 then
        (f_X12_childAt_b193  (a3) σ)
      else
        (some (((-1) : Int32), σ))))
  else if (xA σ 2 a1) = 11 then
    (gd a1 3200 <| if (xA σ 2 a1) = 6 then
      (f_X12_childAt_b193  (a3) σ)
    else
      (gd a1 3200 <| if (xA σ 2 a1) = 7 then
        (f_X12_childAt_b193  (a3) σ)
      else
        (some (((-1) : Int32), σ))))
  else if (xA σ 2 a1) = 12 then
    (if a2 = 0 then
      (gd a1 3200 <| some ((xA σ 3 a1), σ))
    else
      (some (((-1) : Int32), σ)))
  else 
    (gd a1 3200 <| if (xA σ 2 a1) = 6 then
      (f_X12_childAt_b193  (a3) σ)
    else
      (gd a1 3200 <| if (xA σ 2 a1) = 7 then
        (f_X12_childAt_b193  (a3) σ)
      else
        (some (((-1) : Int32), σ))))
def f_X12_hasRow_b21  (σ : S5) : Option (Int32 × S5) :=
  some ((1 : Int32), σ)
def f_X12_hasRow (a0 : Int32) (σ : S5) : Option (Int32 × S5) :=
  if a0 = 0 then
    (f_X12_hasRow_b21   σ)
  else
    (if a0 = 3 then
      (f_X12_hasRow_b21   σ)
    else
      (if a0 = 6 then
        (f_X12_hasRow_b21   σ)
      else
        (if a0 = 7 then
          (f_X12_hasRow_b21   σ)
        else
          (some ((0 : Int32), σ)))))
def f_X12_nextChild_b102 (v1 : Int32) (v2 : Int32) (v4 : Int32) (v5 : Int32) (v6 : Int32) (u0 : Int32) (u1 : Int32) (σ : S5) : Option (Int32 × S5) :=
  gd u1 3200 <| gd v2 3200 <| bd (f_X12_hasRow ((xA σ 2 v2)) (pA σ 29 u1 u0)) (fun r109 τ109 =>
  if r109 = 0 then
    (some (v5, τ109))
  else
    (if v6 = 0 then
      (if v4 < 0 then
        (some (v5, τ109))
      else
        (gd v4 3200 <| gd v1 3200 <| some (v5, (pA τ109 30 v1 (xA τ109 5 v4)))))
    else
      (some (v5, τ109))))
def f_X12_nextChild_b99 (v1 : Int32) (v2 : Int32) (v3 : Int32) (v4 : Int32) (v5 : Int32) (v6 : Int32) (u0 : Int32) (σ : S5) : Option (Int32 × S5) :=
  f_X12_nextChild_b102  (v1) (v2) (v4) (v5) (v6) ((v3 + 1)) (u0) σ
def f_X12_nextChild_b73 (v1 : Int32) (v2 : Int32) (v3 : Int32) (v4 : Int32) (v5 : Int32) (u0 : Int32) (σ : S5) : Option (Int32 × S5) :=
  if u0 = 0 then
    (f_X12_nextChild_b99  (v1) (v2) (v3) (v4) (v5) (u0) (v1) σ)
  else
    (gd v2 3200 <| if (xA σ 2 v2) = 0 then
      (f_X12_nextChild_b102  (v1) (v2) (v4) (v5) (u0) (100) (v1) σ)
    else
      (f_X12_nextChild_b99  (v1) (v2) (v3) (v4) (v5) (u0) (v1) σ))
def f_X12_nextChild_b72 (v1 : Int32) (v2 : Int32) (v3 : Int32) (v4 : Int32) (v5 : Int32) (σ : S5) : Option (Int32 × S5) :=
  f_X12_nextChild_b73  (v1) (v2) (v3) (v4) (v5) (0) σ
def f_X12_nextChild (a1 : Int32) (σ : S5) : Option (Int32 × S5) :=
  gd a1 3200 <| gd a1 3200 <| gd a1 3200 <| bd (f_X12_childAt ((xA σ 28 a1)) ((xA σ 29 a1)) ((xA σ 30 a1)) σ) (fun r27 τ27 =>
  gd (xA σ 28 a1) 3200 <| if (xA τ27 2 (xA σ 28 a1)) = 3 then
    (if (xA σ 29 a1) = 0 then
      (f_X12_nextChild_b73  (a1) ((xA σ 28 a1)) ((xA σ 29 a1)) ((xA σ 30 a1)) (r27) (1) τ27)
    else
      (f_X12_nextChild_b73  (a1) ((xA σ 28 a1)) ((xA σ 29 a1)) ((xA σ 30 a1)) (r27) (0) τ27))
  else
    (gd (xA σ 28 a1) 3200 <| if (xA τ27 2 (xA σ 28 a1)) = 0 then
      (if 0 ≤ (xA σ 30 a1) then
        (f_X12_nextChild_b72  (a1) ((xA σ 28 a1)) ((xA σ 29 a1)) ((xA σ 30 a1)) (r27) τ27)
      else
        (f_X12_nextChild_b73  (a1) ((xA σ 28 a1)) ((xA σ 29 a1)) ((xA σ 30 a1)) (r27) (1) τ27))
    else
      (f_X12_nextChild_b72  (a1) ((xA σ 28 a1)) ((xA σ 29 a1)) ((xA σ 30 a1)) (r27) τ27)))
def f_X12_beginAt_b41 (u0 : Int32) (u1 : Int32) (σ : S5) : Option (Unit × S5) :=
  gd u1 3200 <| some ((), (pA σ 30 u1 u0))
def f_X12_beginAt (a1 : Int32) (a2 : Int32) (σ : S5) : Option (Unit × S5) :=
  gd a1 3200 <| gd a1 3200 <| gd a2 3200 <| bd (f_X12_hasRow ((xA σ 2 a2)) (pA (pA σ 28 a1 a2) 29 a1 0)) (fun r25 τ25 =>
  if r25 = 0 then
    (f_X12_beginAt_b41  ((-1)) (a1) τ25)
  else
    (gd a2 3200 <| f_X12_beginAt_b41  ((xA τ25 3 a2)) (a1) τ25))
def f_X12_find_b101 (rec12 : Int32 → S5 → Option (Unit × S5)) (rec55 : Int32 → Int32 → S5 → Option (Unit × S5)) (v1 : Int32) (v2 : Int32) (σ : S5) : Option (Unit × S5) :=
  rec55 (v1) (v2) σ
def f_X12_find_B55 (rec12 : Int32 → S5 → Option (Unit × S5)) (rec55 : Int32 → Int32 → S5 → Option (Unit × S5)) (v1 : Int32) (v2 : Int32) (σ : S5) : Option (Unit × S5) :=
  if v2 ≤ 0 then
    (rec12 ((v1 + 1)) σ)
  else
    (bd (f_X12_nextChild ((v2 - 1)) σ) (fun r63 τ63 =>
    if 0 ≤ r63 then
      (bd (f_X12_beginAt (v2) (r63) τ63) (fun _ τ90 =>
      bd (f_X12_comeInto (r63) τ90) (fun _ τ95 =>
      f_X12_find_b101 rec12 rec55 (v1) ((v2 + 1)) τ95)))
    else
      (gd (v2 + (-1)) 3200 <| bd (f_X12_goOutOf ((xA τ63 28 (v2 + (-1)))) τ63) (fun _ τ81 =>
      f_X12_find_b101 rec12 rec55 (v1) ((v2 + (-1))) τ81))))
def f_X12_find_L55 (rec12 : Int32 → S5 → Option (Unit × S5)) : Nat → Int32 → Int32 → S5 → Option (Unit × S5)
  | 0, _, _, _ => none
  | n + 1, v1, v2, σ => f_X12_find_B55 rec12 (f_X12_find_L55 rec12 n) v1 v2 σ
def f_X12_find_B12 (rec12 : Int32 → S5 → Option (Unit × S5)) (v1 : Int32) (σ : S5) : Option (Unit × S5) :=
  if (gI σ 13) ≤ v1 then
    (some ((), σ))
  else
    (gd v1 640 <| bd (f_X12_beginAt (0) ((xA σ 12 v1)) (pA (pI σ 25 1) 27 0 v1)) (fun _ τ42 =>
    bd (f_X12_comeInto ((xA τ42 28 0)) τ42) (fun _ τ52 =>
    f_X12_find_L55 rec12 FU (v1) (1) τ52)))
def f_X12_find_L12 : Nat → Int32 → S5 → Option (Unit × S5)
  | 0, _, _ => none
  | n + 1, v1, σ => f_X12_find_B12 (f_X12_find_L12  n) v1 σ
def f_X12_find  (σ : S5) : Option (Unit × S5) :=
  f_X12_find_L12  FU (0) (pI (pI σ 23 0) 24 0)
def f_X12_mainFunction_b39 (rec4 : Int32 → Int32 → S5 → Option (Int32 × S5)) (v2 : Int32) (u0 : Int32) (σ : S5) : Option (Int32 × S5) :=
  rec4 (u0) ((v2 + 1)) σ
def f_X12_mainFunction_B4 (rec4 : Int32 → Int32 → S5 → Option (Int32 × S5)) (v1 : Int32) (v2 : Int32) (σ : S5) : Option (Int32 × S5) :=
  if (gI σ 13) ≤ v2 then
    (some (v1, σ))
  else
    (gd v2 640 <| bd (f_X12_pack (109) (97) (105) (110) (0) σ) (fun r27 τ27 =>
    if (lg_cmp (xB σ 2 v2) r27) = 0 then
      (f_X12_mainFunction_b39 rec4 (v2) (v2) τ27)
    else
      (f_X12_mainFunction_b39 rec4 (v2) (v1) τ27)))
def f_X12_mainFunction_L4 : Nat → Int32 → Int32 → S5 → Option (Int32 × S5)
  | 0, _, _, _ => none
  | n + 1, v1, v2, σ => f_X12_mainFunction_B4 (f_X12_mainFunction_L4  n) v1 v2 σ
def f_X12_mainFunction  (σ : S5) : Option (Int32 × S5) :=
  f_X12_mainFunction_L4  FU ((-1)) (0) σ
def f_X12_judge_b77  (σ : S5) : Option (Unit × S5) :=
  bd (f_X12_fail (7) (0) σ) (fun _ τ81 =>
  some ((), τ81))
def f_X12_judge_b48 (rec5 : Int32 → S5 → Option (Unit × S5)) (v1 : Int32) (σ : S5) : Option (Unit × S5) :=
  rec5 ((v1 + 1)) σ
def f_X12_judge_B5 (rec5 : Int32 → S5 → Option (Unit × S5)) (v1 : Int32) (σ : S5) : Option (Unit × S5) :=
  if (gI σ 22) ≤ v1 then
    (bd (f_X12_mainFunction  σ) (fun r55 τ55 =>
    if r55 < 0 then
      (f_X12_judge_b77   τ55)
    else
      (gd r55 640 <| gd (xA τ55 12 r55) 3200 <| if (xA τ55 10 (xA τ55 12 r55)) ≤ 0 then
        (some ((), τ55))
      else
        (f_X12_judge_b77   τ55))))
  else
    (gd v1 640 <| gd v1 640 <| gd (xA σ 12 v1) 3200 <| if ((xA σ 20 v1) + (xA σ 10 (xA σ 12 v1))) ≤ 8 then
      (f_X12_judge_b48 rec5 (v1) σ)
    else
      (gd v1 640 <| bd (f_X12_fail (6) ((xA σ 11 v1)) σ) (fun _ τ45 =>
      f_X12_judge_b48 rec5 (v1) τ45)))
def f_X12_judge_L5 : Nat → Int32 → S5 → Option (Unit × S5)
  | 0, _, _ => none
  | n + 1, v1, σ => f_X12_judge_B5 (f_X12_judge_L5  n) v1 σ
def f_X12_judge  (σ : S5) : Option (Unit × S5) :=
  f_X12_judge_L5  FU ((gI σ 13)) σ
def f_X12_lift_b169 (rec108 : Int32 → Int32 → Int32 → Int64 → Int32 → S5 → Option (Int32 × S5)) (v3 : Int32) (v4 : Int32) (v6 : Int64) (v8 : Int32) (v9 : Int32) (u0 : Int32) (σ : S5) : Option (Int32 × S5) :=
  gd v9 7000 <| rec108 (v3) (v4) (u0) ((v6 ||| (xB σ 5 v9))) ((v8 + 1)) σ
def f_X12_lift_B108 (rec108 : Int32 → Int32 → Int32 → Int64 → Int32 → S5 → Option (Int32 × S5)) (v3 : Int32) (v4 : Int32) (v5 : Int32) (v6 : Int64) (v8 : Int32) (σ : S5) : Option (Int32 × S5) :=
  if v3 ≤ v8 then
    (gd v4 7000 <| gd v4 7000 <| gd (gI σ 28) 7000 <| some (v4, (pI (pA (pB (pA σ 37 v4 (v5 + 1)) 5 v4 v6) 48 (gI σ 28) v4) 28 ((gI σ 28) + 1))))
  else
    (gd ((gI σ 28) + v8) 7000 <| gd v4 7000 <| gd ((xA σ 33 v4) + v8) 14000 <| gd (xA σ 48 ((gI σ 28) + v8)) 7000 <| if (xA σ 37 (xA σ 48 ((gI σ 28) + v8))) ≤ v5 then
      (f_X12_lift_b169 rec108 (v3) (v4) (v6) (v8) ((xA σ 48 ((gI σ 28) + v8))) (v5) (pA σ 39 ((xA σ 33 v4) + v8) (xA σ 48 ((gI σ 28) + v8))))
    else
      (gd (xA σ 48 ((gI σ 28) + v8)) 7000 <| f_X12_lift_b169 rec108 (v3) (v4) (v6) (v8) ((xA σ 48 ((gI σ 28) + v8))) ((xA σ 37 (xA σ 48 ((gI σ 28) + v8)))) (pA σ 39 ((xA σ 33 v4) + v8) (xA σ 48 ((gI σ 28) + v8)))))
def f_X12_lift_L108 : Nat → Int32 → Int32 → Int32 → Int64 → Int32 → S5 → Option (Int32 × S5)
  | 0, _, _, _, _, _, _ => none
  | n + 1, v3, v4, v5, v6, v8, σ => f_X12_lift_B108 (f_X12_lift_L108  n) v3 v4 v5 v6 v8 σ
def f_X12_lift_b103 (v3 : Int32) (v4 : Int32) (v5 : Int32) (u0 : Int64) (σ : S5) : Option (Int32 × S5) :=
  f_X12_lift_L108  FU (v3) (v4) (v5) (u0) (0) σ
def f_X12_lift (a1 : Int32) (a2 : Int32) (a3 : Int32) (σ : S5) : Option (Int32 × S5) :=
  gd (gI σ 26) 7000 <| gd (gI σ 26) 7000 <| gd (gI σ 26) 7000 <| gd (gI σ 26) 7000 <| gd (gI σ 26) 7000 <| gd (gI σ 26) 7000 <| if a1 = 13 then
    (f_X12_lift_b103  (a3) ((gI σ 26)) (0) ((j_lshl 1 a2)) (pI (pI (pA (pA (pA (pA (pA (pA (pI σ 26 ((gI σ 26) + 1)) 31 (gI σ 26) a1) 32 (gI σ 26) a2) 33 (gI σ 26) (gI σ 27)) 34 (gI σ 26) a3) 35 (gI σ 26) 0) 36 (gI σ 26) (vp_nar .boolean 0)) 27 ((gI σ 27) + a3)) 28 ((gI σ 28) - a3)))
  else
    (f_X12_lift_b103  (a3) ((gI σ 26)) (0) (0) (pI (pI (pA (pA (pA (pA (pA (pA (pI σ 26 ((gI σ 26) + 1)) 31 (gI σ 26) a1) 32 (gI σ 26) a2) 33 (gI σ 26) (gI σ 27)) 34 (gI σ 26) a3) 35 (gI σ 26) 0) 36 (gI σ 26) (vp_nar .boolean 0)) 27 ((gI σ 27) + a3)) 28 ((gI σ 28) - a3)))
def f_X12_child (a1 : Int32) (a2 : Int32) (σ : S5) : Option (Int32 × S5) :=
  gd a1 7000 <| gd ((xA σ 33 a1) + a2) 14000 <| some ((xA σ 39 ((xA σ 33 a1) + a2)), σ)
def f_X12_local_B26 (rec26 : Int32 → Int32 → Int32 → S5 → Option (Int32 × S5)) (v1 : Int32) (v2 : Int32) (v3 : Int32) (σ : S5) : Option (Int32 × S5) :=
  gd ((9 * v1) + v3) 5760 <| if (xA σ 21 ((9 * v1) + v3)) = v2 then
    (some (v3, σ))
  else
    (rec26 (v1) (v2) ((v3 + 1)) σ)
def f_X12_local_L26 : Nat → Int32 → Int32 → Int32 → S5 → Option (Int32 × S5)
  | 0, _, _, _, _ => none
  | n + 1, v1, v2, v3, σ => f_X12_local_B26 (f_X12_local_L26  n) v1 v2 v3 σ
def f_X12_local (a1 : Int32) (a2 : Int32) (σ : S5) : Option (Int32 × S5) :=
  gd a2 3200 <| if (xA σ 22 a2) = a1 then
    (gd a1 640 <| gd a2 3200 <| some (((xA σ 20 a1) + (xA σ 23 a2)), σ))
  else
    (f_X12_local_L26  FU (a1) (a2) (0) σ)
def f_X12_liftFunction_B11 (rec11 : Int32 → Int32 → Int32 → S5 → Option (Unit × S5)) (v1 : Int32) (v2 : Int32) (v3 : Int32) (σ : S5) : Option (Unit × S5) :=
  gd v2 640 <| if (xA σ 20 v2) ≤ v3 then
    (gd v2 640 <| if (xA σ 20 v2) ≤ 0 then
      (some ((), σ))
    else
      (gd v2 640 <| bd (f_X12_lift (6) (0) ((1 + (xA σ 20 v2))) σ) (fun r72 τ72 =>
      some ((), τ72))))
  else
    (gd ((9 * v2) + v3) 5760 <| bd (f_X12_local (v1) ((xA σ 21 ((9 * v2) + v3))) σ) (fun r37 τ37 =>
    bd (f_X12_lift (13) (r37) (0) τ37) (fun r41 τ41 =>
    rec11 (v1) (v2) ((v3 + 1)) τ41)))
def f_X12_liftFunction_L11 : Nat → Int32 → Int32 → Int32 → S5 → Option (Unit × S5)
  | 0, _, _, _, _ => none
  | n + 1, v1, v2, v3, σ => f_X12_liftFunction_B11 (f_X12_liftFunction_L11  n) v1 v2 v3 σ
def f_X12_liftFunction (a1 : Int32) (a2 : Int32) (σ : S5) : Option (Unit × S5) :=
  bd (f_X12_lift (12) (a2) (0) σ) (fun r5 τ5 =>
  f_X12_liftFunction_L11  FU (a1) (a2) (0) τ5)
def f_X12_rowCount_B9 (rec9 : Int32 → Int32 → S5 → Option (Int32 × S5)) (v2 : Int32) (v3 : Int32) (σ : S5) : Option (Int32 × S5) :=
  if v3 < 0 then
    (some (v2, σ))
  else
    (gd v3 3200 <| rec9 ((v2 + 1)) ((xA σ 5 v3)) σ)
def f_X12_rowCount_L9 : Nat → Int32 → Int32 → S5 → Option (Int32 × S5)
  | 0, _, _, _ => none
  | n + 1, v2, v3, σ => f_X12_rowCount_B9 (f_X12_rowCount_L9  n) v2 v3 σ
def f_X12_rowCount (a1 : Int32) (σ : S5) : Option (Int32 × S5) :=
  gd a1 3200 <| f_X12_rowCount_L9  FU (0) ((xA σ 3 a1)) σ
def f_X12_bits (a0 : Int32) (a1 : Int32) (σ : S5) : Option (Int64 × S5) :=
  some ((j_lshl ((j_lshl 1 a1) - 1) a0), σ)
def f_X12_closePart_b271 (rec178 : Int32 → Int32 → Int32 → Int32 → S5 → Option (Unit × S5)) (v1 : Int32) (v4 : Int32) (v5 : Int32) (v6 : Int32) (v7 : Int32) (u0 : Int32) (u1 : Int32) (σ : S5) : Option (Unit × S5) :=
  gd u1 14000 <| gd v4 7000 <| bd (f_X12_child (v4) ((1 + v5)) (pA σ 42 u1 u0)) (fun r291 τ291 =>
  gd r291 7000 <| gd v7 14000 <| gd v6 3200 <| bd (f_X12_bits ((xA τ291 42 v7)) ((xA τ291 10 v6)) τ291) (fun r309 τ309 =>
  gd v4 7000 <| gd v6 3200 <| rec178 (v1) (v4) ((v5 + 1)) ((xA τ309 5 v6)) (pB τ309 5 v4 ((xB σ 5 v4) ||| ((xB τ291 5 r291) &&& (r309 ^^^ (-1)))))))
def f_X12_closePart_B178 (rec178 : Int32 → Int32 → Int32 → Int32 → S5 → Option (Unit × S5)) (v1 : Int32) (v4 : Int32) (v5 : Int32) (v6 : Int32) (σ : S5) : Option (Unit × S5) :=
  if v6 < 0 then
    (some ((), σ))
  else
    (gd v4 7000 <| gd v6 3200 <| gd (((xA σ 33 v4) + 1) + v5) 14000 <| gd v6 3200 <| gd (((xA σ 33 v4) + 1) + v5) 14000 <| gd v6 3200 <| gd (((xA σ 33 v4) + 1) + v5) 14000 <| gd v6 3200 <| if (xA σ 10 v6) ≤ 0 then
      (f_X12_closePart_b271 rec178 (v1) (v4) (v5) (v6) ((((xA σ 33 v4) + 1) + v5)) (0) ((((xA σ 33 v4) + 1) + v5)) (pA (pA (pA σ 40 (((xA σ 33 v4) + 1) + v5) (xA σ 8 v6)) 41 (((xA σ 33 v4) + 1) + v5) (xA σ 7 v6)) 43 (((xA σ 33 v4) + 1) + v5) (xA σ 10 v6)))
    else
      (gd v6 3200 <| bd (f_X12_local (v1) ((xA σ 25 v6)) (pA (pA (pA σ 40 (((xA σ 33 v4) + 1) + v5) (xA σ 8 v6)) 41 (((xA σ 33 v4) + 1) + v5) (xA σ 7 v6)) 43 (((xA σ 33 v4) + 1) + v5) (xA σ 10 v6))) (fun r264 τ264 =>
      f_X12_closePart_b271 rec178 (v1) (v4) (v5) (v6) ((((xA σ 33 v4) + 1) + v5)) (r264) ((((xA σ 33 v4) + 1) + v5)) τ264)))
def f_X12_closePart_L178 : Nat → Int32 → Int32 → Int32 → Int32 → S5 → Option (Unit × S5)
  | 0, _, _, _, _, _ => none
  | n + 1, v1, v4, v5, v6, σ => f_X12_closePart_B178 (f_X12_closePart_L178  n) v1 v4 v5 v6 σ
def f_X12_closePart (a1 : Int32) (a2 : Int32) (σ : S5) : Option (Unit × S5) :=
  gd a2 3200 <| if (xA σ 2 a2) = 0 then
    (bd (f_X12_rowCount (a2) σ) (fun r70 τ70 =>
    bd (f_X12_lift (0) (r70) ((r70 + 1)) τ70) (fun r80 τ80 =>
    gd a2 3200 <| bd (f_X12_local (a1) ((xA τ80 25 a2)) τ80) (fun r99 τ99 =>
    gd r80 7000 <| gd r80 7000 <| gd r80 7000 <| bd (f_X12_bits ((xA (pA τ99 35 r80 r99) 35 r80)) (r70) (pA τ99 35 r80 r99)) (fun r119 τ119 =>
    gd r80 7000 <| some ((), (pB τ119 5 r80 ((xB τ99 5 r80) &&& (r119 ^^^ (-1))))))))))
  else if (xA σ 2 a2) = 1 then
    (some ((), σ))
  else if (xA σ 2 a2) = 2 then
    (some ((), σ))
  else if (xA σ 2 a2) = 3 then
    (bd (f_X12_rowCount (a2) σ) (fun r133 τ133 =>
    bd (f_X12_lift (3) (r133) ((r133 + 1)) τ133) (fun r143 τ143 =>
    bd (f_X12_child (r143) (0) τ143) (fun r162 τ162 =>
    gd r162 7000 <| gd r143 7000 <| gd a2 3200 <| f_X12_closePart_L178  FU (a1) (r143) (0) ((xA τ162 3 a2)) (pB τ162 5 r143 (xB τ162 5 r162))))))
  else if (xA σ 2 a2) = 4 then
    (some ((), σ))
  else if (xA σ 2 a2) = 5 then
    (gd a2 3200 <| bd (f_X12_lift (5) ((xA σ 7 a2)) (2) σ) (fun r346 τ346 =>
    some ((), τ346)))
  else if (xA σ 2 a2) = 6 then
    (bd (f_X12_rowCount (a2) σ) (fun r359 τ359 =>
    bd (f_X12_lift (6) (0) (r359) τ359) (fun r362 τ362 =>
    some ((), τ362))))
  else if (xA σ 2 a2) = 7 then
    (gd a2 3200 <| bd (f_X12_rowCount (a2) σ) (fun r380 τ380 =>
    bd (f_X12_lift (7) ((xA σ 7 a2)) (r380) τ380) (fun r383 τ383 =>
    some ((), τ383))))
  else if (xA σ 2 a2) = 8 then
    (gd a2 3200 <| if (xA σ 8 a2) = 1 then
      (gd a2 3200 <| bd (f_X12_local (a1) ((xA σ 7 a2)) σ) (fun r411 τ411 =>
      bd (f_X12_lift (13) (r411) (0) τ411) (fun r415 τ415 =>
      some ((), τ415))))
    else
      (gd a2 3200 <| bd (f_X12_lift (12) ((xA σ 7 a2)) (0) σ) (fun r432 τ432 =>
      some ((), τ432))))
  else if (xA σ 2 a2) = 9 then
    (gd a2 3200 <| gd a2 3200 <| bd (f_X12_lift ((xA σ 2 a2)) ((xA σ 7 a2)) (0) σ) (fun r453 τ453 =>
    some ((), τ453)))
  else if (xA σ 2 a2) = 10 then
    (gd a2 3200 <| gd a2 3200 <| bd (f_X12_lift ((xA σ 2 a2)) ((xA σ 7 a2)) (0) σ) (fun r453 τ453 =>
    some ((), τ453)))
  else if (xA σ 2 a2) = 11 then
    (gd a2 3200 <| gd a2 3200 <| bd (f_X12_lift ((xA σ 2 a2)) ((xA σ 7 a2)) (0) σ) (fun r453 τ453 =>
    some ((), τ453)))
  else 
    (some ((), σ))
def f_X12_liftAll_b248 (v1 : Int32) (σ : S5) : Option (Unit × S5) :=
  gd v1 640 <| bd (f_X12_fail (8) ((xA σ 11 v1)) σ) (fun _ τ257 =>
  some ((), τ257))
def f_X12_liftAll_B198 (rec17 : Int32 → S5 → Option (Unit × S5)) (rec198 : Int32 → Int32 → S5 → Option (Unit × S5)) (v1 : Int32) (v4 : Int32) (σ : S5) : Option (Unit × S5) :=
  if (gI σ 26) ≤ v4 then
    (gd v1 640 <| gd (xA σ 45 v1) 7000 <| if 40 < (xA σ 37 (xA σ 45 v1)) then
      (f_X12_liftAll_b248  (v1) σ)
    else
      (gd v1 640 <| if (xA σ 46 v1) ≤ 40 then
        (rec17 ((v1 + 1)) σ)
      else
        (f_X12_liftAll_b248  (v1) σ)))
  else
    (gd v4 7000 <| rec198 (v1) ((v4 + 1)) (pA σ 38 v4 v1))
def f_X12_liftAll_L198 (rec17 : Int32 → S5 → Option (Unit × S5)) : Nat → Int32 → Int32 → S5 → Option (Unit × S5)
  | 0, _, _, _ => none
  | n + 1, v1, v4, σ => f_X12_liftAll_B198 rec17 (f_X12_liftAll_L198 rec17 n) v1 v4 σ
def f_X12_liftAll_b162 (rec17 : Int32 → S5 → Option (Unit × S5)) (rec88 : Int32 → Int32 → S5 → Option (Unit × S5)) (v1 : Int32) (v3 : Int32) (σ : S5) : Option (Unit × S5) :=
  rec88 (v1) (v3) σ
def f_X12_liftAll_B88 (rec17 : Int32 → S5 → Option (Unit × S5)) (rec88 : Int32 → Int32 → S5 → Option (Unit × S5)) (v1 : Int32) (v3 : Int32) (σ : S5) : Option (Unit × S5) :=
  if v3 ≤ 0 then
    (gd ((gI σ 28) - 1) 7000 <| gd v1 640 <| gd v1 640 <| f_X12_liftAll_L198 rec17 FU (v1) ((xA σ 44 v1)) (pA (pI σ 28 ((gI σ 28) - 1)) 45 v1 (xA σ 48 ((gI σ 28) - 1))))
  else
    (bd (f_X12_nextChild ((v3 - 1)) σ) (fun r96 τ96 =>
    if 0 ≤ r96 then
      (gd r96 3200 <| if (xA τ96 19 r96) < 0 then
        (bd (f_X12_beginAt (v3) (r96) τ96) (fun _ τ156 =>
        f_X12_liftAll_b162 rec17 rec88 (v1) ((v3 + 1)) τ156))
      else
        (gd r96 3200 <| bd (f_X12_liftFunction (v1) ((xA τ96 19 r96)) τ96) (fun _ τ146 =>
        f_X12_liftAll_b162 rec17 rec88 (v1) (v3) τ146)))
    else
      (if (v3 + (-1)) ≤ 0 then
        (f_X12_liftAll_b162 rec17 rec88 (v1) ((v3 + (-1))) τ96)
      else
        (gd (v3 + (-1)) 3200 <| bd (f_X12_closePart (v1) ((xA τ96 28 (v3 + (-1)))) τ96) (fun _ τ121 =>
        f_X12_liftAll_b162 rec17 rec88 (v1) ((v3 + (-1))) τ121)))))
def f_X12_liftAll_L88 (rec17 : Int32 → S5 → Option (Unit × S5)) : Nat → Int32 → Int32 → S5 → Option (Unit × S5)
  | 0, _, _, _ => none
  | n + 1, v1, v3, σ => f_X12_liftAll_B88 rec17 (f_X12_liftAll_L88 rec17 n) v1 v3 σ
def f_X12_liftAll_B17 (rec17 : Int32 → S5 → Option (Unit × S5)) (v1 : Int32) (σ : S5) : Option (Unit × S5) :=
  if (gI σ 22) ≤ v1 then
    (some ((), σ))
  else
    (gd v1 640 <| gd v1 640 <| gd v1 640 <| gd (xA σ 12 v1) 3200 <| gd v1 640 <| gd v1 640 <| gd v1 640 <| gd v1 640 <| bd (f_X12_beginAt (0) ((xA σ 12 v1)) (pA (pA (pA σ 44 v1 (gI σ 26)) 47 v1 ((xA σ 20 v1) + (xA σ 10 (xA σ 12 v1)))) 46 v1 ((xA σ 20 v1) + (xA σ 24 v1)))) (fun _ τ85 =>
    f_X12_liftAll_L88 rec17 FU (v1) (1) τ85))
def f_X12_liftAll_L17 : Nat → Int32 → S5 → Option (Unit × S5)
  | 0, _, _ => none
  | n + 1, v1, σ => f_X12_liftAll_B17 (f_X12_liftAll_L17  n) v1 σ
def f_X12_liftAll  (σ : S5) : Option (Unit × S5) :=
  f_X12_liftAll_L17  FU (0) (pI (pI (pI σ 26 0) 27 0) 28 0)
def f_X12_table (a1 : Int32) (a2 : Int32) (σ : S5) : Option (Int32 × S5) :=
  gd ((256 * a1) + a2) 163840 <| g_t (xA σ 49 ((256 * a1) + a2)) <| some ((xA σ 49 ((256 * a1) + a2)), σ)
def f_X12_appliedBit_b95 (rec61 : Int32 → Int32 → Int32 → Int32 → Int32 → S5 → Option (Int32 × S5)) (v1 : Int32) (v3 : Int32) (v4 : Int32) (v6 : Int32) (u0 : Int32) (u1 : Int32) (σ : S5) : Option (Int32 × S5) :=
  rec61 (v1) (v3) (v4) ((u1 ||| u0)) ((v6 + 1)) σ
def f_X12_appliedBit_B61 (rec61 : Int32 → Int32 → Int32 → Int32 → Int32 → S5 → Option (Int32 × S5)) (v1 : Int32) (v3 : Int32) (v4 : Int32) (v5 : Int32) (v6 : Int32) (σ : S5) : Option (Int32 × S5) :=
  if v4 ≤ v6 then
    (bd (f_X12_table (v3) (v5) σ) (fun r108 τ108 =>
    g_t r108 <| some (r108, τ108)))
  else
    (bd (f_X12_child (v1) ((1 + v6)) σ) (fun r80 τ80 =>
    gd r80 7000 <| if (xA τ80 50 r80) = 0 then
      (f_X12_appliedBit_b95 rec61 (v1) (v3) (v4) (v6) (0) (v5) τ80)
    else
      (f_X12_appliedBit_b95 rec61 (v1) (v3) (v4) (v6) (((1 : Int32) <<< (v6 &&& 31))) (v5) τ80)))
def f_X12_appliedBit_L61 : Nat → Int32 → Int32 → Int32 → Int32 → Int32 → S5 → Option (Int32 × S5)
  | 0, _, _, _, _, _, _ => none
  | n + 1, v1, v3, v4, v5, v6, σ => f_X12_appliedBit_B61 (f_X12_appliedBit_L61  n) v1 v3 v4 v5 v6 σ
def f_X12_appliedBit (a1 : Int32) (σ : S5) : Option (Int32 × S5) :=
  bd (f_X12_child (a1) (0) σ) (fun r3 τ3 =>
  gd r3 7000 <| if (xA τ3 31 r3) = 12 then
    (gd r3 7000 <| gd (xA τ3 32 r3) 640 <| gd a1 7000 <| if (xA τ3 47 (xA τ3 32 r3)) ≤ ((xA τ3 34 a1) - 1) then
      (f_X12_appliedBit_L61  FU (a1) ((xA τ3 32 r3)) ((xA τ3 47 (xA τ3 32 r3))) (0) (0) τ3)
    else
      (some ((1 : Int32), τ3)))
  else
    (gd r3 7000 <| g_t (xA τ3 50 r3) <| some ((xA τ3 50 r3), τ3)))
def f_X12_partBit_b201 (rec171 : Int32 → Int32 → Int32 → Int32 → S5 → Option (Int32 × S5)) (v1 : Int32) (v2 : Int32) (v4 : Int32) (u0 : Int32) (σ : S5) : Option (Int32 × S5) :=
  rec171 (v1) (v2) (u0) ((v4 + 1)) σ
def f_X12_partBit_b196 (rec171 : Int32 → Int32 → Int32 → Int32 → S5 → Option (Int32 × S5)) (v1 : Int32) (v2 : Int32) (v4 : Int32) (σ : S5) : Option (Int32 × S5) :=
  f_X12_partBit_b201 rec171 (v1) (v2) (v4) (1) σ
def f_X12_partBit_B171 (rec171 : Int32 → Int32 → Int32 → Int32 → S5 → Option (Int32 × S5)) (v1 : Int32) (v2 : Int32) (v3 : Int32) (v4 : Int32) (σ : S5) : Option (Int32 × S5) :=
  if v2 ≤ v4 then
    (bd (f_X12_child (v1) (0) σ) (fun r215 τ215 =>
    gd r215 7000 <| if (xA τ215 50 r215) = 0 then
      (some ((0 : Int32), τ215))
    else
      (if v3 = 0 then
        (some ((0 : Int32), τ215))
      else
        (some ((1 : Int32), τ215)))))
  else
    (if v3 = 0 then
      (bd (f_X12_child (v1) (v4) σ) (fun r189 τ189 =>
      gd r189 7000 <| if (xA τ189 50 r189) = 0 then
        (f_X12_partBit_b201 rec171 (v1) (v2) (v4) (0) τ189)
      else
        (f_X12_partBit_b196 rec171 (v1) (v2) (v4) τ189)))
    else
      (f_X12_partBit_b196 rec171 (v1) (v2) (v4) σ))
def f_X12_partBit_L171 : Nat → Int32 → Int32 → Int32 → Int32 → S5 → Option (Int32 × S5)
  | 0, _, _, _, _, _ => none
  | n + 1, v1, v2, v3, v4, σ => f_X12_partBit_B171 (f_X12_partBit_L171  n) v1 v2 v3 v4 σ
def f_X12_partBit_b124  (σ : S5) : Option (Int32 × S5) :=
  some ((1 : Int32), σ)
def f_X12_partBit (a1 : Int32) (σ : S5) : Option (Int32 × S5) :=
  gd a1 7000 <| gd a1 7000 <| if (xA σ 31 a1) = 0 then
    (bd (f_X12_child (a1) (((xA σ 34 a1) - 1)) σ) (fun r241 τ241 =>
    gd r241 7000 <| g_t (xA τ241 50 r241) <| some ((xA τ241 50 r241), τ241)))
  else if (xA σ 31 a1) = 1 then
    (some ((1 : Int32), σ))
  else if (xA σ 31 a1) = 2 then
    (some ((1 : Int32), σ))
  else if (xA σ 31 a1) = 3 then
    (f_X12_partBit_L171  FU (a1) ((xA σ 34 a1)) (0) (1) σ)
  else if (xA σ 31 a1) = 4 then
    (some ((1 : Int32), σ))
  else if (xA σ 31 a1) = 5 then
    (bd (f_X12_child (a1) (0) σ) (fun r139 τ139 =>
    gd r139 7000 <| if (xA τ139 50 r139) = 0 then
      (some ((0 : Int32), τ139))
    else
      (bd (f_X12_child (a1) (1) τ139) (fun r153 τ153 =>
      gd r153 7000 <| if (xA τ153 50 r153) = 0 then
        (some ((0 : Int32), τ153))
      else
        (some ((1 : Int32), τ153))))))
  else if (xA σ 31 a1) = 6 then
    (bd (f_X12_appliedBit (a1) σ) (fun r248 τ248 =>
    g_t r248 <| some (r248, τ248)))
  else if (xA σ 31 a1) = 7 then
    (some ((1 : Int32), σ))
  else if (xA σ 31 a1) = 8 then
    (some ((1 : Int32), σ))
  else if (xA σ 31 a1) = 9 then
    (some ((1 : Int32), σ))
  else if (xA σ 31 a1) = 10 then
    (some ((1 : Int32), σ))
  else if (xA σ 31 a1) = 11 then
    (some ((0 : Int32), σ))
  else if (xA σ 31 a1) = 12 then
    (gd a1 7000 <| gd (xA σ 32 a1) 640 <| if 0 < (xA σ 47 (xA σ 32 a1)) then
      (f_X12_partBit_b124   σ)
    else
      (gd a1 7000 <| bd (f_X12_table ((xA σ 32 a1)) (0) σ) (fun r118 τ118 =>
      if r118 = 0 then
        (some ((0 : Int32), τ118))
      else
        (f_X12_partBit_b124   τ118))))
  else if (xA σ 31 a1) = 13 then
    (gd a1 7000 <| gd (xA σ 32 a1) 640 <| g_t (xA σ 51 (xA σ 32 a1)) <| some ((xA σ 51 (xA σ 32 a1)), σ))
  else 
    (some ((1 : Int32), σ))
def f_X12_bitOfPart_b308 (rec143 : Int32 → Int32 → Int32 → S5 → Option (Int32 × S5)) (rec180 : Int32 → Int32 → Int32 → Int32 → S5 → Option (Int32 × S5)) (v1 : Int32) (v2 : Int32) (v3 : Int32) (v4 : Int32) (σ : S5) : Option (Int32 × S5) :=
  rec180 (v1) (v2) (v3) ((v4 + 1)) σ
def f_X12_bitOfPart_b301 (rec143 : Int32 → Int32 → Int32 → S5 → Option (Int32 × S5)) (rec180 : Int32 → Int32 → Int32 → Int32 → S5 → Option (Int32 × S5)) (rec189 : Int32 → Int32 → Int32 → Int32 → Int32 → S5 → Option (Int32 × S5)) (v1 : Int32) (v2 : Int32) (v3 : Int32) (v4 : Int32) (v5 : Int32) (u0 : Int32) (u1 : Int32) (σ : S5) : Option (Int32 × S5) :=
  gd u1 640 <| rec189 (v1) (v2) (v3) (v4) ((v5 + 1)) (pA σ 51 u1 (vp_nar .boolean u0))
def f_X12_bitOfPart_b296 (rec143 : Int32 → Int32 → Int32 → S5 → Option (Int32 × S5)) (rec180 : Int32 → Int32 → Int32 → Int32 → S5 → Option (Int32 × S5)) (rec189 : Int32 → Int32 → Int32 → Int32 → Int32 → S5 → Option (Int32 × S5)) (v1 : Int32) (v2 : Int32) (v3 : Int32) (v4 : Int32) (v5 : Int32) (u0 : Int32) (σ : S5) : Option (Int32 × S5) :=
  f_X12_bitOfPart_b301 rec143 rec180 rec189 (v1) (v2) (v3) (v4) (v5) (1) (u0) σ
def f_X12_bitOfPart_b258 (rec143 : Int32 → Int32 → Int32 → S5 → Option (Int32 × S5)) (rec180 : Int32 → Int32 → Int32 → Int32 → S5 → Option (Int32 × S5)) (rec189 : Int32 → Int32 → Int32 → Int32 → Int32 → S5 → Option (Int32 × S5)) (v1 : Int32) (v2 : Int32) (v4 : Int32) (v5 : Int32) (v6 : Int32) (u0 : Int32) (σ : S5) : Option (Int32 × S5) :=
  gd v4 7000 <| gd v4 7000 <| gd ((xA σ 35 v4) + v5) 640 <| if (xA σ 51 ((xA σ 35 v4) + v5)) = 0 then
    (if v6 = 0 then
      (f_X12_bitOfPart_b301 rec143 rec180 rec189 (v1) (v2) (u0) (v4) (v5) (0) (((xA σ 35 v4) + v5)) σ)
    else
      (f_X12_bitOfPart_b296 rec143 rec180 rec189 (v1) (v2) (u0) (v4) (v5) (((xA σ 35 v4) + v5)) σ))
  else
    (f_X12_bitOfPart_b296 rec143 rec180 rec189 (v1) (v2) (u0) (v4) (v5) (((xA σ 35 v4) + v5)) σ)
def f_X12_bitOfPart_b257 (rec143 : Int32 → Int32 → Int32 → S5 → Option (Int32 × S5)) (rec180 : Int32 → Int32 → Int32 → Int32 → S5 → Option (Int32 × S5)) (rec189 : Int32 → Int32 → Int32 → Int32 → Int32 → S5 → Option (Int32 × S5)) (v1 : Int32) (v2 : Int32) (v4 : Int32) (v5 : Int32) (v6 : Int32) (σ : S5) : Option (Int32 × S5) :=
  f_X12_bitOfPart_b258 rec143 rec180 rec189 (v1) (v2) (v4) (v5) (v6) (0) σ
def f_X12_bitOfPart_b253 (rec143 : Int32 → Int32 → Int32 → S5 → Option (Int32 × S5)) (rec180 : Int32 → Int32 → Int32 → Int32 → S5 → Option (Int32 × S5)) (rec189 : Int32 → Int32 → Int32 → Int32 → Int32 → S5 → Option (Int32 × S5)) (v1 : Int32) (v2 : Int32) (v4 : Int32) (v5 : Int32) (v6 : Int32) (σ : S5) : Option (Int32 × S5) :=
  f_X12_bitOfPart_b258 rec143 rec180 rec189 (v1) (v2) (v4) (v5) (v6) (1) σ
def f_X12_bitOfPart_B189 (rec143 : Int32 → Int32 → Int32 → S5 → Option (Int32 × S5)) (rec180 : Int32 → Int32 → Int32 → Int32 → S5 → Option (Int32 × S5)) (rec189 : Int32 → Int32 → Int32 → Int32 → Int32 → S5 → Option (Int32 × S5)) (v1 : Int32) (v2 : Int32) (v3 : Int32) (v4 : Int32) (v5 : Int32) (σ : S5) : Option (Int32 × S5) :=
  gd v4 7000 <| if (xA σ 31 v4) = 0 then
    (gd v4 7000 <| if (xA σ 32 v4) ≤ v5 then
      (f_X12_bitOfPart_b308 rec143 rec180 (v1) (v2) (v3) (v4) σ)
    else
      (bd (f_X12_child (v4) (v5) σ) (fun r220 τ220 =>
      gd r220 7000 <| if v3 = 0 then
        (if (xA τ220 50 r220) = 0 then
          (f_X12_bitOfPart_b257 rec143 rec180 rec189 (v1) (v2) (v4) (v5) ((xA τ220 50 r220)) τ220)
        else
          (gd v4 7000 <| gd ((xA τ220 35 v4) + v5) 640 <| if (xA τ220 51 ((xA τ220 35 v4) + v5)) = 0 then
            (f_X12_bitOfPart_b253 rec143 rec180 rec189 (v1) (v2) (v4) (v5) ((xA τ220 50 r220)) τ220)
          else
            (f_X12_bitOfPart_b257 rec143 rec180 rec189 (v1) (v2) (v4) (v5) ((xA τ220 50 r220)) τ220)))
      else
        (f_X12_bitOfPart_b253 rec143 rec180 rec189 (v1) (v2) (v4) (v5) ((xA τ220 50 r220)) τ220))))
  else
    (f_X12_bitOfPart_b308 rec143 rec180 (v1) (v2) (v3) (v4) σ)
def f_X12_bitOfPart_L189 (rec143 : Int32 → Int32 → Int32 → S5 → Option (Int32 × S5)) (rec180 : Int32 → Int32 → Int32 → Int32 → S5 → Option (Int32 × S5)) : Nat → Int32 → Int32 → Int32 → Int32 → Int32 → S5 → Option (Int32 × S5)
  | 0, _, _, _, _, _, _ => none
  | n + 1, v1, v2, v3, v4, v5, σ => f_X12_bitOfPart_B189 rec143 rec180 (f_X12_bitOfPart_L189 rec143 rec180 n) v1 v2 v3 v4 v5 σ
def f_X12_bitOfPart_B180 (rec143 : Int32 → Int32 → Int32 → S5 → Option (Int32 × S5)) (rec180 : Int32 → Int32 → Int32 → Int32 → S5 → Option (Int32 × S5)) (v1 : Int32) (v2 : Int32) (v3 : Int32) (v4 : Int32) (σ : S5) : Option (Int32 × S5) :=
  if v2 < v4 then
    (rec143 (v1) (v2) (v3) σ)
  else
    (f_X12_bitOfPart_L189 rec143 rec180 FU (v1) (v2) (v3) (v4) (0) σ)
def f_X12_bitOfPart_L180 (rec143 : Int32 → Int32 → Int32 → S5 → Option (Int32 × S5)) : Nat → Int32 → Int32 → Int32 → Int32 → S5 → Option (Int32 × S5)
  | 0, _, _, _, _, _ => none
  | n + 1, v1, v2, v3, v4, σ => f_X12_bitOfPart_B180 rec143 (f_X12_bitOfPart_L180 rec143 n) v1 v2 v3 v4 σ
def f_X12_bitOfPart_B152 (rec143 : Int32 → Int32 → Int32 → S5 → Option (Int32 × S5)) (rec152 : Int32 → Int32 → Int32 → Int32 → S5 → Option (Int32 × S5)) (v1 : Int32) (v2 : Int32) (v3 : Int32) (v4 : Int32) (σ : S5) : Option (Int32 × S5) :=
  if v2 < v4 then
    (f_X12_bitOfPart_L180 rec143 FU (v1) (v2) (v3) (v1) σ)
  else
    (bd (f_X12_partBit (v4) σ) (fun r167 τ167 =>
    gd v4 7000 <| rec152 (v1) (v2) (v3) ((v4 + 1)) (pA τ167 50 v4 (vp_nar .boolean r167))))
def f_X12_bitOfPart_L152 (rec143 : Int32 → Int32 → Int32 → S5 → Option (Int32 × S5)) : Nat → Int32 → Int32 → Int32 → Int32 → S5 → Option (Int32 × S5)
  | 0, _, _, _, _, _ => none
  | n + 1, v1, v2, v3, v4, σ => f_X12_bitOfPart_B152 rec143 (f_X12_bitOfPart_L152 rec143 n) v1 v2 v3 v4 σ
def f_X12_bitOfPart_B143 (rec143 : Int32 → Int32 → Int32 → S5 → Option (Int32 × S5)) (v1 : Int32) (v2 : Int32) (v3 : Int32) (σ : S5) : Option (Int32 × S5) :=
  if v3 = 0 then
    (gd v2 7000 <| g_t (xA σ 50 v2) <| some ((xA σ 50 v2), σ))
  else
    (f_X12_bitOfPart_L152 rec143 FU (v1) (v2) (0) (v1) σ)
def f_X12_bitOfPart_L143 : Nat → Int32 → Int32 → Int32 → S5 → Option (Int32 × S5)
  | 0, _, _, _, _ => none
  | n + 1, v1, v2, v3, σ => f_X12_bitOfPart_B143 (f_X12_bitOfPart_L143  n) v1 v2 v3 σ
def f_X12_bitOfPart_b135 (rec2 : Int32 → Int32 → Int32 → S5 → Option (Int32 × S5)) (v1 : Int32) (v2 : Int32) (v3 : Int32) (σ : S5) : Option (Int32 × S5) :=
  rec2 (v1) (v2) ((v3 + 1)) σ
def f_X12_bitOfPart_B81 (rec2 : Int32 → Int32 → Int32 → S5 → Option (Int32 × S5)) (rec67 : Int32 → Int32 → Int32 → Int32 → S5 → Option (Int32 × S5)) (rec81 : Int32 → Int32 → Int32 → Int32 → Int32 → S5 → Option (Int32 × S5)) (v1 : Int32) (v2 : Int32) (v3 : Int32) (v4 : Int32) (v5 : Int32) (σ : S5) : Option (Int32 × S5) :=
  gd v3 7000 <| gd ((xA σ 33 v3) + v4) 14000 <| if (xA σ 43 ((xA σ 33 v3) + v4)) ≤ v5 then
    (rec67 (v1) (v2) (v3) ((v4 + 1)) σ)
  else
    (gd v3 7000 <| gd ((xA σ 33 v3) + v4) 14000 <| gd ((xA σ 42 ((xA σ 33 v3) + v4)) + v5) 640 <| rec81 (v1) (v2) (v3) (v4) ((v5 + 1)) (pA σ 51 ((xA σ 42 ((xA σ 33 v3) + v4)) + v5) (vp_nar .boolean 1)))
def f_X12_bitOfPart_L81 (rec2 : Int32 → Int32 → Int32 → S5 → Option (Int32 × S5)) (rec67 : Int32 → Int32 → Int32 → Int32 → S5 → Option (Int32 × S5)) : Nat → Int32 → Int32 → Int32 → Int32 → Int32 → S5 → Option (Int32 × S5)
  | 0, _, _, _, _, _, _ => none
  | n + 1, v1, v2, v3, v4, v5, σ => f_X12_bitOfPart_B81 rec2 rec67 (f_X12_bitOfPart_L81 rec2 rec67 n) v1 v2 v3 v4 v5 σ
def f_X12_bitOfPart_B67 (rec2 : Int32 → Int32 → Int32 → S5 → Option (Int32 × S5)) (rec67 : Int32 → Int32 → Int32 → Int32 → S5 → Option (Int32 × S5)) (v1 : Int32) (v2 : Int32) (v3 : Int32) (v4 : Int32) (σ : S5) : Option (Int32 × S5) :=
  gd v3 7000 <| if (xA σ 34 v3) ≤ v4 then
    (f_X12_bitOfPart_b135 rec2 (v1) (v2) (v3) σ)
  else
    (f_X12_bitOfPart_L81 rec2 rec67 FU (v1) (v2) (v3) (v4) (0) σ)
def f_X12_bitOfPart_L67 (rec2 : Int32 → Int32 → Int32 → S5 → Option (Int32 × S5)) : Nat → Int32 → Int32 → Int32 → Int32 → S5 → Option (Int32 × S5)
  | 0, _, _, _, _, _ => none
  | n + 1, v1, v2, v3, v4, σ => f_X12_bitOfPart_B67 rec2 (f_X12_bitOfPart_L67 rec2 n) v1 v2 v3 v4 σ
def f_X12_bitOfPart_B19 (rec2 : Int32 → Int32 → Int32 → S5 → Option (Int32 × S5)) (rec19 : Int32 → Int32 → Int32 → Int32 → S5 → Option (Int32 × S5)) (v1 : Int32) (v2 : Int32) (v3 : Int32) (v4 : Int32) (σ : S5) : Option (Int32 × S5) :=
  gd v3 7000 <| if (xA σ 32 v3) ≤ v4 then
    (f_X12_bitOfPart_b135 rec2 (v1) (v2) (v3) σ)
  else
    (gd v3 7000 <| gd ((xA σ 35 v3) + v4) 640 <| rec19 (v1) (v2) (v3) ((v4 + 1)) (pA σ 51 ((xA σ 35 v3) + v4) (vp_nar .boolean 0)))
def f_X12_bitOfPart_L19 (rec2 : Int32 → Int32 → Int32 → S5 → Option (Int32 × S5)) : Nat → Int32 → Int32 → Int32 → Int32 → S5 → Option (Int32 × S5)
  | 0, _, _, _, _, _ => none
  | n + 1, v1, v2, v3, v4, σ => f_X12_bitOfPart_B19 rec2 (f_X12_bitOfPart_L19 rec2 n) v1 v2 v3 v4 σ
def f_X12_bitOfPart_B2 (rec2 : Int32 → Int32 → Int32 → S5 → Option (Int32 × S5)) (v1 : Int32) (v2 : Int32) (v3 : Int32) (σ : S5) : Option (Int32 × S5) :=
  if v2 < v3 then
    (f_X12_bitOfPart_L143  FU (v1) (v2) (1) σ)
  else
    (gd v3 7000 <| if (xA σ 31 v3) = 0 then
      (f_X12_bitOfPart_L19 rec2 FU (v1) (v2) (v3) (0) σ)
    else
      (gd v3 7000 <| if (xA σ 31 v3) = 3 then
        (f_X12_bitOfPart_L67 rec2 FU (v1) (v2) (v3) (1) σ)
      else
        (f_X12_bitOfPart_b135 rec2 (v1) (v2) (v3) σ)))
def f_X12_bitOfPart_L2 : Nat → Int32 → Int32 → Int32 → S5 → Option (Int32 × S5)
  | 0, _, _, _, _ => none
  | n + 1, v1, v2, v3, σ => f_X12_bitOfPart_B2 (f_X12_bitOfPart_L2  n) v1 v2 v3 σ
def f_X12_bitOfPart (a1 : Int32) (a2 : Int32) (σ : S5) : Option (Int32 × S5) :=
  f_X12_bitOfPart_L2  FU (a1) (a2) (a1) σ
def f_X12_findTables_b152 (rec29 : Int32 → S5 → Option (Unit × S5)) (rec37 : Int32 → Int32 → S5 → Option (Unit × S5)) (rec55 : Int32 → Int32 → Int32 → Int32 → S5 → Option (Unit × S5)) (v1 : Int32) (v2 : Int32) (v3 : Int32) (v4 : Int32) (σ : S5) : Option (Unit × S5) :=
  rec55 (v1) (v2) (v3) ((v4 + 1)) σ
def f_X12_findTables_b94 (rec29 : Int32 → S5 → Option (Unit × S5)) (rec37 : Int32 → Int32 → S5 → Option (Unit × S5)) (rec55 : Int32 → Int32 → Int32 → Int32 → S5 → Option (Unit × S5)) (rec66 : Int32 → Int32 → Int32 → Int32 → Int32 → S5 → Option (Unit × S5)) (v1 : Int32) (v2 : Int32) (v3 : Int32) (v4 : Int32) (v5 : Int32) (u0 : Int32) (u1 : Int32) (σ : S5) : Option (Unit × S5) :=
  gd u1 640 <| rec66 (v1) (v2) (v3) (v4) ((v5 + 1)) (pA σ 51 u1 (vp_nar .boolean u0))
def f_X12_findTables_B66 (rec29 : Int32 → S5 → Option (Unit × S5)) (rec37 : Int32 → Int32 → S5 → Option (Unit × S5)) (rec55 : Int32 → Int32 → Int32 → Int32 → S5 → Option (Unit × S5)) (rec66 : Int32 → Int32 → Int32 → Int32 → Int32 → S5 → Option (Unit × S5)) (v1 : Int32) (v2 : Int32) (v3 : Int32) (v4 : Int32) (v5 : Int32) (σ : S5) : Option (Unit × S5) :=
  if v3 ≤ v5 then
    (gd ((256 * v2) + v4) 163840 <| if (xA σ 49 ((256 * v2) + v4)) = 0 then
      (gd v2 640 <| gd v2 640 <| bd (f_X12_bitOfPart ((xA σ 44 v2)) ((xA σ 45 v2)) σ) (fun r130 τ130 =>
      if r130 = 0 then
        (f_X12_findTables_b152 rec29 rec37 rec55 (v1) (v2) (v3) (v4) τ130)
      else
        (gd ((256 * v2) + v4) 163840 <| f_X12_findTables_b152 rec29 rec37 rec55 (1) (v2) (v3) (v4) (pA τ130 49 ((256 * v2) + v4) (vp_nar .boolean 1)))))
    else
      (f_X12_findTables_b152 rec29 rec37 rec55 (v1) (v2) (v3) (v4) σ))
  else
    (if ((v4 >>> (v5 &&& 31)) &&& 1) = 1 then
      (f_X12_findTables_b94 rec29 rec37 rec55 rec66 (v1) (v2) (v3) (v4) (v5) (1) (v5) σ)
    else
      (f_X12_findTables_b94 rec29 rec37 rec55 rec66 (v1) (v2) (v3) (v4) (v5) (0) (v5) σ))
def f_X12_findTables_L66 (rec29 : Int32 → S5 → Option (Unit × S5)) (rec37 : Int32 → Int32 → S5 → Option (Unit × S5)) (rec55 : Int32 → Int32 → Int32 → Int32 → S5 → Option (Unit × S5)) : Nat → Int32 → Int32 → Int32 → Int32 → Int32 → S5 → Option (Unit × S5)
  | 0, _, _, _, _, _, _ => none
  | n + 1, v1, v2, v3, v4, v5, σ => f_X12_findTables_B66 rec29 rec37 rec55 (f_X12_findTables_L66 rec29 rec37 rec55 n) v1 v2 v3 v4 v5 σ
def f_X12_findTables_B55 (rec29 : Int32 → S5 → Option (Unit × S5)) (rec37 : Int32 → Int32 → S5 → Option (Unit × S5)) (rec55 : Int32 → Int32 → Int32 → Int32 → S5 → Option (Unit × S5)) (v1 : Int32) (v2 : Int32) (v3 : Int32) (v4 : Int32) (σ : S5) : Option (Unit × S5) :=
  if ((1 : Int32) <<< (v3 &&& 31)) ≤ v4 then
    (rec37 (v1) ((v2 + 1)) σ)
  else
    (f_X12_findTables_L66 rec29 rec37 rec55 FU (v1) (v2) (v3) (v4) (0) σ)
def f_X12_findTables_L55 (rec29 : Int32 → S5 → Option (Unit × S5)) (rec37 : Int32 → Int32 → S5 → Option (Unit × S5)) : Nat → Int32 → Int32 → Int32 → Int32 → S5 → Option (Unit × S5)
  | 0, _, _, _, _, _ => none
  | n + 1, v1, v2, v3, v4, σ => f_X12_findTables_B55 rec29 rec37 (f_X12_findTables_L55 rec29 rec37 n) v1 v2 v3 v4 σ
def f_X12_findTables_B37 (rec29 : Int32 → S5 → Option (Unit × S5)) (rec37 : Int32 → Int32 → S5 → Option (Unit × S5)) (v1 : Int32) (v2 : Int32) (σ : S5) : Option (Unit × S5) :=
  if (gI σ 22) ≤ v2 then
    (rec29 (v1) σ)
  else
    (gd v2 640 <| f_X12_findTables_L55 rec29 rec37 FU (v1) (v2) ((xA σ 47 v2)) (0) σ)
def f_X12_findTables_L37 (rec29 : Int32 → S5 → Option (Unit × S5)) : Nat → Int32 → Int32 → S5 → Option (Unit × S5)
  | 0, _, _, _ => none
  | n + 1, v1, v2, σ => f_X12_findTables_B37 rec29 (f_X12_findTables_L37 rec29 n) v1 v2 σ
def f_X12_findTables_B29 (rec29 : Int32 → S5 → Option (Unit × S5)) (v1 : Int32) (σ : S5) : Option (Unit × S5) :=
  if v1 = 0 then
    (some ((), σ))
  else
    (f_X12_findTables_L37 rec29 FU (0) (0) σ)
def f_X12_findTables_L29 : Nat → Int32 → S5 → Option (Unit × S5)
  | 0, _, _ => none
  | n + 1, v1, σ => f_X12_findTables_B29 (f_X12_findTables_L29  n) v1 σ
def f_X12_findTables_B2 (rec2 : Int32 → S5 → Option (Unit × S5)) (v1 : Int32) (σ : S5) : Option (Unit × S5) :=
  if (256 * (gI σ 22)) ≤ v1 then
    (f_X12_findTables_L29  FU (1) σ)
  else
    (gd v1 163840 <| rec2 ((v1 + 1)) (pA σ 49 v1 (vp_nar .boolean 0)))
def f_X12_findTables_L2 : Nat → Int32 → S5 → Option (Unit × S5)
  | 0, _, _ => none
  | n + 1, v1, σ => f_X12_findTables_B2 (f_X12_findTables_L2  n) v1 σ
def f_X12_findTables  (σ : S5) : Option (Unit × S5) :=
  f_X12_findTables_L2  FU (0) σ
def f_X12_firstWithin_B2 (rec2 : Int32 → S5 → Option (Int32 × S5)) (v2 : Int32) (σ : S5) : Option (Int32 × S5) :=
  gd v2 7000 <| if (xA σ 34 v2) ≤ 0 then
    (some (v2, σ))
  else
    (bd (f_X12_child (v2) (0) σ) (fun r14 τ14 =>
    rec2 (r14) τ14))
def f_X12_firstWithin_L2 : Nat → Int32 → S5 → Option (Int32 × S5)
  | 0, _, _ => none
  | n + 1, v2, σ => f_X12_firstWithin_B2 (f_X12_firstWithin_L2  n) v2 σ
def f_X12_firstWithin (a1 : Int32) (σ : S5) : Option (Int32 × S5) :=
  f_X12_firstWithin_L2  FU (a1) σ
def f_X12_findNeeds_b121 (rec2 : Int32 → S5 → Option (Unit × S5)) (v1 : Int32) (σ : S5) : Option (Unit × S5) :=
  rec2 ((v1 + 1)) σ
def f_X12_findNeeds_b120 (rec2 : Int32 → S5 → Option (Unit × S5)) (v1 : Int32) (u0 : Int32) (u1 : Int32) (σ : S5) : Option (Unit × S5) :=
  gd u1 7000 <| f_X12_findNeeds_b121 rec2 (v1) (pA σ 36 u1 (vp_nar .boolean u0))
def f_X12_findNeeds_b90 (rec2 : Int32 → S5 → Option (Unit × S5)) (rec66 : Int32 → Int32 → Int32 → Int32 → S5 → Option (Unit × S5)) (v1 : Int32) (v2 : Int32) (v3 : Int32) (v4 : Int32) (u0 : Int32) (u1 : Int32) (σ : S5) : Option (Unit × S5) :=
  gd u1 640 <| rec66 (v1) (v2) (v3) ((v4 + 1)) (pA σ 51 u1 (vp_nar .boolean u0))
def f_X12_findNeeds_B66 (rec2 : Int32 → S5 → Option (Unit × S5)) (rec66 : Int32 → Int32 → Int32 → Int32 → S5 → Option (Unit × S5)) (v1 : Int32) (v2 : Int32) (v3 : Int32) (v4 : Int32) (σ : S5) : Option (Unit × S5) :=
  if 64 ≤ v4 then
    (bd (f_X12_firstWithin (v3) σ) (fun r105 τ105 =>
    bd (f_X12_bitOfPart (r105) (v3) τ105) (fun r109 τ109 =>
    if r109 = 0 then
      (f_X12_findNeeds_b120 rec2 (v1) (1) (v1) τ109)
    else
      (f_X12_findNeeds_b120 rec2 (v1) (0) (v1) τ109))))
  else
    (if v4 = v2 then
      (f_X12_findNeeds_b90 rec2 rec66 (v1) (v2) (v3) (v4) (0) (v4) σ)
    else
      (f_X12_findNeeds_b90 rec2 rec66 (v1) (v2) (v3) (v4) (1) (v4) σ))
def f_X12_findNeeds_L66 (rec2 : Int32 → S5 → Option (Unit × S5)) : Nat → Int32 → Int32 → Int32 → Int32 → S5 → Option (Unit × S5)
  | 0, _, _, _, _, _ => none
  | n + 1, v1, v2, v3, v4, σ => f_X12_findNeeds_B66 rec2 (f_X12_findNeeds_L66 rec2 n) v1 v2 v3 v4 σ
def f_X12_findNeeds_B2 (rec2 : Int32 → S5 → Option (Unit × S5)) (v1 : Int32) (σ : S5) : Option (Unit × S5) :=
  if (gI σ 26) ≤ v1 then
    (some ((), σ))
  else
    (gd v1 7000 <| if (xA σ 31 v1) = 0 then
      (gd v1 7000 <| if (xA σ 32 v1) = 1 then
        (gd v1 7000 <| bd (f_X12_child (v1) (1) σ) (fun r39 τ39 =>
        bd (f_X12_child (v1) (0) τ39) (fun r50 τ50 =>
        gd r50 7000 <| if (lg_cmp ((j_lshr (xB τ50 5 r50) (xA σ 35 v1)) &&& 1) 0) = 0 then
          (f_X12_findNeeds_L66 rec2 FU (v1) ((xA σ 35 v1)) (r39) (0) τ50)
        else
          (f_X12_findNeeds_b121 rec2 (v1) τ50))))
      else
        (f_X12_findNeeds_b121 rec2 (v1) σ))
    else
      (f_X12_findNeeds_b121 rec2 (v1) σ))
def f_X12_findNeeds_L2 : Nat → Int32 → S5 → Option (Unit × S5)
  | 0, _, _ => none
  | n + 1, v1, σ => f_X12_findNeeds_B2 (f_X12_findNeeds_L2  n) v1 σ
def f_X12_findNeeds  (σ : S5) : Option (Unit × S5) :=
  f_X12_findNeeds_L2  FU (0) σ
def f_X12_isNeeded (a1 : Int32) (a2 : Int32) (σ : S5) : Option (Int32 × S5) :=
  gd a1 640 <| bd (f_X12_table (a1) (((((1 : Int32) <<< ((xA σ 47 a1) &&& 31)) - 1) &&& (((1 : Int32) <<< (a2 &&& 31)) ^^^ (-1)))) σ) (fun r20 τ20 =>
  if r20 = 0 then
    (some ((1 : Int32), τ20))
  else
    (some ((0 : Int32), τ20)))
def f_X12_clearRun_B52 (rec52 : Int32 → S5 → Option (Unit × S5)) (v1 : Int32) (σ : S5) : Option (Unit × S5) :=
  if 640 ≤ v1 then
    (some ((), σ))
  else
    (gd v1 640 <| rec52 ((v1 + 1)) (pA σ 57 v1 0))
def f_X12_clearRun_L52 : Nat → Int32 → S5 → Option (Unit × S5)
  | 0, _, _ => none
  | n + 1, v1, σ => f_X12_clearRun_B52 (f_X12_clearRun_L52  n) v1 σ
def f_X12_clearRun  (σ : S5) : Option (Unit × S5) :=
  f_X12_clearRun_L52  FU (0) (pI (pI (pI (pI (pI (pI (pI (pI (pI (pI σ 44 0) 45 0) 38 0) 34 0) 39 0) 40 0) 41 0) 42 0) 43 0) 46 0)
def f_X12_program_B139 (rec129 : Int32 → S5 → Option (Int32 × S5)) (rec139 : Int32 → Int32 → S5 → Option (Int32 × S5)) (v1 : Int32) (v2 : Int32) (σ : S5) : Option (Int32 × S5) :=
  gd v1 640 <| if (xA σ 47 v1) ≤ v2 then
    (rec129 ((v1 + 1)) σ)
  else
    (bd (f_X12_isNeeded (v1) (v2) σ) (fun r162 τ162 =>
    gd ((8 * v1) + v2) 5120 <| rec139 (v1) ((v2 + 1)) (pA τ162 52 ((8 * v1) + v2) (vp_nar .boolean r162))))
def f_X12_program_L139 (rec129 : Int32 → S5 → Option (Int32 × S5)) : Nat → Int32 → Int32 → S5 → Option (Int32 × S5)
  | 0, _, _, _ => none
  | n + 1, v1, v2, σ => f_X12_program_B139 rec129 (f_X12_program_L139 rec129 n) v1 v2 σ
def f_X12_program_B129 (rec129 : Int32 → S5 → Option (Int32 × S5)) (v1 : Int32) (σ : S5) : Option (Int32 × S5) :=
  if (gI σ 22) ≤ v1 then
    (some ((gI σ 22), (pI σ 29 1)))
  else
    (f_X12_program_L139 rec129 FU (v1) (0) σ)
def f_X12_program_L129 : Nat → Int32 → S5 → Option (Int32 × S5)
  | 0, _, _ => none
  | n + 1, v1, σ => f_X12_program_B129 (f_X12_program_L129  n) v1 σ
def f_X12_program_b107 (u0 : Int32) (σ : S5) : Option (Int32 × S5) :=
  if (gI σ 7) ≤ 0 then
    (bd (f_X12_findTables  (pI σ 31 u0)) (fun _ τ120 =>
    bd (f_X12_findNeeds  τ120) (fun _ τ124 =>
    f_X12_program_L129  FU (0) τ124)))
  else
    (some (((-1) : Int32), (pI σ 31 u0)))
def f_X12_program_b83  (σ : S5) : Option (Int32 × S5) :=
  if (gI σ 7) ≤ 0 then
    (f_X12_program_b107  ((-1)) (pI σ 30 (gI σ 7)))
  else
    (f_X12_program_b107  ((gI σ 8)) (pI σ 30 (gI σ 7)))
def f_X12_program_b72  (σ : S5) : Option (Int32 × S5) :=
  if (gI σ 7) = 0 then
    (bd (f_X12_liftAll  σ) (fun _ τ80 =>
    f_X12_program_b83   τ80))
  else
    (f_X12_program_b83   σ)
def f_X12_program_b61  (σ : S5) : Option (Int32 × S5) :=
  if (gI σ 7) = 0 then
    (bd (f_X12_judge  σ) (fun _ τ69 =>
    f_X12_program_b72   τ69))
  else
    (f_X12_program_b72   σ)
def f_X12_program_b16 (u0 : Int32) (σ : S5) : Option (Int32 × S5) :=
  if u0 ≤ 0 then
    (bd (f_X12_clearRun  (pI (pI σ 0 u0) 29 0)) (fun _ τ34 =>
    bd (f_X12_readProgram  τ34) (fun _ τ38 =>
    if (gI τ38 7) = 0 then
      (bd (f_X12_numberAll  (pI τ38 1 0)) (fun _ τ54 =>
      bd (f_X12_find  τ54) (fun _ τ58 =>
      f_X12_program_b61   τ58)))
    else
      (f_X12_program_b61   (pI τ38 1 0)))))
  else
    (some ((0 : Int32), (pI σ 0 u0)))
def f_X12_program  (σ : S5) : Option (Int32 × S5) :=
  if (gI σ 12) < 20000 then
    (f_X12_program_b16  (0) σ)
  else
    (f_X12_program_b16  (1) σ)
def f_X12_value (a0 : Int32) (a1 : Int32) (σ : S5) : Option (Int64 × S5) :=
  some (((j_lshl ((a0).toInt64) 32) ||| (((a1).toInt64) &&& 4294967295)), σ)
def f_X12_kindOf (a0 : Int64) (σ : S5) : Option (Int32 × S5) :=
  some ((((j_lshr a0 32) : Int64).toInt32), σ)
def f_X12_of (a0 : Int64) (σ : S5) : Option (Int32 × S5) :=
  some (((a0 : Int64).toInt32), σ)
def f_X12_ends (a1 : Int32) (a2 : Int32) (σ : S5) : Option (Unit × S5) :=
  if (gI σ 44) = 0 then
    (some ((), (pI (pI σ 44 a1) 45 a2)))
  else
    (some ((), σ))
def f_X12_waits (a1 : Int32) (a2 : Int32) (a3 : Int32) (σ : S5) : Option (Unit × S5) :=
  gd (gI σ 48) 202000 <| gd (gI σ 48) 202000 <| gd (gI σ 48) 202000 <| some ((), (pI (pA (pA (pA σ 59 (gI σ 48) ((a1 <<< ((16 : Int32) &&& 31)) ||| a2)) 60 (gI σ 48) (gI σ 50)) 61 (gI σ 48) a3) 48 ((gI σ 48) + 1)))
def f_X12_evaluate (a1 : Int32) (σ : S5) : Option (Unit × S5) :=
  some ((), (pI (pI σ 52 a1) 53 0))
def f_X12_gives (a1 : Int64) (σ : S5) : Option (Unit × S5) :=
  some ((), (pI (pJ σ 1 a1) 53 1))
def f_X12_newCell_b156 (v5 : Int32) (u0 : Int32) (u1 : Int32) (σ : S5) : Option (Int32 × S5) :=
  some (v5, (pI σ 41 (u1 + u0)))
def f_X12_newCell_b138 (v1 : Int32) (v5 : Int32) (u0 : Int32) (u1 : Int32) (σ : S5) : Option (Int32 × S5) :=
  if v1 = 0 then
    (f_X12_newCell_b156  (v5) (1) ((gI σ 41)) (pI σ 40 (u1 + u0)))
  else
    (f_X12_newCell_b156  (v5) (0) ((gI σ 41)) (pI σ 40 (u1 + u0)))
def f_X12_newCell_b119 (v1 : Int32) (v5 : Int32) (u0 : Int32) (u1 : Int32) (σ : S5) : Option (Int32 × S5) :=
  if v1 = 1 then
    (f_X12_newCell_b138  (v1) (v5) (1) ((gI σ 40)) (pI σ 39 (u1 + u0)))
  else
    (f_X12_newCell_b138  (v1) (v5) (0) ((gI σ 40)) (pI σ 39 (u1 + u0)))
def f_X12_newCell (a1 : Int32) (a2 : Int32) (a3 : Int32) (a4 : Int32) (σ : S5) : Option (Int32 × S5) :=
  if ((gI σ 34) + a4) ≤ 4000 then
    (gd (gI σ 32) 4100 <| gd (gI σ 32) 4100 <| gd (gI σ 32) 4100 <| gd (gI σ 32) 4100 <| if a1 = 2 then
      (f_X12_newCell_b119  (a1) ((gI σ 32)) (1) ((gI σ 39)) (pI (pA (pA (pA (pA (pI (pI (pI σ 34 ((gI σ 34) + a4)) 35 ((gI σ 35) + a4)) 32 ((gI σ 32) + 1)) 53 (gI σ 32) a1) 54 (gI σ 32) a2) 55 (gI σ 32) (gI σ 33)) 56 (gI σ 32) a3) 33 ((gI σ 33) + a3)))
    else
      (f_X12_newCell_b119  (a1) ((gI σ 32)) (0) ((gI σ 39)) (pI (pA (pA (pA (pA (pI (pI (pI σ 34 ((gI σ 34) + a4)) 35 ((gI σ 35) + a4)) 32 ((gI σ 32) + 1)) 53 (gI σ 32) a1) 54 (gI σ 32) a2) 55 (gI σ 32) (gI σ 33)) 56 (gI σ 32) a3) 33 ((gI σ 33) + a3))))
  else
    (bd (f_X12_ends (3) (2) σ) (fun _ τ16 =>
    some (((-1) : Int32), τ16)))
def f_X12_isLess (a1 : Int32) (σ : S5) : Option (Int32 × S5) :=
  gd a1 7000 <| if (xA σ 31 a1) = 6 then
    (bd (f_X12_child (a1) (0) σ) (fun r18 τ18 =>
    gd r18 7000 <| if (xA τ18 31 r18) = 12 then
      (gd a1 7000 <| bd (f_X12_child (a1) (0) τ18) (fun r48 τ48 =>
      gd r48 7000 <| gd (xA τ48 32 r48) 640 <| if (xA τ48 47 (xA τ48 32 r48)) ≤ ((xA τ18 34 a1) - 1) then
        (some ((0 : Int32), τ48))
      else
        (some ((1 : Int32), τ48))))
    else
      (some ((0 : Int32), τ18))))
  else
    (some ((0 : Int32), σ))
def f_X12_ones_B4 (rec4 : Int32 → Int64 → S5 → Option (Int32 × S5)) (v2 : Int32) (v3 : Int64) (σ : S5) : Option (Int32 × S5) :=
  if (lg_cmp v3 0) = 0 then
    (some (v2, σ))
  else
    (rec4 ((v2 + 1)) ((v3 &&& (v3 - 1))) σ)
def f_X12_ones_L4 : Nat → Int32 → Int64 → S5 → Option (Int32 × S5)
  | 0, _, _, _ => none
  | n + 1, v2, v3, σ => f_X12_ones_B4 (f_X12_ones_L4  n) v2 v3 σ
def f_X12_ones (a0 : Int64) (σ : S5) : Option (Int32 × S5) :=
  f_X12_ones_L4  FU (0) (a0) σ
def f_X12_plain (a1 : Int32) (σ : S5) : Option (Int64 × S5) :=
  gd a1 7000 <| if (xA σ 31 a1) = 9 then
    (gd a1 7000 <| bd (f_X12_value (2) ((xA σ 32 a1)) σ) (fun r58 τ58 =>
    some (r58, τ58)))
  else if (xA σ 31 a1) = 10 then
    (gd a1 7000 <| bd (f_X12_value (0) ((xA σ 32 a1)) σ) (fun r47 τ47 =>
    some (r47, τ47)))
  else if (xA σ 31 a1) = 11 then
    (some (((-1) : Int64), σ))
  else if (xA σ 31 a1) = 12 then
    (gd a1 7000 <| gd (xA σ 32 a1) 640 <| if (xA σ 47 (xA σ 32 a1)) ≤ 0 then
      (gd a1 7000 <| gd (xA σ 32 a1) 640 <| bd (f_X12_value (3) ((xA σ 64 (xA σ 32 a1))) σ) (fun r101 τ101 =>
      some (r101, τ101)))
    else
      (gd a1 7000 <| bd (f_X12_value (1) ((xA σ 32 a1)) σ) (fun r83 τ83 =>
      some (r83, τ83))))
  else if (xA σ 31 a1) = 13 then
    (gd a1 7000 <| gd ((gI σ 50) + (xA σ 32 a1)) 193000 <| some ((xB σ 9 ((gI σ 50) + (xA σ 32 a1))), σ))
  else 
    (some (((-1) : Int64), σ))
def f_X12_make (a1 : Int32) (σ : S5) : Option (Int32 × S5) :=
  gd a1 7000 <| if (xA σ 31 a1) = 7 then
    (gd a1 7000 <| gd a1 7000 <| gd a1 7000 <| bd (f_X12_newCell (0) ((xA σ 32 a1)) ((xA σ 34 a1)) ((1 + (xA σ 34 a1))) σ) (fun r33 τ33 =>
    some (r33, τ33)))
  else
    (bd (f_X12_isLess (a1) σ) (fun r39 τ39 =>
    if r39 = 0 then
      (gd a1 7000 <| bd (f_X12_ones ((xB τ39 5 a1)) τ39) (fun r84 τ84 =>
      bd (f_X12_newCell (2) (a1) (r84) ((1 + r84)) τ84) (fun r95 τ95 =>
      some (r95, τ95))))
    else
      (bd (f_X12_child (a1) (0) τ39) (fun r54 τ54 =>
      gd r54 7000 <| gd a1 7000 <| gd a1 7000 <| bd (f_X12_newCell (1) ((xA τ54 32 r54)) (((xA τ54 34 a1) - 1)) ((1 + (xA τ54 34 a1))) τ54) (fun r74 τ74 =>
      some (r74, τ74))))))
def f_X12_fill_B104 (rec104 : Int32 → Int32 → Int32 → Int32 → S5 → Option (Unit × S5)) (v1 : Int32) (v3 : Int32) (v4 : Int32) (v5 : Int32) (σ : S5) : Option (Unit × S5) :=
  if v5 < 0 then
    (some ((), σ))
  else
    (bd (f_X12_child (v1) ((v4 + v5)) σ) (fun r124 τ124 =>
    gd (gI σ 54) 8000 <| gd (gI τ124 54) 8000 <| rec104 (v1) (v3) (v4) ((v5 + (-1))) (pI (pA (pA τ124 62 (gI σ 54) r124) 63 (gI τ124 54) (v3 + v5)) 54 ((gI τ124 54) + 1))))
def f_X12_fill_L104 : Nat → Int32 → Int32 → Int32 → Int32 → S5 → Option (Unit × S5)
  | 0, _, _, _, _, _ => none
  | n + 1, v1, v3, v4, v5, σ => f_X12_fill_B104 (f_X12_fill_L104  n) v1 v3 v4 v5 σ
def f_X12_fill_b92 (v1 : Int32) (v2 : Int32) (v3 : Int32) (u0 : Int32) (σ : S5) : Option (Unit × S5) :=
  gd v2 4100 <| f_X12_fill_L104  FU (v1) (v3) (u0) (((xA σ 56 v2) - 1)) σ
def f_X12_fill_b70 (rec23 : Int32 → Int32 → Int32 → Int32 → S5 → Option (Unit × S5)) (v1 : Int32) (v3 : Int32) (v4 : Int32) (v5 : Int32) (σ : S5) : Option (Unit × S5) :=
  rec23 (v1) (v3) (v4) ((v5 + 1)) σ
def f_X12_fill_B23 (rec23 : Int32 → Int32 → Int32 → Int32 → S5 → Option (Unit × S5)) (v1 : Int32) (v3 : Int32) (v4 : Int32) (v5 : Int32) (σ : S5) : Option (Unit × S5) :=
  if 40 ≤ v5 then
    (some ((), σ))
  else
    (gd v1 7000 <| if (lg_cmp ((j_lshr (xB σ 5 v1) v5) &&& 1) 1) = 0 then
      (gd ((gI σ 50) + v5) 193000 <| gd (v3 + v4) 4100 <| f_X12_fill_b70 rec23 (v1) (v3) ((v4 + 1)) (v5) (pB σ 7 (v3 + v4) (xB σ 9 ((gI σ 50) + v5))))
    else
      (f_X12_fill_b70 rec23 (v1) (v3) (v4) (v5) σ))
def f_X12_fill_L23 : Nat → Int32 → Int32 → Int32 → Int32 → S5 → Option (Unit × S5)
  | 0, _, _, _, _, _ => none
  | n + 1, v1, v3, v4, v5, σ => f_X12_fill_B23 (f_X12_fill_L23  n) v1 v3 v4 v5 σ
def f_X12_fill (a1 : Int32) (a2 : Int32) (σ : S5) : Option (Unit × S5) :=
  gd a2 4100 <| gd a2 4100 <| if (xA σ 53 a2) = 2 then
    (f_X12_fill_L23  FU (a1) ((xA σ 55 a2)) (0) (0) σ)
  else
    (gd a2 4100 <| if (xA σ 53 a2) = 1 then
      (f_X12_fill_b92  (a1) (a2) ((xA σ 55 a2)) (1) σ)
    else
      (f_X12_fill_b92  (a1) (a2) ((xA σ 55 a2)) (0) σ))
def f_X12_doTasks_b82 (rec0 : S5 → Option (Unit × S5)) (v2 : Int32) (v3 : Int64) (σ : S5) : Option (Unit × S5) :=
  gd v2 4100 <| rec0  (pB σ 7 v2 v3)
def f_X12_doTasks_B0 (rec0 : S5 → Option (Unit × S5))  (σ : S5) : Option (Unit × S5) :=
  if (gI σ 54) ≤ 0 then
    (some ((), σ))
  else
    (if (gI σ 44) = 0 then
      (gd ((gI σ 54) - 1) 8000 <| gd ((gI σ 54) - 1) 8000 <| bd (f_X12_plain ((xA σ 62 ((gI σ 54) - 1))) (pI σ 54 ((gI σ 54) - 1))) (fun r46 τ46 =>
      if 0 ≤ (lg_cmp r46 0) then
        (f_X12_doTasks_b82 rec0 ((xA σ 63 ((gI σ 54) - 1))) (r46) τ46)
      else
        (bd (f_X12_make ((xA σ 62 ((gI σ 54) - 1))) τ46) (fun r58 τ58 =>
        if r58 < 0 then
          (f_X12_doTasks_b82 rec0 ((xA σ 63 ((gI σ 54) - 1))) (r46) τ58)
        else
          (bd (f_X12_value (3) (r58) τ58) (fun r71 τ71 =>
          bd (f_X12_fill ((xA σ 62 ((gI σ 54) - 1))) (r58) τ71) (fun _ τ79 =>
          f_X12_doTasks_b82 rec0 ((xA σ 63 ((gI σ 54) - 1))) (r71) τ79)))))))
    else
      (some ((), σ)))
def f_X12_doTasks_L0 : Nat → S5 → Option (Unit × S5)
  | 0, _ => none
  | n + 1, σ => f_X12_doTasks_B0 (f_X12_doTasks_L0  n) σ
def f_X12_doTasks  (σ : S5) : Option (Unit × S5) :=
  f_X12_doTasks_L0  FU  σ
def f_X12_keep (a1 : Int32) (σ : S5) : Option (Int64 × S5) :=
  bd (f_X12_plain (a1) σ) (fun r2 τ2 =>
  if (lg_cmp r2 0) < 0 then
    (bd (f_X12_make (a1) τ2) (fun r16 τ16 =>
    if 0 ≤ r16 then
      (bd (f_X12_fill (a1) (r16) (pI τ16 54 0)) (fun _ τ37 =>
      bd (f_X12_doTasks  τ37) (fun _ τ41 =>
      bd (f_X12_value (3) (r16) τ41) (fun r47 τ47 =>
      some (r47, τ47)))))
    else
      (some ((0 : Int64), τ16))))
  else
    (some (r2, τ2)))
def f_X12_keepBindings_b214 (rec125 : Int32 → Int32 → Int32 → Int32 → S5 → Option (Unit × S5)) (v1 : Int32) (v2 : Int32) (v3 : Int32) (v4 : Int32) (σ : S5) : Option (Unit × S5) :=
  rec125 (v1) (v2) (v3) ((v4 + 1)) σ
def f_X12_keepBindings_b175 (rec125 : Int32 → Int32 → Int32 → Int32 → S5 → Option (Unit × S5)) (v1 : Int32) (v2 : Int32) (v3 : Int32) (v4 : Int32) (v5 : Int32) (u0 : Int32) (σ : S5) : Option (Unit × S5) :=
  if u0 = 0 then
    (f_X12_keepBindings_b214 rec125 (v1) (v2) (v3) (v4) σ)
  else
    (gd (((gI σ 50) + v3) + v4) 193000 <| bd (f_X12_of ((xB σ 9 (((gI σ 50) + v3) + v4))) (pI σ 54 0)) (fun r204 τ204 =>
    bd (f_X12_fill (v5) (r204) τ204) (fun _ τ207 =>
    bd (f_X12_doTasks  τ207) (fun _ τ211 =>
    f_X12_keepBindings_b214 rec125 (v1) (v2) (v3) (v4) τ211))))
def f_X12_keepBindings_b170 (rec125 : Int32 → Int32 → Int32 → Int32 → S5 → Option (Unit × S5)) (v1 : Int32) (v2 : Int32) (v3 : Int32) (v4 : Int32) (v5 : Int32) (σ : S5) : Option (Unit × S5) :=
  f_X12_keepBindings_b175 rec125 (v1) (v2) (v3) (v4) (v5) (1) σ
def f_X12_keepBindings_B125 (rec125 : Int32 → Int32 → Int32 → Int32 → S5 → Option (Unit × S5)) (v1 : Int32) (v2 : Int32) (v3 : Int32) (v4 : Int32) (σ : S5) : Option (Unit × S5) :=
  if v2 ≤ v4 then
    (some ((), σ))
  else
    (if (gI σ 44) = 0 then
      (bd (f_X12_child (v1) (v4) σ) (fun r142 τ142 =>
      gd r142 7000 <| if (xA τ142 31 r142) = 13 then
        (f_X12_keepBindings_b170 rec125 (v1) (v2) (v3) (v4) (r142) τ142)
      else
        (bd (f_X12_plain (r142) τ142) (fun r162 τ162 =>
        if 0 ≤ (lg_cmp r162 0) then
          (f_X12_keepBindings_b175 rec125 (v1) (v2) (v3) (v4) (r142) (0) τ162)
        else
          (f_X12_keepBindings_b170 rec125 (v1) (v2) (v3) (v4) (r142) τ162)))))
    else
      (some ((), σ)))
def f_X12_keepBindings_L125 : Nat → Int32 → Int32 → Int32 → Int32 → S5 → Option (Unit × S5)
  | 0, _, _, _, _, _ => none
  | n + 1, v1, v2, v3, v4, σ => f_X12_keepBindings_B125 (f_X12_keepBindings_L125  n) v1 v2 v3 v4 σ
def f_X12_keepBindings_b122 (v1 : Int32) (v2 : Int32) (v3 : Int32) (σ : S5) : Option (Unit × S5) :=
  f_X12_keepBindings_L125  FU (v1) (v2) (v3) (0) σ
def f_X12_keepBindings_b115 (rec17 : Int32 → Int32 → Int32 → Int32 → S5 → Option (Unit × S5)) (v1 : Int32) (v2 : Int32) (v3 : Int32) (v4 : Int32) (u0 : Int64) (u1 : Int32) (σ : S5) : Option (Unit × S5) :=
  gd u1 193000 <| rec17 (v1) (v2) (v3) ((v4 + 1)) (pB σ 9 u1 u0)
def f_X12_keepBindings_b82 (rec17 : Int32 → Int32 → Int32 → Int32 → S5 → Option (Unit × S5)) (v1 : Int32) (v2 : Int32) (v3 : Int32) (v4 : Int32) (v6 : Int64) (u0 : Int32) (σ : S5) : Option (Unit × S5) :=
  if 0 ≤ (lg_cmp v6 0) then
    (f_X12_keepBindings_b115 rec17 (v1) (v2) (v3) (v4) (v6) ((((gI σ 50) + v3) + v4)) σ)
  else
    (bd (f_X12_value (3) (u0) σ) (fun r107 τ107 =>
    f_X12_keepBindings_b115 rec17 (v1) (v2) (v3) (v4) (r107) ((((gI σ 50) + v3) + v4)) τ107))
def f_X12_keepBindings_b63 (rec17 : Int32 → Int32 → Int32 → Int32 → S5 → Option (Unit × S5)) (v1 : Int32) (v2 : Int32) (v3 : Int32) (v4 : Int32) (v5 : Int32) (u0 : Int64) (σ : S5) : Option (Unit × S5) :=
  if 0 ≤ (lg_cmp u0 0) then
    (f_X12_keepBindings_b82 rec17 (v1) (v2) (v3) (v4) (u0) (0) σ)
  else
    (bd (f_X12_make (v5) σ) (fun r75 τ75 =>
    f_X12_keepBindings_b82 rec17 (v1) (v2) (v3) (v4) (u0) (r75) τ75))
def f_X12_keepBindings_B17 (rec17 : Int32 → Int32 → Int32 → Int32 → S5 → Option (Unit × S5)) (v1 : Int32) (v2 : Int32) (v3 : Int32) (v4 : Int32) (σ : S5) : Option (Unit × S5) :=
  if v2 ≤ v4 then
    (f_X12_keepBindings_b122  (v1) (v2) (v3) σ)
  else
    (if (gI σ 44) = 0 then
      (bd (f_X12_child (v1) (v4) σ) (fun r34 τ34 =>
      gd r34 7000 <| if (xA τ34 31 r34) = 13 then
        (f_X12_keepBindings_b63 rec17 (v1) (v2) (v3) (v4) (r34) ((-1)) τ34)
      else
        (bd (f_X12_plain (r34) τ34) (fun r60 τ60 =>
        f_X12_keepBindings_b63 rec17 (v1) (v2) (v3) (v4) (r34) (r60) τ60))))
    else
      (f_X12_keepBindings_b122  (v1) (v2) (v3) σ))
def f_X12_keepBindings_L17 : Nat → Int32 → Int32 → Int32 → Int32 → S5 → Option (Unit × S5)
  | 0, _, _, _, _, _ => none
  | n + 1, v1, v2, v3, v4, σ => f_X12_keepBindings_B17 (f_X12_keepBindings_L17  n) v1 v2 v3 v4 σ
def f_X12_keepBindings (a1 : Int32) (σ : S5) : Option (Unit × S5) :=
  gd a1 7000 <| gd a1 7000 <| f_X12_keepBindings_L17  FU (a1) ((xA σ 32 a1)) ((xA σ 35 a1)) (0) σ
def f_X12_frame (a1 : Int32) (σ : S5) : Option (Unit × S5) :=
  bd (f_X12_waits (1) (0) ((gI σ 51)) σ) (fun _ τ7 =>
  gd a1 640 <| some ((), (pI (pI τ7 50 (gI τ7 51)) 51 ((gI τ7 51) + (xA τ7 46 a1)))))
def f_X12_enter_b183 (v4 : Int32) (σ : S5) : Option (Unit × S5) :=
  bd (f_X12_evaluate (v4) σ) (fun _ τ186 =>
  some ((), τ186))
def f_X12_enter_b177 (rec113 : Int32 → Int32 → Int32 → Int32 → S5 → Option (Unit × S5)) (v3 : Int32) (v4 : Int32) (v5 : Int32) (v6 : Int32) (σ : S5) : Option (Unit × S5) :=
  rec113 (v3) (v4) (v5) ((v6 + 1)) σ
def f_X12_enter_B113 (rec113 : Int32 → Int32 → Int32 → Int32 → S5 → Option (Unit × S5)) (v3 : Int32) (v4 : Int32) (v5 : Int32) (v6 : Int32) (σ : S5) : Option (Unit × S5) :=
  if 40 ≤ v6 then
    (f_X12_enter_b183  (v4) σ)
  else
    (gd v3 4100 <| if (xA σ 56 v3) ≤ v5 then
      (f_X12_enter_b183  (v4) σ)
    else
      (gd v4 7000 <| if (lg_cmp ((j_lshr (xB σ 5 v4) v6) &&& 1) 1) = 0 then
        (gd v3 4100 <| gd ((xA σ 55 v3) + v5) 4100 <| gd ((gI σ 50) + v6) 193000 <| f_X12_enter_b177 rec113 (v3) (v4) ((v5 + 1)) (v6) (pB σ 9 ((gI σ 50) + v6) (xB σ 7 ((xA σ 55 v3) + v5))))
      else
        (f_X12_enter_b177 rec113 (v3) (v4) (v5) (v6) σ)))
def f_X12_enter_L113 : Nat → Int32 → Int32 → Int32 → Int32 → S5 → Option (Unit × S5)
  | 0, _, _, _, _, _ => none
  | n + 1, v3, v4, v5, v6, σ => f_X12_enter_B113 (f_X12_enter_L113  n) v3 v4 v5 v6 σ
def f_X12_enter (a1 : Int64) (σ : S5) : Option (Unit × S5) :=
  bd (f_X12_kindOf (a1) σ) (fun r1 τ1 =>
  if r1 = 3 then
    (bd (f_X12_of (a1) τ1) (fun r15 τ15 =>
    gd r15 4100 <| if (xA τ15 53 r15) = 2 then
      (gd r15 4100 <| gd r15 4100 <| bd (f_X12_waits (0) (0) (r15) (pA τ15 53 r15 3)) (fun _ τ93 =>
      gd (xA τ15 54 r15) 7000 <| bd (f_X12_frame ((xA τ93 38 (xA τ15 54 r15))) τ93) (fun _ τ104 =>
      f_X12_enter_L113  FU (r15) ((xA τ15 54 r15)) (0) (0) τ104)))
    else if (xA τ15 53 r15) = 3 then
      (bd (f_X12_ends (2) (3) τ15) (fun _ τ68 =>
      some ((), τ68)))
    else if (xA τ15 53 r15) = 4 then
      (gd r15 4100 <| bd (f_X12_gives ((xB τ15 6 r15)) τ15) (fun _ τ59 =>
      some ((), τ59)))
    else 
      (bd (f_X12_gives (a1) τ15) (fun _ τ194 =>
      some ((), τ194)))))
  else
    (bd (f_X12_gives (a1) τ1) (fun _ τ10 =>
    some ((), τ10))))
def f_X12_call_B200 (rec200 : Int32 → Int32 → Int32 → Int32 → Int32 → S5 → Option (Unit × S5)) (v1 : Int32) (v5 : Int32) (v6 : Int32) (v7 : Int32) (v8 : Int32) (σ : S5) : Option (Unit × S5) :=
  if v6 ≤ v8 then
    (gd v1 640 <| bd (f_X12_evaluate ((xA σ 45 v1)) (pI σ 49 (v7 + v6))) (fun _ τ252 =>
    some ((), τ252)))
  else
    (gd ((v7 + v5) + v8) 580000 <| gd (v7 + v8) 580000 <| rec200 (v1) (v5) (v6) (v7) ((v8 + 1)) (pB σ 8 (v7 + v8) (xB σ 8 ((v7 + v5) + v8))))
def f_X12_call_L200 : Nat → Int32 → Int32 → Int32 → Int32 → Int32 → S5 → Option (Unit × S5)
  | 0, _, _, _, _, _, _ => none
  | n + 1, v1, v5, v6, v7, v8, σ => f_X12_call_B200 (f_X12_call_L200  n) v1 v5 v6 v7 v8 σ
def f_X12_call_B159 (rec159 : Int32 → Int32 → Int32 → Int32 → Int32 → Int32 → S5 → Option (Unit × S5)) (v1 : Int32) (v4 : Int32) (v5 : Int32) (v6 : Int32) (v7 : Int32) (v8 : Int32) (σ : S5) : Option (Unit × S5) :=
  if v5 ≤ v8 then
    (f_X12_call_L200  FU (v1) (v5) (v6) (v7) (0) σ)
  else
    (gd (v7 + v8) 580000 <| gd (((gI σ 50) + v4) + v8) 193000 <| rec159 (v1) (v4) (v5) (v6) (v7) ((v8 + 1)) (pB σ 9 (((gI σ 50) + v4) + v8) (xB σ 8 (v7 + v8))))
def f_X12_call_L159 : Nat → Int32 → Int32 → Int32 → Int32 → Int32 → Int32 → S5 → Option (Unit × S5)
  | 0, _, _, _, _, _, _, _ => none
  | n + 1, v1, v4, v5, v6, v7, v8, σ => f_X12_call_B159 (f_X12_call_L159  n) v1 v4 v5 v6 v7 v8 σ
def f_X12_call_B117 (rec117 : Int32 → Int32 → Int32 → Int32 → Int32 → Int32 → Int32 → S5 → Option (Unit × S5)) (v1 : Int32) (v2 : Int32) (v4 : Int32) (v5 : Int32) (v6 : Int32) (v7 : Int32) (v8 : Int32) (σ : S5) : Option (Unit × S5) :=
  if v4 ≤ v8 then
    (f_X12_call_L159  FU (v1) (v4) (v5) (v6) (v7) (0) σ)
  else
    (gd v2 4100 <| gd ((xA σ 55 v2) + v8) 4100 <| gd ((gI σ 50) + v8) 193000 <| rec117 (v1) (v2) (v4) (v5) (v6) (v7) ((v8 + 1)) (pB σ 9 ((gI σ 50) + v8) (xB σ 7 ((xA σ 55 v2) + v8))))
def f_X12_call_L117 : Nat → Int32 → Int32 → Int32 → Int32 → Int32 → Int32 → Int32 → S5 → Option (Unit × S5)
  | 0, _, _, _, _, _, _, _, _ => none
  | n + 1, v1, v2, v4, v5, v6, v7, v8, σ => f_X12_call_B117 (f_X12_call_L117  n) v1 v2 v4 v5 v6 v7 v8 σ
def f_X12_call_b109 (v1 : Int32) (v2 : Int32) (v4 : Int32) (v5 : Int32) (v6 : Int32) (v7 : Int32) (σ : S5) : Option (Unit × S5) :=
  bd (f_X12_frame (v1) σ) (fun _ τ111 =>
  f_X12_call_L117  FU (v1) (v2) (v4) (v5) (v6) (v7) (0) τ111)
def f_X12_call_b68 (v1 : Int32) (v2 : Int32) (v3 : Int32) (u0 : Int32) (σ : S5) : Option (Unit × S5) :=
  gd v1 640 <| if (v3 - ((xA σ 47 v1) - u0)) ≤ 0 then
    (f_X12_call_b109  (v1) (v2) (u0) (((xA σ 47 v1) - u0)) ((v3 - ((xA σ 47 v1) - u0))) (((gI σ 49) - v3)) σ)
  else
    (bd (f_X12_waits (7) (0) ((v3 - ((xA σ 47 v1) - u0))) σ) (fun _ τ106 =>
    f_X12_call_b109  (v1) (v2) (u0) (((xA σ 47 v1) - u0)) ((v3 - ((xA σ 47 v1) - u0))) (((gI σ 49) - v3)) τ106))
def f_X12_call (a1 : Int32) (a2 : Int32) (a3 : Int32) (σ : S5) : Option (Unit × S5) :=
  if (gI σ 37) = 0 then
    (bd (f_X12_ends (3) (1) σ) (fun _ τ10 =>
    some ((), τ10)))
  else
    (gd a1 640 <| gd a1 640 <| if 0 ≤ a2 then
      (gd a2 4100 <| f_X12_call_b68  (a1) (a2) (a3) ((xA σ 56 a2)) (pA (pI (pI (pI σ 37 ((gI σ 37) - 1)) 38 ((gI σ 38) + 1)) 36 ((gI σ 36) + 1)) 57 a1 ((xA σ 57 a1) + 1)))
    else
      (f_X12_call_b68  (a1) (a2) (a3) (0) (pA (pI (pI (pI σ 37 ((gI σ 37) - 1)) 38 ((gI σ 38) + 1)) 36 ((gI σ 36) + 1)) 57 a1 ((xA σ 57 a1) + 1))))
def f_X12_push (a1 : Int64) (σ : S5) : Option (Unit × S5) :=
  gd (gI σ 49) 580000 <| some ((), (pI (pB σ 8 (gI σ 49) a1) 49 ((gI σ 49) + 1)))
def f_X12_arguments_b132 (v3 : Int32) (v5 : Int32) (σ : S5) : Option (Unit × S5) :=
  if (gI σ 44) = 0 then
    (bd (f_X12_call (v3) ((-1)) (v5) σ) (fun _ τ144 =>
    some ((), τ144)))
  else
    (some ((), σ))
def f_X12_arguments_b109 (rec33 : Int32 → Int32 → Int32 → Int32 → Int32 → S5 → Option (Unit × S5)) (v1 : Int32) (v3 : Int32) (v4 : Int32) (v5 : Int32) (v6 : Int32) (σ : S5) : Option (Unit × S5) :=
  bd (f_X12_child (v1) ((1 + v6)) σ) (fun r117 τ117 =>
  bd (f_X12_keep (r117) τ117) (fun r120 τ120 =>
  bd (f_X12_push (r120) τ120) (fun _ τ123 =>
  rec33 (v1) (v3) (v4) (v5) ((v6 + 1)) τ123)))
def f_X12_arguments_B33 (rec33 : Int32 → Int32 → Int32 → Int32 → Int32 → S5 → Option (Unit × S5)) (v1 : Int32) (v3 : Int32) (v4 : Int32) (v5 : Int32) (v6 : Int32) (σ : S5) : Option (Unit × S5) :=
  if v5 ≤ v6 then
    (f_X12_arguments_b132  (v3) (v5) σ)
  else
    (if (gI σ 44) = 0 then
      (if v4 ≤ v6 then
        (f_X12_arguments_b109 rec33 (v1) (v3) (v4) (v5) (v6) σ)
      else
        (if (gI σ 47) = 0 then
          (f_X12_arguments_b109 rec33 (v1) (v3) (v4) (v5) (v6) σ)
        else
          (gd ((8 * v3) + v6) 5120 <| if (xA σ 52 ((8 * v3) + v6)) = 0 then
            (f_X12_arguments_b109 rec33 (v1) (v3) (v4) (v5) (v6) σ)
          else
            (bd (f_X12_waits (6) (v1) (v6) (pI σ 43 ((gI σ 43) + 1))) (fun _ τ92 =>
            bd (f_X12_child (v1) ((1 + v6)) τ92) (fun r102 τ102 =>
            bd (f_X12_evaluate (r102) τ102) (fun _ τ105 =>
            some ((), τ105))))))))
    else
      (f_X12_arguments_b132  (v3) (v5) σ))
def f_X12_arguments_L33 : Nat → Int32 → Int32 → Int32 → Int32 → Int32 → S5 → Option (Unit × S5)
  | 0, _, _, _, _, _, _ => none
  | n + 1, v1, v3, v4, v5, v6, σ => f_X12_arguments_B33 (f_X12_arguments_L33  n) v1 v3 v4 v5 v6 σ
def f_X12_arguments (a1 : Int32) (a2 : Int32) (σ : S5) : Option (Unit × S5) :=
  bd (f_X12_child (a1) (0) σ) (fun r7 τ7 =>
  gd r7 7000 <| gd (xA τ7 32 r7) 640 <| gd a1 7000 <| f_X12_arguments_L33  FU (a1) ((xA τ7 32 r7)) ((xA τ7 47 (xA τ7 32 r7))) (((xA τ7 34 a1) - 1)) (a2) τ7)
def f_X12_workApplication_b117 (v2 : Int32) (v3 : Int32) (σ : S5) : Option (Unit × S5) :=
  bd (f_X12_waits (7) (0) (v3) σ) (fun _ τ122 =>
  bd (f_X12_evaluate (v2) τ122) (fun _ τ127 =>
  some ((), τ127)))
def f_X12_workApplication_B81 (rec81 : Int32 → Int32 → Int32 → Int32 → S5 → Option (Unit × S5)) (v1 : Int32) (v2 : Int32) (v3 : Int32) (v5 : Int32) (σ : S5) : Option (Unit × S5) :=
  if v3 ≤ v5 then
    (f_X12_workApplication_b117  (v2) (v3) σ)
  else
    (if (gI σ 44) = 0 then
      (bd (f_X12_child (v1) ((1 + v5)) σ) (fun r102 τ102 =>
      bd (f_X12_keep (r102) τ102) (fun r105 τ105 =>
      bd (f_X12_push (r105) τ105) (fun _ τ108 =>
      rec81 (v1) (v2) (v3) ((v5 + 1)) τ108))))
    else
      (f_X12_workApplication_b117  (v2) (v3) σ))
def f_X12_workApplication_L81 : Nat → Int32 → Int32 → Int32 → Int32 → S5 → Option (Unit × S5)
  | 0, _, _, _, _, _ => none
  | n + 1, v1, v2, v3, v5, σ => f_X12_workApplication_B81 (f_X12_workApplication_L81  n) v1 v2 v3 v5 σ
def f_X12_workApplication_b42 (v1 : Int32) (v2 : Int32) (v3 : Int32) (u0 : Int32) (σ : S5) : Option (Unit × S5) :=
  bd (f_X12_isLess (v1) σ) (fun r46 τ46 =>
  if r46 = 0 then
    (if u0 ≤ 0 then
      (f_X12_workApplication_L81  FU (v1) (v2) (v3) (0) τ46)
    else
      (bd (f_X12_arguments (v1) (0) τ46) (fun _ τ72 =>
      some ((), τ72))))
  else
    (bd (f_X12_keep (v1) τ46) (fun r55 τ55 =>
    bd (f_X12_gives (r55) τ55) (fun _ τ58 =>
    some ((), τ58)))))
def f_X12_workApplication (a1 : Int32) (σ : S5) : Option (Unit × S5) :=
  bd (f_X12_child (a1) (0) σ) (fun r3 τ3 =>
  gd a1 7000 <| gd r3 7000 <| if (xA τ3 31 r3) = 12 then
    (gd r3 7000 <| gd (xA τ3 32 r3) 640 <| f_X12_workApplication_b42  (a1) (r3) (((xA τ3 34 a1) - 1)) ((xA τ3 47 (xA τ3 32 r3))) τ3)
  else
    (f_X12_workApplication_b42  (a1) (r3) (((xA τ3 34 a1) - 1)) (0) τ3))
def f_X12_workPart_b222 (v1 : Int32) (σ : S5) : Option (Unit × S5) :=
  bd (f_X12_keepBindings (v1) σ) (fun _ τ224 =>
  gd v1 7000 <| bd (f_X12_child (v1) ((xA τ224 32 v1)) τ224) (fun r236 τ236 =>
  bd (f_X12_evaluate (r236) τ236) (fun _ τ239 =>
  some ((), τ239))))
def f_X12_workPart  (σ : S5) : Option (Unit × S5) :=
  gd (gI σ 52) 7000 <| if (xA σ 31 (gI σ 52)) = 0 then
    (if (gI σ 47) = 0 then
      (f_X12_workPart_b222  ((gI σ 52)) σ)
    else
      (gd (gI σ 52) 7000 <| if (xA σ 36 (gI σ 52)) = 0 then
        (f_X12_workPart_b222  ((gI σ 52)) σ)
      else
        (bd (f_X12_waits (5) ((gI σ 52)) (0) (pI σ 43 ((gI σ 43) + 1))) (fun _ τ206 =>
        bd (f_X12_child ((gI σ 52)) (0) τ206) (fun r213 τ213 =>
        bd (f_X12_evaluate (r213) τ213) (fun _ τ216 =>
        some ((), τ216)))))))
  else if (xA σ 31 (gI σ 52)) = 1 then
    (bd (f_X12_workApplication ((gI σ 52)) σ) (fun _ τ247 =>
    some ((), τ247)))
  else if (xA σ 31 (gI σ 52)) = 2 then
    (bd (f_X12_workApplication ((gI σ 52)) σ) (fun _ τ247 =>
    some ((), τ247)))
  else if (xA σ 31 (gI σ 52)) = 3 then
    (bd (f_X12_waits (4) ((gI σ 52)) (0) σ) (fun _ τ160 =>
    bd (f_X12_child ((gI σ 52)) (0) τ160) (fun r167 τ167 =>
    bd (f_X12_evaluate (r167) τ167) (fun _ τ170 =>
    some ((), τ170)))))
  else if (xA σ 31 (gI σ 52)) = 4 then
    (bd (f_X12_workApplication ((gI σ 52)) σ) (fun _ τ247 =>
    some ((), τ247)))
  else if (xA σ 31 (gI σ 52)) = 5 then
    (bd (f_X12_waits (2) ((gI σ 52)) (0) σ) (fun _ τ140 =>
    bd (f_X12_child ((gI σ 52)) (0) τ140) (fun r147 τ147 =>
    bd (f_X12_evaluate (r147) τ147) (fun _ τ150 =>
    some ((), τ150)))))
  else if (xA σ 31 (gI σ 52)) = 6 then
    (bd (f_X12_workApplication ((gI σ 52)) σ) (fun _ τ247 =>
    some ((), τ247)))
  else if (xA σ 31 (gI σ 52)) = 7 then
    (bd (f_X12_keep ((gI σ 52)) σ) (fun r127 τ127 =>
    bd (f_X12_gives (r127) τ127) (fun _ τ130 =>
    some ((), τ130))))
  else if (xA σ 31 (gI σ 52)) = 8 then
    (bd (f_X12_workApplication ((gI σ 52)) σ) (fun _ τ247 =>
    some ((), τ247)))
  else if (xA σ 31 (gI σ 52)) = 9 then
    (bd (f_X12_plain ((gI σ 52)) σ) (fun r106 τ106 =>
    bd (f_X12_enter (r106) τ106) (fun _ τ109 =>
    some ((), τ109))))
  else if (xA σ 31 (gI σ 52)) = 10 then
    (bd (f_X12_plain ((gI σ 52)) σ) (fun r106 τ106 =>
    bd (f_X12_enter (r106) τ106) (fun _ τ109 =>
    some ((), τ109))))
  else if (xA σ 31 (gI σ 52)) = 11 then
    (bd (f_X12_ends (2) (5) σ) (fun _ τ118 =>
    some ((), τ118)))
  else if (xA σ 31 (gI σ 52)) = 12 then
    (bd (f_X12_plain ((gI σ 52)) σ) (fun r106 τ106 =>
    bd (f_X12_enter (r106) τ106) (fun _ τ109 =>
    some ((), τ109))))
  else if (xA σ 31 (gI σ 52)) = 13 then
    (gd (gI σ 52) 7000 <| gd ((gI σ 50) + (xA σ 32 (gI σ 52))) 193000 <| bd (f_X12_enter ((xB σ 9 ((gI σ 50) + (xA σ 32 (gI σ 52))))) σ) (fun _ τ97 =>
    some ((), τ97)))
  else 
    (bd (f_X12_workApplication ((gI σ 52)) σ) (fun _ τ247 =>
    some ((), τ247)))
def f_X12_apply_B210 (rec210 : Int32 → Int32 → Int32 → Int32 → S5 → Option (Unit × S5)) (v3 : Int32) (v7 : Int32) (v8 : Int32) (v9 : Int32) (σ : S5) : Option (Unit × S5) :=
  if v3 ≤ v9 then
    (bd (f_X12_value (3) (v8) σ) (fun r256 τ256 =>
    bd (f_X12_gives (r256) τ256) (fun _ τ259 =>
    some ((), τ259))))
  else
    (gd v8 4100 <| gd ((gI σ 49) + v9) 580000 <| gd (((xA σ 55 v8) + v7) + v9) 4100 <| rec210 (v3) (v7) (v8) ((v9 + 1)) (pB σ 7 (((xA σ 55 v8) + v7) + v9) (xB σ 8 ((gI σ 49) + v9))))
def f_X12_apply_L210 : Nat → Int32 → Int32 → Int32 → Int32 → S5 → Option (Unit × S5)
  | 0, _, _, _, _, _ => none
  | n + 1, v3, v7, v8, v9, σ => f_X12_apply_B210 (f_X12_apply_L210  n) v3 v7 v8 v9 σ
def f_X12_apply_B154 (rec154 : Int32 → Int32 → Int32 → Int32 → Int32 → S5 → Option (Unit × S5)) (v3 : Int32) (v5 : Int32) (v7 : Int32) (v8 : Int32) (v9 : Int32) (σ : S5) : Option (Unit × S5) :=
  if v7 ≤ v9 then
    (f_X12_apply_L210  FU (v3) (v7) (v8) (0) (pI σ 49 ((gI σ 49) - v3)))
  else
    (gd v8 4100 <| gd v5 4100 <| gd ((xA σ 55 v5) + v9) 4100 <| gd ((xA σ 55 v8) + v9) 4100 <| rec154 (v3) (v5) (v7) (v8) ((v9 + 1)) (pB σ 7 ((xA σ 55 v8) + v9) (xB σ 7 ((xA σ 55 v5) + v9))))
def f_X12_apply_L154 : Nat → Int32 → Int32 → Int32 → Int32 → Int32 → S5 → Option (Unit × S5)
  | 0, _, _, _, _, _, _ => none
  | n + 1, v3, v5, v7, v8, v9, σ => f_X12_apply_B154 (f_X12_apply_L154  n) v3 v5 v7 v8 v9 σ
def f_X12_apply_b100 (v3 : Int32) (v5 : Int32) (v6 : Int32) (u0 : Int32) (σ : S5) : Option (Unit × S5) :=
  gd v6 640 <| if (u0 + v3) < (xA σ 47 v6) then
    (bd (f_X12_newCell (1) (v6) ((u0 + v3)) (((2 + u0) + v3)) σ) (fun r140 τ140 =>
    if 0 ≤ r140 then
      (f_X12_apply_L154  FU (v3) (v5) (u0) (r140) (0) τ140)
    else
      (some ((), τ140))))
  else
    (bd (f_X12_call (v6) (v5) (v3) σ) (fun _ τ122 =>
    some ((), τ122)))
def f_X12_apply_b82 (v3 : Int32) (v4 : Int32) (v5 : Int32) (u0 : Int32) (σ : S5) : Option (Unit × S5) :=
  if v4 = 0 then
    (f_X12_apply_b100  (v3) (v5) (u0) (0) σ)
  else
    (gd v5 4100 <| f_X12_apply_b100  (v3) (v5) (u0) ((xA σ 56 v5)) σ)
def f_X12_apply_b61 (v1 : Int64) (v3 : Int32) (v4 : Int32) (u0 : Int32) (σ : S5) : Option (Unit × S5) :=
  if v4 = 0 then
    (bd (f_X12_of (v1) σ) (fun r79 τ79 =>
    f_X12_apply_b82  (v3) (v4) (u0) (r79) τ79))
  else
    (gd u0 4100 <| f_X12_apply_b82  (v3) (v4) (u0) ((xA σ 54 u0)) σ)
def f_X12_apply_b48 (v1 : Int64) (v3 : Int32) (v4 : Int32) (σ : S5) : Option (Unit × S5) :=
  if v4 = 0 then
    (f_X12_apply_b61  (v1) (v3) (v4) ((-1)) σ)
  else
    (bd (f_X12_of (v1) σ) (fun r54 τ54 =>
    f_X12_apply_b61  (v1) (v3) (v4) (r54) τ54))
def f_X12_apply_b26 (v1 : Int64) (v3 : Int32) (u0 : Int32) (σ : S5) : Option (Unit × S5) :=
  if u0 = 0 then
    (bd (f_X12_kindOf (v1) σ) (fun r34 τ34 =>
    if r34 = 1 then
      (f_X12_apply_b48  (v1) (v3) (u0) τ34)
    else
      (bd (f_X12_ends (2) (4) τ34) (fun _ τ44 =>
      some ((), τ44)))))
  else
    (f_X12_apply_b48  (v1) (v3) (u0) σ)
def f_X12_apply_b25 (v1 : Int64) (v3 : Int32) (σ : S5) : Option (Unit × S5) :=
  f_X12_apply_b26  (v1) (v3) (0) σ
def f_X12_apply (a1 : Int64) (a3 : Int32) (σ : S5) : Option (Unit × S5) :=
  bd (f_X12_kindOf (a1) σ) (fun r1 τ1 =>
  if r1 = 3 then
    (bd (f_X12_of (a1) τ1) (fun r13 τ13 =>
    gd r13 4100 <| if (xA τ13 53 r13) = 1 then
      (f_X12_apply_b26  (a1) (a3) (1) τ13)
    else
      (f_X12_apply_b25  (a1) (a3) τ13)))
  else
    (f_X12_apply_b25  (a1) (a3) τ1))
def f_X12_choose_B182 (rec182 : Int32 → Int64 → Int32 → Int32 → Int32 → S5 → Option (Unit × S5)) (v1 : Int32) (v2 : Int64) (v4 : Int32) (v5 : Int32) (v8 : Int32) (σ : S5) : Option (Unit × S5) :=
  gd v5 14000 <| if (xA σ 43 v5) ≤ v8 then
    (bd (f_X12_child (v1) (v4) σ) (fun r242 τ242 =>
    bd (f_X12_evaluate (r242) τ242) (fun _ τ245 =>
    some ((), τ245))))
  else
    (gd v5 14000 <| bd (f_X12_of (v2) σ) (fun r222 τ222 =>
    gd r222 4100 <| gd ((xA τ222 55 r222) + v8) 4100 <| gd (((gI σ 50) + (xA σ 42 v5)) + v8) 193000 <| rec182 (v1) (v2) (v4) (v5) ((v8 + 1)) (pB τ222 9 (((gI σ 50) + (xA σ 42 v5)) + v8) (xB τ222 7 ((xA τ222 55 r222) + v8)))))
def f_X12_choose_L182 : Nat → Int32 → Int64 → Int32 → Int32 → Int32 → S5 → Option (Unit × S5)
  | 0, _, _, _, _, _, _ => none
  | n + 1, v1, v2, v4, v5, v8, σ => f_X12_choose_B182 (f_X12_choose_L182  n) v1 v2 v4 v5 v8 σ
def f_X12_choose_b174 (rec3 : Int32 → Int64 → Int32 → S5 → Option (Unit × S5)) (v1 : Int32) (v2 : Int64) (v4 : Int32) (v5 : Int32) (v7 : Int32) (σ : S5) : Option (Unit × S5) :=
  if v7 = 0 then
    (rec3 (v1) (v2) ((v4 + 1)) σ)
  else
    (f_X12_choose_L182  FU (v1) (v2) (v4) (v5) (0) σ)
def f_X12_choose_b172 (rec3 : Int32 → Int64 → Int32 → S5 → Option (Unit × S5)) (v1 : Int32) (v2 : Int64) (v4 : Int32) (v5 : Int32) (u0 : Int32) (σ : S5) : Option (Unit × S5) :=
  f_X12_choose_b174 rec3 (v1) (v2) (v4) (v5) (u0) σ
def f_X12_choose_b135 (rec3 : Int32 → Int64 → Int32 → S5 → Option (Unit × S5)) (v1 : Int32) (v2 : Int64) (v4 : Int32) (v5 : Int32) (u0 : Int32) (σ : S5) : Option (Unit × S5) :=
  f_X12_choose_b174 rec3 (v1) (v2) (v4) (v5) (u0) σ
def f_X12_choose_b87 (rec3 : Int32 → Int64 → Int32 → S5 → Option (Unit × S5)) (v1 : Int32) (v2 : Int64) (v4 : Int32) (v5 : Int32) (v6 : Int32) (u0 : Int32) (σ : S5) : Option (Unit × S5) :=
  gd v5 14000 <| if (xA σ 40 v5) = 0 then
    (gd v5 14000 <| if (xA σ 43 v5) ≤ 0 then
      (gd v5 14000 <| bd (f_X12_value (2) ((xA σ 41 v5)) σ) (fun r123 τ123 =>
      if (lg_cmp v2 r123) = 0 then
        (f_X12_choose_b135 rec3 (v1) (v2) (v4) (v5) (1) τ123)
      else
        (f_X12_choose_b135 rec3 (v1) (v2) (v4) (v5) (0) τ123)))
    else
      (f_X12_choose_b135 rec3 (v1) (v2) (v4) (v5) (v6) σ))
  else
    (gd v5 14000 <| if (xA σ 40 v5) = 1 then
      (gd v5 14000 <| bd (f_X12_value (0) ((xA σ 41 v5)) σ) (fun r160 τ160 =>
      if (lg_cmp v2 r160) = 0 then
        (f_X12_choose_b172 rec3 (v1) (v2) (v4) (v5) (1) τ160)
      else
        (f_X12_choose_b172 rec3 (v1) (v2) (v4) (v5) (0) τ160)))
    else
      (f_X12_choose_b174 rec3 (v1) (v2) (v4) (v5) (u0) σ))
def f_X12_choose_b69 (rec3 : Int32 → Int64 → Int32 → S5 → Option (Unit × S5)) (v1 : Int32) (v2 : Int64) (v4 : Int32) (v5 : Int32) (u0 : Int32) (σ : S5) : Option (Unit × S5) :=
  gd v5 14000 <| if (xA σ 40 v5) = 2 then
    (f_X12_choose_b87 rec3 (v1) (v2) (v4) (v5) (u0) (1) σ)
  else
    (f_X12_choose_b87 rec3 (v1) (v2) (v4) (v5) (u0) (0) σ)
def f_X12_choose_b68 (rec3 : Int32 → Int64 → Int32 → S5 → Option (Unit × S5)) (v1 : Int32) (v2 : Int64) (v4 : Int32) (v5 : Int32) (σ : S5) : Option (Unit × S5) :=
  f_X12_choose_b69 rec3 (v1) (v2) (v4) (v5) (0) σ
def f_X12_choose_B3 (rec3 : Int32 → Int64 → Int32 → S5 → Option (Unit × S5)) (v1 : Int32) (v2 : Int64) (v4 : Int32) (σ : S5) : Option (Unit × S5) :=
  gd v1 7000 <| if (xA σ 34 v1) ≤ v4 then
    (bd (f_X12_ends (2) (1) σ) (fun _ τ258 =>
    some ((), τ258)))
  else
    (gd v1 7000 <| bd (f_X12_kindOf (v2) σ) (fun r26 τ26 =>
    if r26 = 3 then
      (bd (f_X12_of (v2) τ26) (fun r38 τ38 =>
      gd r38 4100 <| if (xA τ38 53 r38) = 0 then
        (bd (f_X12_of (v2) τ38) (fun r50 τ50 =>
        gd r50 4100 <| gd ((xA σ 33 v1) + v4) 14000 <| if (xA τ50 54 r50) = (xA τ50 41 ((xA σ 33 v1) + v4)) then
          (f_X12_choose_b69 rec3 (v1) (v2) (v4) (((xA σ 33 v1) + v4)) (1) τ50)
        else
          (f_X12_choose_b68 rec3 (v1) (v2) (v4) (((xA σ 33 v1) + v4)) τ50)))
      else
        (f_X12_choose_b68 rec3 (v1) (v2) (v4) (((xA σ 33 v1) + v4)) τ38)))
    else
      (f_X12_choose_b68 rec3 (v1) (v2) (v4) (((xA σ 33 v1) + v4)) τ26)))
def f_X12_choose_L3 : Nat → Int32 → Int64 → Int32 → S5 → Option (Unit × S5)
  | 0, _, _, _, _ => none
  | n + 1, v1, v2, v4, σ => f_X12_choose_B3 (f_X12_choose_L3  n) v1 v2 v4 σ
def f_X12_choose (a1 : Int32) (a2 : Int64) (σ : S5) : Option (Unit × S5) :=
  f_X12_choose_L3  FU (a1) (a2) (1) σ
def f_X12_reckon_b287 (u0 : Int32) (u1 : Int32) (σ : S5) : Option (Unit × S5) :=
  bd (f_X12_value (u1) (u0) σ) (fun r287 τ287 =>
  bd (f_X12_gives (r287) τ287) (fun _ τ290 =>
  some ((), τ290)))
def f_X12_reckon_b264 (u0 : Int32) (u1 : Int32) (σ : S5) : Option (Unit × S5) :=
  bd (f_X12_value (u1) (u0) σ) (fun r264 τ264 =>
  bd (f_X12_gives (r264) τ264) (fun _ τ267 =>
  some ((), τ267)))
def f_X12_reckon_b241 (u0 : Int32) (u1 : Int32) (σ : S5) : Option (Unit × S5) :=
  bd (f_X12_value (u1) (u0) σ) (fun r241 τ241 =>
  bd (f_X12_gives (r241) τ241) (fun _ τ244 =>
  some ((), τ244)))
def f_X12_reckon_b218 (u0 : Int32) (u1 : Int32) (σ : S5) : Option (Unit × S5) :=
  bd (f_X12_value (u1) (u0) σ) (fun r218 τ218 =>
  bd (f_X12_gives (r218) τ218) (fun _ τ221 =>
  some ((), τ221)))
def f_X12_reckon_b192 (u0 : Int32) (u1 : Int32) (σ : S5) : Option (Unit × S5) :=
  bd (f_X12_value (u1) (u0) σ) (fun r192 τ192 =>
  bd (f_X12_gives (r192) τ192) (fun _ τ195 =>
  some ((), τ195)))
def f_X12_reckon_b15  (σ : S5) : Option (Unit × S5) :=
  bd (f_X12_ends (2) (4) σ) (fun _ τ18 =>
  some ((), τ18))
def f_X12_reckon (a1 : Int32) (a2 : Int64) (a4 : Int64) (σ : S5) : Option (Unit × S5) :=
  bd (f_X12_kindOf (a2) σ) (fun r1 τ1 =>
  if r1 = 0 then
    (bd (f_X12_kindOf (a4) τ1) (fun r9 τ9 =>
    if r9 = 0 then
      (bd (f_X12_of (a2) τ9) (fun r23 τ23 =>
      bd (f_X12_of (a4) τ23) (fun r30 τ30 =>
      if a1 = 21 then
        (if r23 = r30 then
          (f_X12_reckon_b241  (1) (2) τ30)
        else
          (f_X12_reckon_b241  (0) (2) τ30))
      else if a1 = 22 then
        (if r30 < r23 then
          (f_X12_reckon_b264  (0) (2) τ30)
        else
          (f_X12_reckon_b264  (1) (2) τ30))
      else if a1 = 137 then
        (if r30 = 0 then
          (bd (f_X12_ends (2) (2) τ30) (fun _ τ160 =>
          some ((), τ160)))
        else
          (if a1 = 147 then
            (if r30 = (-1) then
              (f_X12_reckon_b192  ((-r23)) (0) τ30)
            else
              (gz r30 <| f_X12_reckon_b192  ((r23 / r30)) (0) τ30))
          else
            (if r30 = (-1) then
              (f_X12_reckon_b218  (0) (0) τ30)
            else
              (gz r30 <| f_X12_reckon_b218  ((r23 - r23 / r30 * r30)) (0) τ30))))
      else if a1 = 142 then
        (bd (f_X12_value (0) ((r23 * r30)) τ30) (fun r143 τ143 =>
        bd (f_X12_gives (r143) τ143) (fun _ τ146 =>
        some ((), τ146))))
      else if a1 = 143 then
        (bd (f_X12_value (0) ((r23 + r30)) τ30) (fun r111 τ111 =>
        bd (f_X12_gives (r111) τ111) (fun _ τ114 =>
        some ((), τ114))))
      else if a1 = 145 then
        (bd (f_X12_value (0) ((r23 - r30)) τ30) (fun r127 τ127 =>
        bd (f_X12_gives (r127) τ127) (fun _ τ130 =>
        some ((), τ130))))
      else if a1 = 147 then
        (if r30 = 0 then
          (bd (f_X12_ends (2) (2) τ30) (fun _ τ160 =>
          some ((), τ160)))
        else
          (if a1 = 147 then
            (if r30 = (-1) then
              (f_X12_reckon_b192  ((-r23)) (0) τ30)
            else
              (gz r30 <| f_X12_reckon_b192  ((r23 / r30)) (0) τ30))
          else
            (if r30 = (-1) then
              (f_X12_reckon_b218  (0) (0) τ30)
            else
              (gz r30 <| f_X12_reckon_b218  ((r23 - r23 / r30 * r30)) (0) τ30))))
      else 
        (if r30 ≤ r23 then
          (f_X12_reckon_b287  (0) (2) τ30)
        else
          (f_X12_reckon_b287  (1) (2) τ30)))))
    else
      (f_X12_reckon_b15   τ9)))
  else
    (f_X12_reckon_b15   τ1))
def f_X12_goOn  (σ : S5) : Option (Unit × S5) :=
  gd ((gI σ 48) - 1) 202000 <| gd ((gI σ 48) - 1) 202000 <| gd ((gI σ 48) - 1) 202000 <| if ((xA σ 59 ((gI σ 48) - 1)) >>> ((16 : Int32) &&& 31)) = 0 then
    (gd (xA σ 61 ((gI σ 48) - 1)) 4100 <| gd (xA σ 61 ((gI σ 48) - 1)) 4100 <| some ((), (pI (pB (pA (pI σ 48 ((gI σ 48) - 1)) 53 (xA σ 61 ((gI σ 48) - 1)) 4) 6 (xA σ 61 ((gI σ 48) - 1)) (gJ σ 1)) 42 ((gI σ 42) + 1))))
  else if ((xA σ 59 ((gI σ 48) - 1)) >>> ((16 : Int32) &&& 31)) = 1 then
    (gd ((gI σ 48) - 1) 202000 <| some ((), (pI (pI (pI σ 48 ((gI σ 48) - 1)) 50 (xA σ 60 ((gI σ 48) - 1))) 51 (xA σ 61 ((gI σ 48) - 1)))))
  else if ((xA σ 59 ((gI σ 48) - 1)) >>> ((16 : Int32) &&& 31)) = 2 then
    (bd (f_X12_push ((gJ σ 1)) (pI σ 48 ((gI σ 48) - 1))) (fun _ τ148 =>
    bd (f_X12_waits (3) (((xA σ 59 ((gI σ 48) - 1)) &&& 65535)) (0) τ148) (fun _ τ155 =>
    bd (f_X12_child (((xA σ 59 ((gI σ 48) - 1)) &&& 65535)) (1) τ155) (fun r162 τ162 =>
    bd (f_X12_evaluate (r162) τ162) (fun _ τ165 =>
    some ((), τ165))))))
  else if ((xA σ 59 ((gI σ 48) - 1)) >>> ((16 : Int32) &&& 31)) = 3 then
    (gd ((xA σ 59 ((gI σ 48) - 1)) &&& 65535) 7000 <| gd ((gI σ 49) - 1) 580000 <| bd (f_X12_reckon ((xA σ 32 ((xA σ 59 ((gI σ 48) - 1)) &&& 65535))) ((xB σ 8 ((gI σ 49) - 1))) ((gJ σ 1)) (pI (pI σ 48 ((gI σ 48) - 1)) 49 ((gI σ 49) - 1))) (fun _ τ199 =>
    some ((), τ199)))
  else if ((xA σ 59 ((gI σ 48) - 1)) >>> ((16 : Int32) &&& 31)) = 4 then
    (bd (f_X12_choose (((xA σ 59 ((gI σ 48) - 1)) &&& 65535)) ((gJ σ 1)) (pI σ 48 ((gI σ 48) - 1))) (fun _ τ209 =>
    some ((), τ209)))
  else if ((xA σ 59 ((gI σ 48) - 1)) >>> ((16 : Int32) &&& 31)) = 5 then
    (gd ((xA σ 59 ((gI σ 48) - 1)) &&& 65535) 7000 <| gd ((gI σ 50) + (xA σ 35 ((xA σ 59 ((gI σ 48) - 1)) &&& 65535))) 193000 <| bd (f_X12_child (((xA σ 59 ((gI σ 48) - 1)) &&& 65535)) (1) (pB (pI σ 48 ((gI σ 48) - 1)) 9 ((gI σ 50) + (xA σ 35 ((xA σ 59 ((gI σ 48) - 1)) &&& 65535))) (gJ σ 1))) (fun r237 τ237 =>
    bd (f_X12_evaluate (r237) τ237) (fun _ τ240 =>
    some ((), τ240))))
  else if ((xA σ 59 ((gI σ 48) - 1)) >>> ((16 : Int32) &&& 31)) = 6 then
    (bd (f_X12_push ((gJ σ 1)) (pI σ 48 ((gI σ 48) - 1))) (fun _ τ249 =>
    bd (f_X12_arguments (((xA σ 59 ((gI σ 48) - 1)) &&& 65535)) (((xA σ 61 ((gI σ 48) - 1)) + 1)) τ249) (fun _ τ257 =>
    some ((), τ257))))
  else 
    (bd (f_X12_apply ((gJ σ 1)) ((xA σ 61 ((gI σ 48) - 1))) (pI σ 48 ((gI σ 48) - 1))) (fun _ τ267 =>
    some ((), τ267)))
def f_X12_workOut_b46 (rec25 : S5 → Option (Unit × S5))  (σ : S5) : Option (Unit × S5) :=
  if (gI σ 53) = 0 then
    (bd (f_X12_workPart  σ) (fun _ τ61 =>
    rec25  τ61))
  else
    (bd (f_X12_goOn  σ) (fun _ τ54 =>
    rec25  τ54))
def f_X12_workOut_B25 (rec25 : S5 → Option (Unit × S5))  (σ : S5) : Option (Unit × S5) :=
  if (gI σ 44) = 0 then
    (if (gI σ 53) = 0 then
      (f_X12_workOut_b46 rec25  σ)
    else
      (if (gI σ 48) ≤ 0 then
        (some ((), σ))
      else
        (f_X12_workOut_b46 rec25  σ)))
  else
    (some ((), σ))
def f_X12_workOut_L25 : Nat → S5 → Option (Unit × S5)
  | 0, _ => none
  | n + 1, σ => f_X12_workOut_B25 (f_X12_workOut_L25  n) σ
def f_X12_workOut (a1 : Int64) (σ : S5) : Option (Unit × S5) :=
  bd (f_X12_enter (a1) (pI (pI (pI (pI σ 48 0) 49 0) 50 0) 51 0)) (fun _ τ22 =>
  f_X12_workOut_L25  FU  τ22)
def f_X12_putRow (a1 : Int32) (a2 : Int32) (a3 : Int32) (σ : S5) : Option (Int32 × S5) :=
  if ((gI σ 46) + a3) ≤ 1000 then
    (gd (gI σ 46) 1000 <| if a3 ≤ 1 then
      (some ((1 : Int32), (pI (pA σ 58 (gI σ 46) a1) 46 ((gI σ 46) + 1))))
    else
      (gd ((gI σ 46) + 1) 1000 <| some ((1 : Int32), (pI (pA (pI (pA σ 58 (gI σ 46) a1) 46 ((gI σ 46) + 1)) 58 ((gI σ 46) + 1) a2) 46 (((gI σ 46) + 1) + 1)))))
  else
    (bd (f_X12_ends (3) (3) σ) (fun _ τ15 =>
    some ((0 : Int32), τ15)))
def f_X12_force_B115 (rec115 : Int64 → Int32 → S5 → Option (Unit × S5)) (v1 : Int64) (v4 : Int32) (σ : S5) : Option (Unit × S5) :=
  if v4 < 0 then
    (some ((), σ))
  else
    (bd (f_X12_of (v1) σ) (fun r137 τ137 =>
    gd r137 4100 <| gd ((xA τ137 55 r137) + v4) 4100 <| gd (gI σ 55) 4200 <| rec115 (v1) ((v4 + (-1))) (pI (pB τ137 10 (gI σ 55) (xB τ137 7 ((xA τ137 55 r137) + v4))) 55 ((gI τ137 55) + 1))))
def f_X12_force_L115 : Nat → Int64 → Int32 → S5 → Option (Unit × S5)
  | 0, _, _, _ => none
  | n + 1, v1, v4, σ => f_X12_force_B115 (f_X12_force_L115  n) v1 v4 σ
def f_X12_force_b25 (v1 : Int64) (u0 : Int32) (σ : S5) : Option (Unit × S5) :=
  bd (f_X12_kindOf (v1) σ) (fun r27 τ27 =>
  if r27 = 0 then
    (bd (f_X12_of (v1) τ27) (fun r36 τ36 =>
    bd (f_X12_putRow (1) (r36) (2) τ36) (fun r40 τ40 =>
    some ((), τ40))))
  else
    (bd (f_X12_kindOf (v1) τ27) (fun r48 τ48 =>
    if r48 = 2 then
      (bd (f_X12_of (v1) τ48) (fun r58 τ58 =>
      bd (f_X12_putRow (2) (r58) (2) τ58) (fun r62 τ62 =>
      some ((), τ62))))
    else
      (if u0 = 0 then
        (bd (f_X12_putRow (3) (0) (1) τ48) (fun r77 τ77 =>
        some ((), τ77)))
      else
        (bd (f_X12_of (v1) τ48) (fun r91 τ91 =>
        gd r91 4100 <| bd (f_X12_putRow (2) ((xA τ91 54 r91)) (2) τ91) (fun r96 τ96 =>
        if r96 = 0 then
          (some ((), τ96))
        else
          (bd (f_X12_of (v1) τ96) (fun r107 τ107 =>
          gd r107 4100 <| f_X12_force_L115  FU (v1) (((xA τ107 56 r107) - 1)) τ107)))))))))
def f_X12_force_b24 (v1 : Int64) (σ : S5) : Option (Unit × S5) :=
  f_X12_force_b25  (v1) (0) σ
def f_X12_force (a1 : Int64) (σ : S5) : Option (Unit × S5) :=
  bd (f_X12_kindOf (a1) σ) (fun r1 τ1 =>
  if r1 = 3 then
    (bd (f_X12_of (a1) τ1) (fun r13 τ13 =>
    gd r13 4100 <| if (xA τ13 53 r13) = 0 then
      (f_X12_force_b25  (a1) (1) τ13)
    else
      (f_X12_force_b24  (a1) τ13)))
  else
    (f_X12_force_b24  (a1) τ1))
def f_X12_run_b226  (σ : S5) : Option (Int32 × S5) :=
  bd (f_X12_ends (1) (0) σ) (fun _ τ229 =>
  some ((gI τ229 44), τ229))
def f_X12_run_B171 (rec171 : S5 → Option (Int32 × S5))  (σ : S5) : Option (Int32 × S5) :=
  if (gI σ 44) = 0 then
    (if (gI σ 55) ≤ 0 then
      (f_X12_run_b226   σ)
    else
      (gd ((gI σ 55) - 1) 4200 <| bd (f_X12_workOut ((xB σ 10 ((gI σ 55) - 1))) (pI σ 55 ((gI σ 55) - 1))) (fun _ τ205 =>
      if (gI τ205 44) = 0 then
        (bd (f_X12_force ((gJ τ205 1)) τ205) (fun _ τ220 =>
        rec171  τ220))
      else
        (rec171  τ205))))
  else
    (f_X12_run_b226   σ)
def f_X12_run_L171 : Nat → S5 → Option (Int32 × S5)
  | 0, _ => none
  | n + 1, σ => f_X12_run_B171 (f_X12_run_L171  n) σ
def f_X12_run_b141 (rec101 : Int32 → S5 → Option (Int32 × S5)) (v4 : Int32) (σ : S5) : Option (Int32 × S5) :=
  rec101 ((v4 + 1)) σ
def f_X12_run_B101 (rec101 : Int32 → S5 → Option (Int32 × S5)) (v4 : Int32) (σ : S5) : Option (Int32 × S5) :=
  if (gI σ 22) ≤ v4 then
    (bd (f_X12_mainFunction  (pI σ 55 1)) (fun r163 τ163 =>
    gd r163 640 <| bd (f_X12_value (3) ((xA τ163 64 r163)) τ163) (fun r167 τ167 =>
    f_X12_run_L171  FU  (pB τ167 10 0 r167))))
  else
    (gd v4 640 <| if (xA σ 47 v4) = 0 then
      (gd v4 640 <| bd (f_X12_newCell (2) ((xA σ 45 v4)) (0) (1) σ) (fun r137 τ137 =>
      gd v4 640 <| f_X12_run_b141 rec101 (v4) (pA τ137 64 v4 r137)))
    else
      (f_X12_run_b141 rec101 (v4) σ))
def f_X12_run_L101 : Nat → Int32 → S5 → Option (Int32 × S5)
  | 0, _, _ => none
  | n + 1, v4, σ => f_X12_run_B101 (f_X12_run_L101  n) v4 σ
def f_X12_run_b62 (v1 : Int32) (v2 : Int32) (u0 : Int32) (σ : S5) : Option (Int32 × S5) :=
  if u0 ≤ 0 then
    (bd (f_X12_clearRun  (pI σ 0 u0)) (fun _ τ75 =>
    g_t v1 <| f_X12_run_L101  FU (0) (pI (pI (pI (pI τ75 47 v1) 37 v2) 32 0) 33 0)))
  else
    (some ((0 : Int32), (pI σ 0 u0)))
def f_X12_run_b49 (v1 : Int32) (v2 : Int32) (σ : S5) : Option (Int32 × S5) :=
  f_X12_run_b62  (v1) (v2) (2) σ
def f_X12_run_b25 (v1 : Int32) (v2 : Int32) (u0 : Int32) (σ : S5) : Option (Int32 × S5) :=
  if (gI σ 29) = 0 then
    (f_X12_run_b62  (v1) (v2) (1) σ)
  else
    (if v2 < 0 then
      (f_X12_run_b49  (v1) (v2) σ)
    else
      (if v2 ≤ 800 then
        (if u0 = 0 then
          (f_X12_run_b62  (v1) (v2) (0) σ)
        else
          (f_X12_run_b62  (v1) (v2) (3) σ))
      else
        (f_X12_run_b49  (v1) (v2) σ)))
def f_X12_run_b20 (v1 : Int32) (v2 : Int32) (σ : S5) : Option (Int32 × S5) :=
  f_X12_run_b25  (v1) (v2) (1) σ
def f_X12_run (a1 : Int32) (a2 : Int32) (σ : S5) : Option (Int32 × S5) :=
  if 150000 ≤ (gI σ 36) then
    (f_X12_run_b20  (a1) (a2) σ)
  else
    (if (gI σ 35) < 150000 then
      (f_X12_run_b25  (a1) (a2) (0) σ)
    else
      (f_X12_run_b20  (a1) (a2) σ))
def f_X12_put_b163 (rec120 : Int32 → Int32 → S5 → Option (Int32 × S5)) (v1 : Int32) (v4 : Int32) (σ : S5) : Option (Int32 × S5) :=
  rec120 (v1) ((v4 + 8)) σ
def f_X12_put_B120 (rec120 : Int32 → Int32 → S5 → Option (Int32 × S5)) (v1 : Int32) (v4 : Int32) (σ : S5) : Option (Int32 × S5) :=
  if 32 ≤ v4 then
    (some ((gI σ 1), σ))
  else
    (if ((v1 >>> (v4 &&& 31)) &&& 255) = 0 then
      (f_X12_put_b163 rec120 (v1) (v4) σ)
    else
      (gd (gI σ 1) 3000 <| f_X12_put_b163 rec120 (v1) (v4) (pI (pA σ 0 (gI σ 1) ((v1 >>> (v4 &&& 31)) &&& 255)) 1 ((gI σ 1) + 1))))
def f_X12_put_L120 : Nat → Int32 → Int32 → S5 → Option (Int32 × S5)
  | 0, _, _, _ => none
  | n + 1, v1, v4, σ => f_X12_put_B120 (f_X12_put_L120  n) v1 v4 σ
def f_X12_put_b105 (v1 : Int32) (u0 : Int32) (σ : S5) : Option (Int32 × S5) :=
  if u0 ≤ 0 then
    (f_X12_put_L120  FU (v1) (0) (pI σ 0 u0))
  else
    (some ((0 : Int32), (pI σ 0 u0)))
def f_X12_put_b71 (rec7 : Int32 → Int32 → Int32 → Int32 → S5 → Option (Int32 × S5)) (v1 : Int32) (v3 : Int32) (v4 : Int32) (u0 : Int32) (u1 : Int32) (σ : S5) : Option (Int32 × S5) :=
  rec7 (v1) ((u1 + u0)) (v3) ((v4 + 8)) σ
def f_X12_put_b59 (rec7 : Int32 → Int32 → Int32 → Int32 → S5 → Option (Int32 × S5)) (v1 : Int32) (v2 : Int32) (v4 : Int32) (v5 : Int32) (u0 : Int32) (σ : S5) : Option (Int32 × S5) :=
  if v5 = 0 then
    (f_X12_put_b71 rec7 (v1) (u0) (v4) (0) (v2) σ)
  else
    (f_X12_put_b71 rec7 (v1) (u0) (v4) (1) (v2) σ)
def f_X12_put_b58 (rec7 : Int32 → Int32 → Int32 → Int32 → S5 → Option (Int32 × S5)) (v1 : Int32) (v2 : Int32) (v4 : Int32) (v5 : Int32) (σ : S5) : Option (Int32 × S5) :=
  f_X12_put_b59 rec7 (v1) (v2) (v4) (v5) (0) σ
def f_X12_put_b54 (rec7 : Int32 → Int32 → Int32 → Int32 → S5 → Option (Int32 × S5)) (v1 : Int32) (v2 : Int32) (v4 : Int32) (v5 : Int32) (σ : S5) : Option (Int32 × S5) :=
  f_X12_put_b59 rec7 (v1) (v2) (v4) (v5) (1) σ
def f_X12_put_B7 (rec7 : Int32 → Int32 → Int32 → Int32 → S5 → Option (Int32 × S5)) (v1 : Int32) (v2 : Int32) (v3 : Int32) (v4 : Int32) (σ : S5) : Option (Int32 × S5) :=
  if 32 ≤ v4 then
    (if v3 = 0 then
      (f_X12_put_b105  (v1) (1) σ)
    else
      (if ((gI σ 1) + v2) ≤ 3000 then
        (f_X12_put_b105  (v1) (0) σ)
      else
        (f_X12_put_b105  (v1) (2) σ)))
  else
    (if v3 = 0 then
      (f_X12_put_b58 rec7 (v1) (v2) (v4) (((v1 >>> (v4 &&& 31)) &&& 255)) σ)
    else
      (if ((v1 >>> (v4 &&& 31)) &&& 255) = 0 then
        (f_X12_put_b54 rec7 (v1) (v2) (v4) (((v1 >>> (v4 &&& 31)) &&& 255)) σ)
      else
        (if ((v1 >>> (v4 &&& 31)) &&& 255) = 10 then
          (f_X12_put_b54 rec7 (v1) (v2) (v4) (((v1 >>> (v4 &&& 31)) &&& 255)) σ)
        else
          (if ((v1 >>> (v4 &&& 31)) &&& 255) < 32 then
            (f_X12_put_b58 rec7 (v1) (v2) (v4) (((v1 >>> (v4 &&& 31)) &&& 255)) σ)
          else
            (if 126 < ((v1 >>> (v4 &&& 31)) &&& 255) then
              (f_X12_put_b58 rec7 (v1) (v2) (v4) (((v1 >>> (v4 &&& 31)) &&& 255)) σ)
            else
              (f_X12_put_b54 rec7 (v1) (v2) (v4) (((v1 >>> (v4 &&& 31)) &&& 255)) σ))))))
def f_X12_put_L7 : Nat → Int32 → Int32 → Int32 → Int32 → S5 → Option (Int32 × S5)
  | 0, _, _, _, _, _ => none
  | n + 1, v1, v2, v3, v4, σ => f_X12_put_B7 (f_X12_put_L7  n) v1 v2 v3 v4 σ
def f_X12_put (a1 : Int32) (σ : S5) : Option (Int32 × S5) :=
  f_X12_put_L7  FU (a1) (0) (1) (0) σ
def f_X12_end_b18 (v1 : Int32) (u0 : Int32) (σ : S5) : Option (Unit × S5) :=
  if u0 = 0 then
    (some ((), (pI (pI σ 0 u0) 1 v1)))
  else
    (some ((), (pI σ 0 u0)))
def f_X12_end_b13 (v1 : Int32) (σ : S5) : Option (Unit × S5) :=
  f_X12_end_b18  (v1) (1) σ
def f_X12_end (a1 : Int32) (σ : S5) : Option (Unit × S5) :=
  if a1 < 0 then
    (f_X12_end_b13  (a1) σ)
  else
    (if a1 ≤ (gI σ 1) then
      (f_X12_end_b18  (a1) (0) σ)
    else
      (f_X12_end_b13  (a1) σ))
def f_X12_take_B19 (rec19 : Int32 → S5 → Option (Int32 × S5)) (v1 : Int32) (σ : S5) : Option (Int32 × S5) :=
  if (gI σ 2) ≤ v1 then
    (some ((gI σ 2), (pI σ 1 (gI σ 2))))
  else
    (gd v1 12000 <| gd v1 3000 <| rec19 ((v1 + 1)) (pA σ 0 v1 (xA σ 1 v1)))
def f_X12_take_L19 : Nat → Int32 → S5 → Option (Int32 × S5)
  | 0, _, _ => none
  | n + 1, v1, σ => f_X12_take_B19 (f_X12_take_L19  n) v1 σ
def f_X12_take  (σ : S5) : Option (Int32 × S5) :=
  if (gI σ 2) ≤ 3000 then
    (f_X12_take_L19  FU (0) (pI σ 0 0))
  else
    (some (((-1) : Int32), (pI σ 0 0)))
def f_X12_fault_b15 (v1 : Int32) (u0 : Int32) (σ : S5) : Option (Int32 × S5) :=
  if u0 ≤ 0 then
    (if v1 = 0 then
      (some ((gI σ 30), (pI σ 0 u0)))
    else
      (some ((gI σ 31), (pI σ 0 u0))))
  else
    (some ((0 : Int32), (pI σ 0 u0)))
def f_X12_fault_b10 (v1 : Int32) (σ : S5) : Option (Int32 × S5) :=
  f_X12_fault_b15  (v1) (1) σ
def f_X12_fault (a1 : Int32) (σ : S5) : Option (Int32 × S5) :=
  if a1 < 0 then
    (f_X12_fault_b10  (a1) σ)
  else
    (if a1 ≤ 1 then
      (f_X12_fault_b15  (a1) (0) σ)
    else
      (f_X12_fault_b10  (a1) σ))
def f_X12_letters (a1 : Int32) (σ : S5) : Option (Unit × S5) :=
  if 12001 ≤ (gI σ 56) then
    (some ((), σ))
  else
    (gd (gI σ 56) 12001 <| some ((), (pI (pA σ 65 (gI σ 56) a1) 56 ((gI σ 56) + 1))))
def f_X12_signs_b28 (rec3 : Int64 → Int32 → S5 → Option (Unit × S5)) (v1 : Int64) (v3 : Int32) (σ : S5) : Option (Unit × S5) :=
  rec3 (v1) ((v3 + (-8))) σ
def f_X12_signs_B3 (rec3 : Int64 → Int32 → S5 → Option (Unit × S5)) (v1 : Int64) (v3 : Int32) (σ : S5) : Option (Unit × S5) :=
  if v3 < 0 then
    (some ((), σ))
  else
    (if ((((j_lshr v1 v3) : Int64).toInt32) &&& 255) = 0 then
      (f_X12_signs_b28 rec3 (v1) (v3) σ)
    else
      (bd (f_X12_letters (((((j_lshr v1 v3) : Int64).toInt32) &&& 255)) σ) (fun _ τ25 =>
      f_X12_signs_b28 rec3 (v1) (v3) τ25)))
def f_X12_signs_L3 : Nat → Int64 → Int32 → S5 → Option (Unit × S5)
  | 0, _, _, _ => none
  | n + 1, v1, v3, σ => f_X12_signs_B3 (f_X12_signs_L3  n) v1 v3 σ
def f_X12_signs (a1 : Int64) (σ : S5) : Option (Unit × S5) :=
  f_X12_signs_L3  FU (a1) (56) σ
def f_X12_digits_B20 (rec20 : Int32 → Int32 → S5 → Option (Unit × S5)) (v1 : Int32) (v3 : Int32) (σ : S5) : Option (Unit × S5) :=
  if v3 ≤ 0 then
    (some ((), σ))
  else
    (gz v3 <| bd (f_X12_letters ((48 + ((v1 / v3) - (v1 / v3) / 10 * 10))) σ) (fun _ τ34 =>
    rec20 (v1) ((v3 / 10)) τ34))
def f_X12_digits_L20 : Nat → Int32 → Int32 → S5 → Option (Unit × S5)
  | 0, _, _, _ => none
  | n + 1, v1, v3, σ => f_X12_digits_B20 (f_X12_digits_L20  n) v1 v3 σ
def f_X12_digits_B2 (rec2 : Int32 → Int32 → S5 → Option (Unit × S5)) (v1 : Int32) (v2 : Int32) (σ : S5) : Option (Unit × S5) :=
  gz v2 <| if (v1 / v2) ≤ 9 then
    (f_X12_digits_L20  FU (v1) (v2) σ)
  else
    (rec2 (v1) ((v2 * 10)) σ)
def f_X12_digits_L2 : Nat → Int32 → Int32 → S5 → Option (Unit × S5)
  | 0, _, _, _ => none
  | n + 1, v1, v2, σ => f_X12_digits_B2 (f_X12_digits_L2  n) v1 v2 σ
def f_X12_digits (a1 : Int32) (σ : S5) : Option (Unit × S5) :=
  f_X12_digits_L2  FU (a1) (1) σ
def f_X12_variable (a1 : Int32) (σ : S5) : Option (Unit × S5) :=
  bd (f_X12_letters (118) σ) (fun _ τ3 =>
  bd (f_X12_digits (a1) τ3) (fun _ τ8 =>
  some ((), τ8)))
def f_X12_functionName (a1 : Int32) (σ : S5) : Option (Unit × S5) :=
  bd (f_X12_mainFunction  σ) (fun r2 τ2 =>
  if a1 = r2 then
    (bd (f_X12_pack (109) (97) (105) (110) (0) τ2) (fun r18 τ18 =>
    bd (f_X12_signs (r18) τ18) (fun _ τ21 =>
    some ((), τ21))))
  else
    (bd (f_X12_letters (102) τ2) (fun _ τ30 =>
    bd (f_X12_digits (a1) τ30) (fun _ τ35 =>
    some ((), τ35)))))
def f_X12_operation_b60  (σ : S5) : Option (Unit × S5) :=
  bd (f_X12_letters (32) σ) (fun _ τ63 =>
  some ((), τ63))
def f_X12_operation (a1 : Int32) (σ : S5) : Option (Unit × S5) :=
  bd (f_X12_letters (32) σ) (fun _ τ3 =>
  if a1 = 21 then
    (bd (f_X12_pack (61) (61) (0) (0) (0) τ3) (fun r20 τ20 =>
    bd (f_X12_signs (r20) τ20) (fun _ τ23 =>
    f_X12_operation_b60   τ23)))
  else
    (if a1 = 22 then
      (bd (f_X12_pack (60) (61) (0) (0) (0) τ3) (fun r43 τ43 =>
      bd (f_X12_signs (r43) τ43) (fun _ τ46 =>
      f_X12_operation_b60   τ46)))
    else
      (bd (f_X12_letters ((a1 - 100)) τ3) (fun _ τ57 =>
      f_X12_operation_b60   τ57))))
def f_X12_pattern_B59 (rec59 : Int32 → Int32 → S5 → Option (Unit × S5)) (v1 : Int32) (v2 : Int32) (σ : S5) : Option (Unit × S5) :=
  gd v1 14000 <| if (xA σ 43 v1) ≤ v2 then
    (bd (f_X12_pack (32) (45) (62) (32) (0) σ) (fun r103 τ103 =>
    bd (f_X12_signs (r103) τ103) (fun _ τ106 =>
    some ((), τ106))))
  else
    (bd (f_X12_letters (32) σ) (fun _ τ72 =>
    gd v1 14000 <| bd (f_X12_variable (((xA τ72 42 v1) + v2)) τ72) (fun _ τ84 =>
    rec59 (v1) ((v2 + 1)) τ84)))
def f_X12_pattern_L59 : Nat → Int32 → Int32 → S5 → Option (Unit × S5)
  | 0, _, _, _ => none
  | n + 1, v1, v2, σ => f_X12_pattern_B59 (f_X12_pattern_L59  n) v1 v2 σ
def f_X12_pattern_b57 (v1 : Int32) (σ : S5) : Option (Unit × S5) :=
  f_X12_pattern_L59  FU (v1) (0) σ
def f_X12_pattern (a1 : Int32) (σ : S5) : Option (Unit × S5) :=
  gd a1 14000 <| if (xA σ 40 a1) = 2 then
    (bd (f_X12_letters (95) σ) (fun _ τ13 =>
    f_X12_pattern_b57  (a1) τ13))
  else
    (gd a1 14000 <| if (xA σ 40 a1) = 1 then
      (gd a1 14000 <| bd (f_X12_digits ((xA σ 41 a1)) σ) (fun _ τ36 =>
      f_X12_pattern_b57  (a1) τ36))
    else
      (gd a1 14000 <| gd (xA σ 41 a1) 30 <| bd (f_X12_signs ((xB σ 3 (xA σ 41 a1))) σ) (fun _ τ54 =>
      f_X12_pattern_b57  (a1) τ54)))
def f_X12_around_b375 (u0 : Int32) (σ : S5) : Option (Unit × S5) :=
  bd (f_X12_letters (u0) σ) (fun _ τ375 =>
  some ((), τ375))
def f_X12_around_b348 (u0 : Int32) (σ : S5) : Option (Unit × S5) :=
  bd (f_X12_letters (u0) σ) (fun _ τ348 =>
  some ((), τ348))
def f_X12_around_b336 (v3 : Int32) (σ : S5) : Option (Unit × S5) :=
  if v3 = 0 then
    (f_X12_around_b348  (32) σ)
  else
    (f_X12_around_b348  (41) σ)
def f_X12_around_b305 (u0 : Int32) (σ : S5) : Option (Unit × S5) :=
  bd (f_X12_letters (u0) σ) (fun _ τ305 =>
  some ((), τ305))
def f_X12_around_b257 (v1 : Int32) (v2 : Int32) (u0 : Int64) (σ : S5) : Option (Unit × S5) :=
  bd (f_X12_signs (u0) σ) (fun _ τ257 =>
  gd v1 7000 <| bd (f_X12_pattern (((xA τ257 33 v1) + v2)) τ257) (fun _ τ269 =>
  some ((), τ269)))
def f_X12_around_b141 (v1 : Int32) (v2 : Int32) (u0 : Int64) (σ : S5) : Option (Unit × S5) :=
  bd (f_X12_signs (u0) σ) (fun _ τ141 =>
  gd v1 7000 <| bd (f_X12_variable (((xA τ141 35 v1) + v2)) τ141) (fun _ τ153 =>
  bd (f_X12_pack (32) (61) (32) (0) (0) τ153) (fun r165 τ165 =>
  bd (f_X12_signs (r165) τ165) (fun _ τ168 =>
  some ((), τ168)))))
def f_X12_around_b15 (v1 : Int32) (v2 : Int32) (u0 : Int32) (σ : S5) : Option (Unit × S5) :=
  gd v1 7000 <| if (xA σ 31 v1) = 0 then
    (if u0 = 0 then
      (gd v1 7000 <| if v2 = (xA σ 32 v1) then
        (bd (f_X12_pack (32) (105) (110) (32) (0) σ) (fun r101 τ101 =>
        bd (f_X12_signs (r101) τ101) (fun _ τ104 =>
        some ((), τ104))))
      else
        (if v2 = 0 then
          (bd (f_X12_pack (40) (108) (101) (116) (32) σ) (fun r125 τ125 =>
          f_X12_around_b141  (v1) (v2) (r125) τ125))
        else
          (bd (f_X12_pack (44) (32) (0) (0) (0) σ) (fun r138 τ138 =>
          f_X12_around_b141  (v1) (v2) (r138) τ138))))
    else
      (bd (f_X12_letters (41) σ) (fun _ τ75 =>
      some ((), τ75))))
  else if (xA σ 31 v1) = 1 then
    (if u0 = 0 then
      (if v2 = 0 then
        (f_X12_around_b375  (40) σ)
      else
        (f_X12_around_b375  (32) σ))
    else
      (f_X12_around_b375  (41) σ))
  else if (xA σ 31 v1) = 2 then
    (if u0 = 0 then
      (if v2 = 0 then
        (f_X12_around_b375  (40) σ)
      else
        (f_X12_around_b375  (32) σ))
    else
      (f_X12_around_b375  (41) σ))
  else if (xA σ 31 v1) = 3 then
    (if u0 = 0 then
      (if v2 = 0 then
        (bd (f_X12_pack (40) (99) (97) (115) (101) σ) (fun r210 τ210 =>
        bd (f_X12_signs (r210) τ210) (fun _ τ213 =>
        bd (f_X12_letters (32) τ213) (fun _ τ219 =>
        some ((), τ219)))))
      else
        (if v2 = 1 then
          (bd (f_X12_pack (32) (111) (102) (32) (123) σ) (fun r241 τ241 =>
          f_X12_around_b257  (v1) (v2) (r241) τ241))
        else
          (bd (f_X12_pack (59) (32) (0) (0) (0) σ) (fun r254 τ254 =>
          f_X12_around_b257  (v1) (v2) (r254) τ254))))
    else
      (bd (f_X12_pack (125) (41) (0) (0) (0) σ) (fun r186 τ186 =>
      bd (f_X12_signs (r186) τ186) (fun _ τ189 =>
      some ((), τ189)))))
  else if (xA σ 31 v1) = 4 then
    (if u0 = 0 then
      (if v2 = 0 then
        (f_X12_around_b375  (40) σ)
      else
        (f_X12_around_b375  (32) σ))
    else
      (f_X12_around_b375  (41) σ))
  else if (xA σ 31 v1) = 5 then
    (if v2 = 1 then
      (gd v1 7000 <| bd (f_X12_operation ((xA σ 32 v1)) σ) (fun _ τ287 =>
      some ((), τ287)))
    else
      (if u0 = 0 then
        (f_X12_around_b305  (40) σ)
      else
        (f_X12_around_b305  (41) σ)))
  else if (xA σ 31 v1) = 6 then
    (if u0 = 0 then
      (if v2 = 0 then
        (f_X12_around_b375  (40) σ)
      else
        (f_X12_around_b375  (32) σ))
    else
      (f_X12_around_b375  (41) σ))
  else if (xA σ 31 v1) = 7 then
    (if v2 = 0 then
      (bd (f_X12_letters (40) σ) (fun _ τ318 =>
      gd v1 7000 <| gd (xA τ318 32 v1) 30 <| bd (f_X12_signs ((xB τ318 3 (xA τ318 32 v1))) τ318) (fun _ τ333 =>
      f_X12_around_b336  (u0) τ333)))
    else
      (f_X12_around_b336  (u0) σ))
  else 
    (if u0 = 0 then
      (if v2 = 0 then
        (f_X12_around_b375  (40) σ)
      else
        (f_X12_around_b375  (32) σ))
    else
      (f_X12_around_b375  (41) σ))
def f_X12_around (a1 : Int32) (a2 : Int32) (σ : S5) : Option (Unit × S5) :=
  gd a1 7000 <| if a2 = (xA σ 34 a1) then
    (f_X12_around_b15  (a1) (a2) (1) σ)
  else
    (f_X12_around_b15  (a1) (a2) (0) σ)
def f_X12_atom_ (a1 : Int32) (σ : S5) : Option (Unit × S5) :=
  gd a1 7000 <| if (xA σ 31 a1) = 9 then
    (gd a1 7000 <| gd (xA σ 32 a1) 30 <| bd (f_X12_signs ((xB σ 3 (xA σ 32 a1))) σ) (fun _ τ91 =>
    some ((), τ91)))
  else if (xA σ 31 a1) = 10 then
    (gd a1 7000 <| bd (f_X12_digits ((xA σ 32 a1)) σ) (fun _ τ73 =>
    some ((), τ73)))
  else if (xA σ 31 a1) = 11 then
    (bd (f_X12_pack (102) (97) (105) (108) (0) σ) (fun r107 τ107 =>
    bd (f_X12_signs (r107) τ107) (fun _ τ110 =>
    some ((), τ110))))
  else if (xA σ 31 a1) = 12 then
    (gd a1 7000 <| bd (f_X12_functionName ((xA σ 32 a1)) σ) (fun _ τ60 =>
    some ((), τ60)))
  else if (xA σ 31 a1) = 13 then
    (gd a1 7000 <| bd (f_X12_variable ((xA σ 32 a1)) σ) (fun _ τ47 =>
    some ((), τ47)))
  else 
    (bd (f_X12_pack (102) (97) (105) (108) (0) σ) (fun r107 τ107 =>
    bd (f_X12_signs (r107) τ107) (fun _ τ110 =>
    some ((), τ110))))
def f_X12_writeE_b118 (rec16 : Int32 → S5 → Option (Unit × S5)) (v2 : Int32) (σ : S5) : Option (Unit × S5) :=
  rec16 (v2) σ
def f_X12_writeE_B16 (rec16 : Int32 → S5 → Option (Unit × S5)) (v2 : Int32) (σ : S5) : Option (Unit × S5) :=
  if v2 ≤ 0 then
    (some ((), σ))
  else
    (gd (v2 - 1) 3200 <| gd (v2 - 1) 3200 <| gd (xA σ 28 (v2 - 1)) 7000 <| if (xA σ 34 (xA σ 28 (v2 - 1))) = 0 then
      (bd (f_X12_atom_ ((xA σ 28 (v2 - 1))) σ) (fun _ τ50 =>
      f_X12_writeE_b118 rec16 ((v2 + (-1))) τ50))
    else
      (bd (f_X12_around ((xA σ 28 (v2 - 1))) ((xA σ 29 (v2 - 1))) σ) (fun _ τ63 =>
      gd (v2 - 1) 3200 <| gd (v2 - 1) 3200 <| gd (xA σ 28 (v2 - 1)) 7000 <| if (xA τ63 34 (xA σ 28 (v2 - 1))) ≤ (xA σ 29 (v2 - 1)) then
        (f_X12_writeE_b118 rec16 ((v2 + (-1))) (pA τ63 29 (v2 - 1) ((xA τ63 29 (v2 - 1)) + 1)))
      else
        (bd (f_X12_child ((xA σ 28 (v2 - 1))) ((xA σ 29 (v2 - 1))) (pA τ63 29 (v2 - 1) ((xA τ63 29 (v2 - 1)) + 1))) (fun r98 τ98 =>
        gd v2 3200 <| gd v2 3200 <| f_X12_writeE_b118 rec16 ((v2 + 1)) (pA (pA τ98 28 v2 r98) 29 v2 0))))))
def f_X12_writeE_L16 : Nat → Int32 → S5 → Option (Unit × S5)
  | 0, _, _ => none
  | n + 1, v2, σ => f_X12_writeE_B16 (f_X12_writeE_L16  n) v2 σ
def f_X12_writeE (a1 : Int32) (σ : S5) : Option (Unit × S5) :=
  f_X12_writeE_L16  FU (1) (pA (pA σ 28 0 a1) 29 0 0)
def f_X12_write_B229 (rec229 : Int32 → S5 → Option (Int32 × S5)) (v1 : Int32) (σ : S5) : Option (Int32 × S5) :=
  if (gI σ 56) ≤ v1 then
    (some ((gI σ 56), (pI σ 2 (gI σ 56))))
  else
    (gd v1 12001 <| gd v1 12000 <| rec229 ((v1 + 1)) (pA σ 1 v1 (xA σ 65 v1)))
def f_X12_write_L229 : Nat → Int32 → S5 → Option (Int32 × S5)
  | 0, _, _ => none
  | n + 1, v1, σ => f_X12_write_B229 (f_X12_write_L229  n) v1 σ
def f_X12_write_B145 (rec130 : Int32 → S5 → Option (Int32 × S5)) (rec145 : Int32 → Int32 → S5 → Option (Int32 × S5)) (v1 : Int32) (v2 : Int32) (σ : S5) : Option (Int32 × S5) :=
  gd v1 640 <| if (xA σ 47 v1) ≤ v2 then
    (bd (f_X12_pack (32) (61) (32) (0) (0) σ) (fun r181 τ181 =>
    bd (f_X12_signs (r181) τ181) (fun _ τ184 =>
    gd v1 640 <| bd (f_X12_writeE ((xA τ184 45 v1)) τ184) (fun _ τ194 =>
    bd (f_X12_letters (59) τ194) (fun _ τ200 =>
    bd (f_X12_letters (10) τ200) (fun _ τ206 =>
    rec130 ((v1 + 1)) τ206))))))
  else
    (bd (f_X12_letters (32) σ) (fun _ τ158 =>
    bd (f_X12_variable (v2) τ158) (fun _ τ163 =>
    rec145 (v1) ((v2 + 1)) τ163)))
def f_X12_write_L145 (rec130 : Int32 → S5 → Option (Int32 × S5)) : Nat → Int32 → Int32 → S5 → Option (Int32 × S5)
  | 0, _, _, _ => none
  | n + 1, v1, v2, σ => f_X12_write_B145 rec130 (f_X12_write_L145 rec130 n) v1 v2 σ
def f_X12_write_B130 (rec130 : Int32 → S5 → Option (Int32 × S5)) (v1 : Int32) (σ : S5) : Option (Int32 × S5) :=
  if (gI σ 22) ≤ v1 then
    (if (gI σ 56) ≤ 12000 then
      (f_X12_write_L229  FU (0) σ)
    else
      (some (((-1) : Int32), σ)))
  else
    (bd (f_X12_functionName (v1) σ) (fun _ τ140 =>
    f_X12_write_L145 rec130 FU (v1) (0) τ140))
def f_X12_write_L130 : Nat → Int32 → S5 → Option (Int32 × S5)
  | 0, _, _ => none
  | n + 1, v1, σ => f_X12_write_B130 (f_X12_write_L130  n) v1 σ
def f_X12_write_b128  (σ : S5) : Option (Int32 × S5) :=
  f_X12_write_L130  FU (0) σ
def f_X12_write_b73 (rec32 : Int32 → S5 → Option (Int32 × S5)) (v1 : Int32) (u0 : Int64) (σ : S5) : Option (Int32 × S5) :=
  bd (f_X12_signs (u0) σ) (fun _ τ73 =>
  gd v1 30 <| bd (f_X12_signs ((xB τ73 3 v1)) τ73) (fun _ τ83 =>
  bd (f_X12_letters (32) τ83) (fun _ τ89 =>
  gd v1 30 <| bd (f_X12_digits ((xA τ89 13 v1)) τ89) (fun _ τ99 =>
  rec32 ((v1 + 1)) τ99))))
def f_X12_write_B32 (rec32 : Int32 → S5 → Option (Int32 × S5)) (v1 : Int32) (σ : S5) : Option (Int32 × S5) :=
  if (gI σ 14) ≤ v1 then
    (if (gI σ 14) ≤ 2 then
      (f_X12_write_b128   σ)
    else
      (bd (f_X12_letters (59) σ) (fun _ τ119 =>
      bd (f_X12_letters (10) τ119) (fun _ τ125 =>
      f_X12_write_b128   τ125))))
  else
    (if v1 = 2 then
      (bd (f_X12_pack (100) (97) (116) (97) (32) σ) (fun r56 τ56 =>
      f_X12_write_b73 rec32 (v1) (r56) τ56))
    else
      (bd (f_X12_pack (32) (124) (32) (0) (0) σ) (fun r70 τ70 =>
      f_X12_write_b73 rec32 (v1) (r70) τ70)))
def f_X12_write_L32 : Nat → Int32 → S5 → Option (Int32 × S5)
  | 0, _, _ => none
  | n + 1, v1, σ => f_X12_write_B32 (f_X12_write_L32  n) v1 σ
def f_X12_write_b13 (u0 : Int32) (σ : S5) : Option (Int32 × S5) :=
  if u0 ≤ 0 then
    (f_X12_write_L32  FU (2) (pI (pI σ 0 u0) 56 0))
  else
    (some ((0 : Int32), (pI σ 0 u0)))
def f_X12_write  (σ : S5) : Option (Int32 × S5) :=
  if (gI σ 29) = 0 then
    (f_X12_write_b13  (1) σ)
  else
    (f_X12_write_b13  (0) σ)
def f_X12_letter_b10 (v1 : Int32) (u0 : Int32) (σ : S5) : Option (Int32 × S5) :=
  if u0 ≤ 0 then
    (if (gI σ 2) ≤ v1 then
      (some (((-1) : Int32), (pI σ 0 u0)))
    else
      (gd v1 12000 <| some ((xA σ 1 v1), (pI σ 0 u0))))
  else
    (some ((0 : Int32), (pI σ 0 u0)))
def f_X12_letter (a1 : Int32) (σ : S5) : Option (Int32 × S5) :=
  if 0 ≤ a1 then
    (f_X12_letter_b10  (a1) (0) σ)
  else
    (f_X12_letter_b10  (a1) (1) σ)
def f_X12_codeOf_b23  (σ : S5) : Option (Int32 × S5) :=
  some ((2 : Int32), σ)
def f_X12_codeOf (a1 : Int32) (σ : S5) : Option (Int32 × S5) :=
  if (gI σ 29) = 0 then
    (some ((1 : Int32), σ))
  else
    (if a1 < 0 then
      (f_X12_codeOf_b23   σ)
    else
      (if a1 < (gI σ 22) then
        (some ((0 : Int32), σ))
      else
        (f_X12_codeOf_b23   σ)))
def f_X12_function_b158 (rec131 : Int32 → Int32 → Int32 → S5 → Option (Int32 × S5)) (v1 : Int32) (v4 : Int32) (u0 : Int32) (u1 : Int32) (σ : S5) : Option (Int32 × S5) :=
  rec131 (v1) ((u1 + u0)) ((v4 + 1)) σ
def f_X12_function_B131 (rec131 : Int32 → Int32 → Int32 → S5 → Option (Int32 × S5)) (v1 : Int32) (v3 : Int32) (v4 : Int32) (σ : S5) : Option (Int32 × S5) :=
  gd v1 640 <| if (xA σ 45 v1) < v4 then
    (some (v3, σ))
  else
    (gd v4 7000 <| if (xA σ 36 v4) = 0 then
      (f_X12_function_b158 rec131 (v1) (v4) (0) (v3) σ)
    else
      (f_X12_function_b158 rec131 (v1) (v4) (1) (v3) σ))
def f_X12_function_L131 : Nat → Int32 → Int32 → Int32 → S5 → Option (Int32 × S5)
  | 0, _, _, _, _ => none
  | n + 1, v1, v3, v4, σ => f_X12_function_B131 (f_X12_function_L131  n) v1 v3 v4 σ
def f_X12_function_b38 (v1 : Int32) (v2 : Int32) (u0 : Int32) (σ : S5) : Option (Int32 × S5) :=
  if u0 ≤ 0 then
    (if v2 = 0 then
      (gd v1 640 <| some ((xA σ 47 v1), (pI σ 0 u0)))
    else if v2 = 1 then
      (gd v1 640 <| some ((xA σ 20 v1), (pI σ 0 u0)))
    else if v2 = 2 then
      (gd v1 640 <| some ((xA σ 46 v1), (pI σ 0 u0)))
    else if v2 = 3 then
      (gd v1 640 <| gd v1 640 <| some ((((xA σ 45 v1) - (xA σ 44 v1)) + 1), (pI σ 0 u0)))
    else if v2 = 4 then
      (gd v1 640 <| f_X12_function_L131  FU (v1) (0) ((xA σ 44 v1)) (pI σ 0 u0))
    else 
      (gd v1 640 <| gd (xA σ 45 v1) 7000 <| some ((xA σ 37 (xA σ 45 v1)), (pI σ 0 u0))))
  else
    (some ((0 : Int32), (pI σ 0 u0)))
def f_X12_function_b33 (v1 : Int32) (v2 : Int32) (σ : S5) : Option (Int32 × S5) :=
  f_X12_function_b38  (v1) (v2) (3) σ
def f_X12_function (a1 : Int32) (a2 : Int32) (σ : S5) : Option (Int32 × S5) :=
  bd (f_X12_codeOf (a1) σ) (fun r3 τ3 =>
  if r3 ≤ 0 then
    (if a2 < 0 then
      (f_X12_function_b33  (a1) (a2) (pI τ3 0 r3))
    else
      (if a2 ≤ 5 then
        (f_X12_function_b38  (a1) (a2) (0) (pI τ3 0 r3))
      else
        (f_X12_function_b33  (a1) (a2) (pI τ3 0 r3))))
  else
    (f_X12_function_b38  (a1) (a2) (r3) (pI τ3 0 r3)))
def f_X12_needs_b43 (v1 : Int32) (v2 : Int32) (u0 : Int32) (σ : S5) : Option (Int32 × S5) :=
  if u0 = 0 then
    (gd ((8 * v1) + v2) 5120 <| if (xA σ 52 ((8 * v1) + v2)) = 0 then
      (some ((0 : Int32), (pI σ 0 u0)))
    else
      (some ((1 : Int32), (pI σ 0 u0))))
  else
    (some ((0 : Int32), (pI σ 0 u0)))
def f_X12_needs_b38 (v1 : Int32) (v2 : Int32) (σ : S5) : Option (Int32 × S5) :=
  f_X12_needs_b43  (v1) (v2) (2) σ
def f_X12_needs (a1 : Int32) (a2 : Int32) (σ : S5) : Option (Int32 × S5) :=
  bd (f_X12_codeOf (a1) σ) (fun r3 τ3 =>
  if r3 ≤ 0 then
    (if a2 < 0 then
      (f_X12_needs_b38  (a1) (a2) (pI τ3 0 r3))
    else
      (gd a1 640 <| if a2 < (xA τ3 47 a1) then
        (f_X12_needs_b43  (a1) (a2) (0) (pI τ3 0 r3))
      else
        (f_X12_needs_b38  (a1) (a2) (pI τ3 0 r3))))
  else
    (f_X12_needs_b43  (a1) (a2) (r3) (pI τ3 0 r3)))
def f_X12_bit_b45 (v1 : Int32) (v2 : Int32) (u0 : Int32) (σ : S5) : Option (Int32 × S5) :=
  if u0 = 0 then
    (bd (f_X12_table (v1) (v2) (pI σ 0 u0)) (fun r58 τ58 =>
    if r58 = 0 then
      (some ((0 : Int32), τ58))
    else
      (some ((1 : Int32), τ58))))
  else
    (some ((0 : Int32), (pI σ 0 u0)))
def f_X12_bit_b40 (v1 : Int32) (v2 : Int32) (σ : S5) : Option (Int32 × S5) :=
  f_X12_bit_b45  (v1) (v2) (3) σ
def f_X12_bit (a1 : Int32) (a2 : Int32) (σ : S5) : Option (Int32 × S5) :=
  bd (f_X12_codeOf (a1) σ) (fun r3 τ3 =>
  if r3 ≤ 0 then
    (if a2 < 0 then
      (f_X12_bit_b40  (a1) (a2) (pI τ3 0 r3))
    else
      (gd a1 640 <| if a2 < ((1 : Int32) <<< ((xA τ3 47 a1) &&& 31)) then
        (f_X12_bit_b45  (a1) (a2) (0) (pI τ3 0 r3))
      else
        (f_X12_bit_b40  (a1) (a2) (pI τ3 0 r3))))
  else
    (f_X12_bit_b45  (a1) (a2) (r3) (pI τ3 0 r3)))
def f_X12_result_b16 (v1 : Int32) (u0 : Int32) (σ : S5) : Option (Int32 × S5) :=
  if v1 = 0 then
    (some ((gI σ 44), (pI σ 0 u0)))
  else if v1 = 1 then
    (some ((gI σ 45), (pI σ 0 u0)))
  else if v1 = 2 then
    (some ((gI σ 38), (pI σ 0 u0)))
  else if v1 = 3 then
    (some ((gI σ 34), (pI σ 0 u0)))
  else if v1 = 4 then
    (some ((gI σ 39), (pI σ 0 u0)))
  else if v1 = 5 then
    (some ((gI σ 40), (pI σ 0 u0)))
  else if v1 = 6 then
    (some ((gI σ 41), (pI σ 0 u0)))
  else if v1 = 7 then
    (some ((gI σ 42), (pI σ 0 u0)))
  else if v1 = 8 then
    (some ((gI σ 43), (pI σ 0 u0)))
  else 
    (if u0 ≤ 0 then
      (some ((gI σ 46), (pI σ 0 u0)))
    else
      (some ((0 : Int32), (pI σ 0 u0))))
def f_X12_result_b11 (v1 : Int32) (σ : S5) : Option (Int32 × S5) :=
  f_X12_result_b16  (v1) (1) σ
def f_X12_result (a1 : Int32) (σ : S5) : Option (Int32 × S5) :=
  if a1 < 0 then
    (f_X12_result_b11  (a1) σ)
  else
    (if a1 ≤ 9 then
      (f_X12_result_b16  (a1) (0) σ)
    else
      (f_X12_result_b11  (a1) σ))
def f_X12_number_b18 (v1 : Int32) (u0 : Int32) (σ : S5) : Option (Int32 × S5) :=
  if u0 ≤ 0 then
    (gd v1 1000 <| some ((xA σ 58 v1), (pI σ 0 u0)))
  else
    (some ((0 : Int32), (pI σ 0 u0)))
def f_X12_number_b13 (v1 : Int32) (σ : S5) : Option (Int32 × S5) :=
  f_X12_number_b18  (v1) (1) σ
def f_X12_number (a1 : Int32) (σ : S5) : Option (Int32 × S5) :=
  if a1 < 0 then
    (f_X12_number_b13  (a1) σ)
  else
    (if a1 < (gI σ 46) then
      (f_X12_number_b18  (a1) (0) σ)
    else
      (f_X12_number_b13  (a1) σ))
def f_X12_called (a1 : Int32) (σ : S5) : Option (Int32 × S5) :=
  bd (f_X12_codeOf (a1) σ) (fun r3 τ3 =>
  if r3 ≤ 0 then
    (gd a1 640 <| some ((xA τ3 57 a1), (pI τ3 0 r3)))
  else
    (some ((0 : Int32), (pI τ3 0 r3))))
def f_X12_about_b16 (v1 : Int32) (u0 : Int32) (σ : S5) : Option (Int32 × S5) :=
  if v1 = 0 then
    (if (gI σ 29) = 0 then
      (some ((0 : Int32), (pI σ 0 u0)))
    else
      (some ((gI σ 22), (pI σ 0 u0))))
  else if v1 = 1 then
    (if (gI σ 29) = 0 then
      (some ((0 : Int32), (pI σ 0 u0)))
    else
      (some ((gI σ 14), (pI σ 0 u0))))
  else if v1 = 2 then
    (if (gI σ 29) = 0 then
      (some ((0 : Int32), (pI σ 0 u0)))
    else
      (some ((gI σ 11), (pI σ 0 u0))))
  else if v1 = 3 then
    (some ((gI σ 1), (pI σ 0 u0)))
  else if v1 = 4 then
    (some ((gI σ 2), (pI σ 0 u0)))
  else if v1 = 5 then
    (some ((gI σ 36), (pI σ 0 u0)))
  else if v1 = 6 then
    (some ((gI σ 35), (pI σ 0 u0)))
  else 
    (some ((0 : Int32), (pI σ 0 u0)))
def f_X12_about_b11 (v1 : Int32) (σ : S5) : Option (Int32 × S5) :=
  f_X12_about_b16  (v1) (1) σ
def f_X12_about (a1 : Int32) (σ : S5) : Option (Int32 × S5) :=
  if a1 < 0 then
    (f_X12_about_b11  (a1) σ)
  else
    (if a1 ≤ 6 then
      (f_X12_about_b16  (a1) (0) σ)
    else
      (f_X12_about_b11  (a1) σ))

