


def f_X0_value (a0 : Int32) (a1 : Int32) (σ : S5) : Option (Int64 × S5) :=
  some (((j_lshl ((a0).toInt64) 32) ||| (((a1).toInt64) &&& 4294967295)), σ)
def f_X0_tag (a0 : Int64) (σ : S5) : Option (Int32 × S5) :=
  some ((((j_lushr a0 32) : Int64).toInt32), σ)
def f_X0_make (a1 : Int32) (a2 : Int32) (σ : S5) : Option (Int32 × S5) :=
  if a1 ≤ (4000 - (xA σ 40 3)) then
    (gd a2 10 <| gd a2 10 <| some ((xA σ 40 3), (pA (pA σ 40 3 ((xA σ 40 3) + a1)) 40 a2 ((xA (pA σ 40 3 ((xA σ 40 3) + a1)) 40 a2) + 1))))
  else
    (some (((-1) : Int32), σ))
def f_X0_makeObject (a1 : Int32) (a2 : Int32) (σ : S5) : Option (Int32 × S5) :=
  bd (f_X0_make ((1 + a2)) (6) σ) (fun r6 τ6 =>
  if r6 = (-1) then
    (some (r6, τ6))
  else
    (gd r6 4000 <| some (r6, (pB τ6 14 r6 ((a1).toInt64)))))
def f_X0_makePart (a1 : Int32) (a2 : Int32) (σ : S5) : Option (Int32 × S5) :=
  bd (f_X0_make ((2 + a2)) (5) σ) (fun r5 τ5 =>
  if r5 = (-1) then
    (some (r5, τ5))
  else
    (gd r5 4000 <| gd (r5 + 1) 4000 <| some (r5, (pB (pB τ5 14 r5 ((a1).toInt64)) 14 (r5 + 1) ((a2).toInt64)))))
def f_X0_makeSuspension (a1 : Int32) (a2 : Int32) (a3 : Int32) (σ : S5) : Option (Int32 × S5) :=
  bd (f_X0_make ((1 + a3)) (4) σ) (fun r5 τ5 =>
  if r5 = (-1) then
    (some (r5, τ5))
  else
    (gd r5 4000 <| some (r5, (pB τ5 14 r5 ((2305843009213693952 ||| (j_lshl ((a1).toInt64) 24)) ||| ((a2).toInt64))))))
def f_X0_isBlack (a1 : Int32) (σ : S5) : Option (Int32 × S5) :=
  gd a1 4000 <| if (lg_cmp (xB σ 14 a1) 4611686018427387904) = 0 then
    (some ((1 : Int32), σ))
  else
    (some ((0 : Int32), σ))
def f_X0_isFresh (a1 : Int32) (σ : S5) : Option (Int32 × S5) :=
  gd a1 4000 <| if (lg_cmp ((xB σ 14 a1) &&& 2305843009213693952) 0) = 0 then
    (some ((0 : Int32), σ))
  else
    (some ((1 : Int32), σ))
def f_X0_blacken (a1 : Int32) (σ : S5) : Option (Unit × S5) :=
  gd a1 4000 <| some ((), (pB σ 14 a1 4611686018427387904))
def f_X0_update (a1 : Int32) (a2 : Int64) (σ : S5) : Option (Unit × S5) :=
  gd a1 4000 <| some ((), (pA (pB σ 14 a1 a2) 40 7 ((xA σ 40 7) + 1)))
def f_X0_functionOf (a1 : Int32) (σ : S5) : Option (Int32 × S5) :=
  gd a1 4000 <| some (((((j_lushr (xB σ 14 a1) 24) : Int64).toInt32) &&& 16777215), σ)
def f_X0_nodeOf (a1 : Int32) (σ : S5) : Option (Int32 × S5) :=
  gd a1 4000 <| some (((((xB σ 14 a1) : Int64).toInt32) &&& 16777215), σ)
def f_X4_needsParameter_K (a1 : Int32) (a2 : Int32) (σ : S5) : Option (Int32 × S5) :=
  gd a1 630 <| if ((j_iushr (xA σ 12 a1) a2) &&& 1) = 0 then
    (some ((0 : Int32), σ))
  else
    (some ((1 : Int32), σ))
def f_J13_bitCount_95d88 (a0 : Int64) (σ : S5) : Option (Int32 × S5) :=
  some ((((((((((((a0 - ((j_lushr a0 1) &&& 6148914691236517205)) &&& 3689348814741910323) + ((j_lushr (a0 - ((j_lushr a0 1) &&& 6148914691236517205)) 2) &&& 3689348814741910323)) + (j_lushr (((a0 - ((j_lushr a0 1) &&& 6148914691236517205)) &&& 3689348814741910323) + ((j_lushr (a0 - ((j_lushr a0 1) &&& 6148914691236517205)) 2) &&& 3689348814741910323)) 4)) &&& 1085102592571150095) + (j_lushr (((((a0 - ((j_lushr a0 1) &&& 6148914691236517205)) &&& 3689348814741910323) + ((j_lushr (a0 - ((j_lushr a0 1) &&& 6148914691236517205)) 2) &&& 3689348814741910323)) + (j_lushr (((a0 - ((j_lushr a0 1) &&& 6148914691236517205)) &&& 3689348814741910323) + ((j_lushr (a0 - ((j_lushr a0 1) &&& 6148914691236517205)) 2) &&& 3689348814741910323)) 4)) &&& 1085102592571150095) 8)) + (j_lushr ((((((a0 - ((j_lushr a0 1) &&& 6148914691236517205)) &&& 3689348814741910323) + ((j_lushr (a0 - ((j_lushr a0 1) &&& 6148914691236517205)) 2) &&& 3689348814741910323)) + (j_lushr (((a0 - ((j_lushr a0 1) &&& 6148914691236517205)) &&& 3689348814741910323) + ((j_lushr (a0 - ((j_lushr a0 1) &&& 6148914691236517205)) 2) &&& 3689348814741910323)) 4)) &&& 1085102592571150095) + (j_lushr (((((a0 - ((j_lushr a0 1) &&& 6148914691236517205)) &&& 3689348814741910323) + ((j_lushr (a0 - ((j_lushr a0 1) &&& 6148914691236517205)) 2) &&& 3689348814741910323)) + (j_lushr (((a0 - ((j_lushr a0 1) &&& 6148914691236517205)) &&& 3689348814741910323) + ((j_lushr (a0 - ((j_lushr a0 1) &&& 6148914691236517205)) 2) &&& 3689348814741910323)) 4)) &&& 1085102592571150095) 8)) 16)) + (j_lushr (((((((a0 - ((j_lushr a0 1) &&& 6148914691236517205)) &&& 3689348814741910323) + ((j_lushr (a0 - ((j_lushr a0 1) &&& 6148914691236517205)) 2) &&& 3689348814741910323)) + (j_lushr (((a0 - ((j_lushr a0 1) &&& 6148914691236517205)) &&& 3689348814741910323) + ((j_lushr (a0 - ((j_lushr a0 1) &&& 6148914691236517205)) 2) &&& 3689348814741910323)) 4)) &&& 1085102592571150095) + (j_lushr (((((a0 - ((j_lushr a0 1) &&& 6148914691236517205)) &&& 3689348814741910323) + ((j_lushr (a0 - ((j_lushr a0 1) &&& 6148914691236517205)) 2) &&& 3689348814741910323)) + (j_lushr (((a0 - ((j_lushr a0 1) &&& 6148914691236517205)) &&& 3689348814741910323) + ((j_lushr (a0 - ((j_lushr a0 1) &&& 6148914691236517205)) 2) &&& 3689348814741910323)) 4)) &&& 1085102592571150095) 8)) + (j_lushr ((((((a0 - ((j_lushr a0 1) &&& 6148914691236517205)) &&& 3689348814741910323) + ((j_lushr (a0 - ((j_lushr a0 1) &&& 6148914691236517205)) 2) &&& 3689348814741910323)) + (j_lushr (((a0 - ((j_lushr a0 1) &&& 6148914691236517205)) &&& 3689348814741910323) + ((j_lushr (a0 - ((j_lushr a0 1) &&& 6148914691236517205)) 2) &&& 3689348814741910323)) 4)) &&& 1085102592571150095) + (j_lushr (((((a0 - ((j_lushr a0 1) &&& 6148914691236517205)) &&& 3689348814741910323) + ((j_lushr (a0 - ((j_lushr a0 1) &&& 6148914691236517205)) 2) &&& 3689348814741910323)) + (j_lushr (((a0 - ((j_lushr a0 1) &&& 6148914691236517205)) &&& 3689348814741910323) + ((j_lushr (a0 - ((j_lushr a0 1) &&& 6148914691236517205)) 2) &&& 3689348814741910323)) 4)) &&& 1085102592571150095) 8)) 16)) 32)) : Int64).toInt32) &&& 127), σ)
def f_J7_fill_53178_mach_counts_B5 (rec5 : Int32 → Int32 → Int32 → S5 → Option (Unit × S5)) (v1 : Int32) (v2 : Int32) (v3 : Int32) (σ : S5) : Option (Unit × S5) :=
  if v3 ≤ v2 then
    (some ((), σ))
  else
    (gd v2 10 <| rec5 (v1) ((v2 + 1)) (v3) (pA σ 40 v2 v1))
def f_J7_fill_53178_mach_counts_L5 : Nat → Int32 → Int32 → Int32 → S5 → Option (Unit × S5)
  | 0, _, _, _, _ => none
  | n + 1, v1, v2, v3, σ => f_J7_fill_53178_mach_counts_B5 (f_J7_fill_53178_mach_counts_L5  n) v1 v2 v3 σ
def f_J7_fill_53178_mach_counts (a1 : Int32) (σ : S5) : Option (Unit × S5) :=
  f_J7_fill_53178_mach_counts_L5  FU (a1) (0) (10) σ
def f_J7_fill_53178_mach_timesCalled_B5 (rec5 : Int32 → Int32 → Int32 → S5 → Option (Unit × S5)) (v1 : Int32) (v2 : Int32) (v3 : Int32) (σ : S5) : Option (Unit × S5) :=
  if v3 ≤ v2 then
    (some ((), σ))
  else
    (gd v2 630 <| rec5 (v1) ((v2 + 1)) (v3) (pA σ 41 v2 v1))
def f_J7_fill_53178_mach_timesCalled_L5 : Nat → Int32 → Int32 → Int32 → S5 → Option (Unit × S5)
  | 0, _, _, _, _ => none
  | n + 1, v1, v2, v3, σ => f_J7_fill_53178_mach_timesCalled_B5 (f_J7_fill_53178_mach_timesCalled_L5  n) v1 v2 v3 σ
def f_J7_fill_53178_mach_timesCalled (a1 : Int32) (σ : S5) : Option (Unit × S5) :=
  f_J7_fill_53178_mach_timesCalled_L5  FU (a1) (0) (630) σ
def f_X3_frame (a0 : Int32) (a1 : Int32) (a2 : Int32) (σ : S5) : Option (Int64 × S5) :=
  some ((((j_lshl ((a0).toInt64) 56) ||| (j_lshl ((a1).toInt64) 28)) ||| ((a2).toInt64)), σ)
def f_X3_forget  (σ : S5) : Option (Unit × S5) :=
  bd (f_J7_fill_53178_mach_counts (0) σ) (fun _ τ5 =>
  bd (f_J7_fill_53178_mach_timesCalled (0) τ5) (fun _ τ13 =>
  some ((), τ13)))
def f_X3_endWith (a1 : Int32) (a2 : Int32) (σ : S5) : Option (Unit × S5) :=
  if (xA σ 40 0) = 0 then
    (some ((), (pA (pA σ 40 0 a1) 40 1 a2)))
  else
    (some ((), σ))
def f_X3_isOver  (σ : S5) : Option (Int32 × S5) :=
  if (xA σ 40 0) = 0 then
    (some ((0 : Int32), σ))
  else
    (some ((1 : Int32), σ))
def f_X3_pop  (σ : S5) : Option (Int64 × S5) :=
  if 0 < (gI σ 40) then
    (gd ((gI σ 40) - 1) (gN σ 1) <| some ((xB σ 12 ((gI σ 40) - 1)), (pI σ 40 ((gI σ 40) - 1))))
  else
    (some ((0 : Int64), σ))
def f_X3_give (a1 : Int64) (σ : S5) : Option (Unit × S5) :=
  some ((), (pI (pJ σ 5 a1) 45 0))
def f_X3_workOn (a1 : Int32) (σ : S5) : Option (Unit × S5) :=
  some ((), (pI (pI σ 44 a1) 45 1))
def f_X3_closeVariables (a1 : Int32) (a2 : Int32) (σ : S5) : Option (Unit × S5) :=
  some ((), (pI (pI (pI σ 42 (gI σ 41)) 41 a1) 43 a2))
def f_X3_loadVariables_b59 (rec6 : Int64 → Int32 → Int32 → S5 → Option (Unit × S5)) (v2 : Int64) (v4 : Int32) (v5 : Int32) (σ : S5) : Option (Unit × S5) :=
  rec6 (v2) (v4) ((v5 + 1)) σ
def f_X3_loadVariables_B6 (rec6 : Int64 → Int32 → Int32 → S5 → Option (Unit × S5)) (v2 : Int64) (v4 : Int32) (v5 : Int32) (σ : S5) : Option (Unit × S5) :=
  gd (gI σ 43) 630 <| if (xA σ 6 (gI σ 43)) ≤ v5 then
    (some ((), σ))
  else
    (if (lg_cmp ((j_lushr v2 v5) &&& 1) 0) = 0 then
      (f_X3_loadVariables_b59 rec6 (v2) (v4) (v5) σ)
    else
      (gd v4 4000 <| gd ((gI σ 41) + v5) (gN σ 3) <| f_X3_loadVariables_b59 rec6 (v2) ((v4 + 1)) (v5) (pB σ 13 ((gI σ 41) + v5) (xB σ 14 v4))))
def f_X3_loadVariables_L6 : Nat → Int64 → Int32 → Int32 → S5 → Option (Unit × S5)
  | 0, _, _, _, _ => none
  | n + 1, v2, v4, v5, σ => f_X3_loadVariables_B6 (f_X3_loadVariables_L6  n) v2 v4 v5 σ
def f_X3_loadVariables (a1 : Int32) (a2 : Int64) (σ : S5) : Option (Unit × S5) :=
  f_X3_loadVariables_L6  FU (a2) (a1) (0) σ
def f_X3_storeVariables_b59 (rec6 : Int64 → Int32 → Int32 → S5 → Option (Unit × S5)) (v2 : Int64) (v4 : Int32) (v5 : Int32) (σ : S5) : Option (Unit × S5) :=
  rec6 (v2) (v4) ((v5 + 1)) σ
def f_X3_storeVariables_B6 (rec6 : Int64 → Int32 → Int32 → S5 → Option (Unit × S5)) (v2 : Int64) (v4 : Int32) (v5 : Int32) (σ : S5) : Option (Unit × S5) :=
  gd (gI σ 43) 630 <| if (xA σ 6 (gI σ 43)) ≤ v5 then
    (some ((), σ))
  else
    (if (lg_cmp ((j_lushr v2 v5) &&& 1) 0) = 0 then
      (f_X3_storeVariables_b59 rec6 (v2) (v4) (v5) σ)
    else
      (gd ((gI σ 41) + v5) (gN σ 3) <| gd v4 4000 <| f_X3_storeVariables_b59 rec6 (v2) ((v4 + 1)) (v5) (pB σ 14 v4 (xB σ 13 ((gI σ 41) + v5)))))
def f_X3_storeVariables_L6 : Nat → Int64 → Int32 → Int32 → S5 → Option (Unit × S5)
  | 0, _, _, _, _ => none
  | n + 1, v2, v4, v5, σ => f_X3_storeVariables_B6 (f_X3_storeVariables_L6  n) v2 v4 v5 σ
def f_X3_storeVariables (a1 : Int32) (a2 : Int64) (σ : S5) : Option (Unit × S5) :=
  f_X3_storeVariables_L6  FU (a2) (a1) (0) σ
def f_X3_made (a1 : Int32) (a2 : Int32) (σ : S5) : Option (Int64 × S5) :=
  if a2 = (-1) then
    (bd (f_X3_endWith (3) (2) σ) (fun _ τ8 =>
    some ((0 : Int64), τ8)))
  else
    (bd (f_X0_value (a1) (a2) σ) (fun r15 τ15 =>
    some (r15, τ15)))
def f_X3_isPartOfCall (a1 : Int32) (σ : S5) : Option (Int32 × S5) :=
  gd a1 6200 <| gd (xA σ 16 a1) 6200 <| if (xA σ 13 (xA σ 16 a1)) = 2 then
    (gd a1 6200 <| gd (xA σ 16 a1) 6200 <| gd (xA σ 14 (xA σ 16 a1)) 630 <| if (xA σ 3 (xA σ 14 (xA σ 16 a1))) ≤ (xA σ 15 a1) then
      (some ((0 : Int32), σ))
    else
      (some ((1 : Int32), σ)))
  else
    (some ((0 : Int32), σ))
def f_X3_begin_b200 (v1 : Int32) (σ : S5) : Option (Int64 × S5) :=
  gd v1 6200 <| bd (f_J13_bitCount_95d88 ((xB σ 2 v1)) σ) (fun r221 τ221 =>
  bd (f_X0_makeSuspension ((gI σ 43)) (v1) (r221) τ221) (fun r224 τ224 =>
  bd (f_X3_made (6) (r224) τ224) (fun r227 τ227 =>
  some (r227, τ227))))
def f_X3_begin (a1 : Int32) (a2 : Int32) (σ : S5) : Option (Int64 × S5) :=
  gd a1 6200 <| gd a1 6200 <| if (xA σ 13 a1) = 0 then
    (bd (f_X0_value (1) ((xA σ 14 a1)) σ) (fun r74 τ74 =>
    some (r74, τ74)))
  else if (xA σ 13 a1) = 1 then
    (bd (f_X0_value (3) ((xA σ 14 a1)) σ) (fun r80 τ80 =>
    some (r80, τ80)))
  else if (xA σ 13 a1) = 2 then
    (gd (xA σ 14 a1) 630 <| if (xA σ 3 (xA σ 14 a1)) ≤ 0 then
      (gd (xA σ 14 a1) 30 <| bd (f_X0_value (6) ((xA σ 43 (xA σ 14 a1))) σ) (fun r110 τ110 =>
      some (r110, τ110)))
    else
      (bd (f_X0_value (2) ((xA σ 14 a1)) σ) (fun r98 τ98 =>
      some (r98, τ98))))
  else if (xA σ 13 a1) = 3 then
    (if a2 = 0 then
      (gd ((gI σ 41) + (xA σ 14 a1)) (gN σ 3) <| some ((xB σ 13 ((gI σ 41) + (xA σ 14 a1))), σ))
    else
      (f_X3_begin_b200  (a1) σ))
  else if (xA σ 13 a1) = 4 then
    (f_X3_begin_b200  (a1) σ)
  else if (xA σ 13 a1) = 5 then
    (f_X3_begin_b200  (a1) σ)
  else if (xA σ 13 a1) = 6 then
    (f_X3_begin_b200  (a1) σ)
  else if (xA σ 13 a1) = 7 then
    (f_X3_begin_b200  (a1) σ)
  else if (xA σ 13 a1) = 8 then
    (bd (f_X3_isPartOfCall (a1) σ) (fun r155 τ155 =>
    if r155 = 0 then
      (f_X3_begin_b200  (a1) τ155)
    else
      (gd a1 6200 <| gd (xA τ155 16 a1) 6200 <| gd a1 6200 <| bd (f_X0_makePart ((xA τ155 14 (xA τ155 16 a1))) ((xA τ155 15 a1)) τ155) (fun r193 τ193 =>
      bd (f_X3_made (5) (r193) τ193) (fun r196 τ196 =>
      some (r196, τ196))))))
  else if (xA σ 13 a1) = 9 then
    (gd (xA σ 14 a1) 30 <| bd (f_X0_makeObject ((xA σ 14 a1)) ((xA σ 2 (xA σ 14 a1))) σ) (fun r130 τ130 =>
    bd (f_X3_made (4) (r130) τ130) (fun r133 τ133 =>
    some (r133, τ133))))
  else 
    (f_X3_begin_b200  (a1) σ)
def f_X3_giveInt (a1 : Int32) (σ : S5) : Option (Unit × S5) :=
  bd (f_X0_value (1) (a1) σ) (fun r3 τ3 =>
  bd (f_X3_give (r3) τ3) (fun _ τ6 =>
  some ((), τ6)))
def f_X3_giveTruth_b11 (u0 : Int32) (u1 : Int32) (σ : S5) : Option (Unit × S5) :=
  bd (f_X0_value (u1) (u0) σ) (fun r11 τ11 =>
  bd (f_X3_give (r11) τ11) (fun _ τ14 =>
  some ((), τ14)))
def f_X3_giveTruth (a1 : Int32) (σ : S5) : Option (Unit × S5) :=
  if a1 = 0 then
    (f_X3_giveTruth_b11  (0) (3) σ)
  else
    (f_X3_giveTruth_b11  (1) (3) σ)
def f_X3_divide_b29 (u0 : Int32) (σ : S5) : Option (Unit × S5) :=
  bd (f_X3_giveInt (u0) σ) (fun _ τ29 =>
  some ((), τ29))
def f_X3_divide (a1 : Int32) (a2 : Int32) (a3 : Int32) (σ : S5) : Option (Unit × S5) :=
  if a3 = 0 then
    (bd (f_X3_endWith (2) (2) σ) (fun _ τ7 =>
    some ((), τ7)))
  else
    (if a1 = 47 then
      (gz a3 <| f_X3_divide_b29  ((a2 / a3)) σ)
    else
      (gz a3 <| f_X3_divide_b29  ((a2 - a2 / a3 * a3)) σ))
def f_X3_operate_b179 (u0 : Int32) (σ : S5) : Option (Unit × S5) :=
  bd (f_X3_giveTruth (u0) σ) (fun _ τ179 =>
  some ((), τ179))
def f_X3_operate_b160 (u0 : Int32) (σ : S5) : Option (Unit × S5) :=
  bd (f_X3_giveTruth (u0) σ) (fun _ τ160 =>
  some ((), τ160))
def f_X3_operate_b141 (u0 : Int32) (σ : S5) : Option (Unit × S5) :=
  bd (f_X3_giveTruth (u0) σ) (fun _ τ141 =>
  some ((), τ141))
def f_X3_operate_b17  (σ : S5) : Option (Unit × S5) :=
  bd (f_X3_endWith (2) (4) σ) (fun _ τ20 =>
  some ((), τ20))
def f_X3_operate (a1 : Int32) (a2 : Int64) (a4 : Int64) (σ : S5) : Option (Unit × S5) :=
  bd (f_X0_tag (a2) σ) (fun r1 τ1 =>
  if r1 = 1 then
    (bd (f_X0_tag (a4) τ1) (fun r10 τ10 =>
    if r10 = 1 then
      (if a1 = 42 then
        (bd (f_X3_giveInt ((((a2 : Int64).toInt32) * ((a4 : Int64).toInt32))) τ10) (fun _ τ122 =>
        some ((), τ122)))
      else if a1 = 43 then
        (bd (f_X3_giveInt ((((a2 : Int64).toInt32) + ((a4 : Int64).toInt32))) τ10) (fun _ τ98 =>
        some ((), τ98)))
      else if a1 = 45 then
        (bd (f_X3_giveInt ((((a2 : Int64).toInt32) - ((a4 : Int64).toInt32))) τ10) (fun _ τ110 =>
        some ((), τ110)))
      else if a1 = 60 then
        (if ((a4 : Int64).toInt32) ≤ ((a2 : Int64).toInt32) then
          (f_X3_operate_b141  (0) τ10)
        else
          (f_X3_operate_b141  (1) τ10))
      else if a1 = 129 then
        (if ((a2 : Int64).toInt32) = ((a4 : Int64).toInt32) then
          (f_X3_operate_b160  (1) τ10)
        else
          (f_X3_operate_b160  (0) τ10))
      else if a1 = 130 then
        (if ((a4 : Int64).toInt32) < ((a2 : Int64).toInt32) then
          (f_X3_operate_b179  (0) τ10)
        else
          (f_X3_operate_b179  (1) τ10))
      else 
        (bd (f_X3_divide (a1) (((a2 : Int64).toInt32)) (((a4 : Int64).toInt32)) τ10) (fun _ τ191 =>
        some ((), τ191))))
    else
      (f_X3_operate_b17   τ10)))
  else
    (f_X3_operate_b17   τ1))
def f_X3_fits_B115 (rec115 : Int32 → Int32 → Int32 → Int32 → S5 → Option (Int32 × S5)) (v1 : Int32) (v2 : Int32) (v4 : Int32) (v5 : Int32) (σ : S5) : Option (Int32 × S5) :=
  gd v2 30 <| if (xA σ 2 v2) ≤ v5 then
    (some ((1 : Int32), σ))
  else
    (gd v1 6200 <| gd ((v4 + 1) + v5) 4000 <| gd (((gI σ 41) + (xA σ 15 v1)) + v5) (gN σ 3) <| rec115 (v1) (v2) (v4) ((v5 + 1)) (pB σ 13 (((gI σ 41) + (xA σ 15 v1)) + v5) (xB σ 14 ((v4 + 1) + v5))))
def f_X3_fits_L115 : Nat → Int32 → Int32 → Int32 → Int32 → S5 → Option (Int32 × S5)
  | 0, _, _, _, _, _ => none
  | n + 1, v1, v2, v4, v5, σ => f_X3_fits_B115 (f_X3_fits_L115  n) v1 v2 v4 v5 σ
def f_X3_fits (a1 : Int32) (σ : S5) : Option (Int32 × S5) :=
  gd a1 6200 <| bd (f_X0_tag ((gJ σ 5)) σ) (fun r14 τ14 =>
  gd a1 6200 <| if (xA τ14 13 a1) = 13 then
    (some ((1 : Int32), τ14))
  else
    (gd a1 6200 <| if (xA τ14 13 a1) = 12 then
      (if r14 = 1 then
        (if (((gJ τ14 5) : Int64).toInt32) = (xA σ 14 a1) then
          (some ((1 : Int32), τ14))
        else
          (some ((0 : Int32), τ14)))
      else
        (some ((0 : Int32), τ14)))
    else
      (if r14 = 3 then
        (if (((gJ τ14 5) : Int64).toInt32) = (xA σ 14 a1) then
          (some ((1 : Int32), τ14))
        else
          (some ((0 : Int32), τ14)))
      else
        (if r14 = 4 then
          (gd (((gJ τ14 5) : Int64).toInt32) 4000 <| if (lg_cmp (xB τ14 14 (((gJ τ14 5) : Int64).toInt32)) (((xA σ 14 a1)).toInt64)) = 0 then
            (f_X3_fits_L115  FU (a1) ((xA σ 14 a1)) ((((gJ τ14 5) : Int64).toInt32)) (0) τ14)
          else
            (some ((0 : Int32), τ14)))
        else
          (some ((0 : Int32), τ14))))))
def f_X3_choose_b53  (σ : S5) : Option (Unit × S5) :=
  bd (f_X3_endWith (2) (1) σ) (fun _ τ56 =>
  some ((), τ56))
def f_X3_choose_B4 (rec4 : Int32 → Int32 → S5 → Option (Unit × S5)) (v2 : Int32) (v3 : Int32) (σ : S5) : Option (Unit × S5) :=
  if 10 ≤ v2 then
    (f_X3_choose_b53   σ)
  else
    (if v3 = (-1) then
      (f_X3_choose_b53   σ)
    else
      (bd (f_X3_fits (v3) σ) (fun r17 τ17 =>
      if r17 = 0 then
        (gd v3 6200 <| rec4 ((v2 + 1)) ((xA τ17 17 v3)) τ17)
      else
        (gd v3 6200 <| bd (f_X3_workOn ((xA τ17 16 v3)) τ17) (fun _ τ33 =>
        some ((), τ33))))))
def f_X3_choose_L4 : Nat → Int32 → Int32 → S5 → Option (Unit × S5)
  | 0, _, _, _ => none
  | n + 1, v2, v3, σ => f_X3_choose_B4 (f_X3_choose_L4  n) v2 v3 σ
def f_X3_choose (a1 : Int32) (σ : S5) : Option (Unit × S5) :=
  f_X3_choose_L4  FU (0) (a1) σ
def f_X3_extendPart_B78 (rec78 : Int32 → Int32 → Int32 → Int64 → Int32 → S5 → Option (Unit × S5)) (v3 : Int32) (v4 : Int32) (v5 : Int32) (v6 : Int64) (v8 : Int32) (σ : S5) : Option (Unit × S5) :=
  if v4 ≤ v8 then
    (bd (f_X3_give (v6) (pI σ 40 ((gI σ 40) - v4))) (fun _ τ137 =>
    some ((), τ137)))
  else
    (gd (((gI σ 40) - v4) + v8) (gN σ 1) <| gd (((v5 + 2) + v3) + v8) 4000 <| rec78 (v3) (v4) (v5) (v6) ((v8 + 1)) (pB σ 14 (((v5 + 2) + v3) + v8) (xB σ 12 (((gI σ 40) - v4) + v8))))
def f_X3_extendPart_L78 : Nat → Int32 → Int32 → Int32 → Int64 → Int32 → S5 → Option (Unit × S5)
  | 0, _, _, _, _, _, _ => none
  | n + 1, v3, v4, v5, v6, v8, σ => f_X3_extendPart_B78 (f_X3_extendPart_L78  n) v3 v4 v5 v6 v8 σ
def f_X3_extendPart_B34 (rec34 : Int32 → Int32 → Int32 → Int32 → Int64 → Int32 → S5 → Option (Unit × S5)) (v2 : Int32) (v3 : Int32) (v4 : Int32) (v5 : Int32) (v6 : Int64) (v8 : Int32) (σ : S5) : Option (Unit × S5) :=
  if v3 ≤ v8 then
    (f_X3_extendPart_L78  FU (v3) (v4) (v5) (v6) (0) σ)
  else
    (gd ((v2 + 2) + v8) 4000 <| gd ((v5 + 2) + v8) 4000 <| rec34 (v2) (v3) (v4) (v5) (v6) ((v8 + 1)) (pB σ 14 ((v5 + 2) + v8) (xB σ 14 ((v2 + 2) + v8))))
def f_X3_extendPart_L34 : Nat → Int32 → Int32 → Int32 → Int32 → Int64 → Int32 → S5 → Option (Unit × S5)
  | 0, _, _, _, _, _, _, _ => none
  | n + 1, v2, v3, v4, v5, v6, v8, σ => f_X3_extendPart_B34 (f_X3_extendPart_L34  n) v2 v3 v4 v5 v6 v8 σ
def f_X3_extendPart (a1 : Int32) (a2 : Int32) (a3 : Int32) (a4 : Int32) (σ : S5) : Option (Unit × S5) :=
  bd (f_X0_makePart (a1) ((a3 + a4)) σ) (fun r9 τ9 =>
  bd (f_X3_made (5) (r9) τ9) (fun r18 τ18 =>
  bd (f_X3_isOver  τ18) (fun r24 τ24 =>
  if r24 = 0 then
    (f_X3_extendPart_L34  FU (a2) (a3) (a4) (r9) (r18) (0) τ24)
  else
    (some ((), τ24)))))
def f_X3_addNumbers_b49 (v1 : Int32) (v4 : Int32) (σ : S5) : Option (Unit × S5) :=
  some ((), (pA σ 40 9 (v4 + v1)))
def f_X3_addNumbers (a1 : Int32) (a2 : Int32) (a3 : Int32) (σ : S5) : Option (Unit × S5) :=
  if ((xA σ 40 9) + a1) ≤ 1000 then
    (gd (xA σ 40 9) 1000 <| if a1 ≤ 1 then
      (f_X3_addNumbers_b49  (a1) ((xA σ 40 9)) (pA σ 42 (xA σ 40 9) a2))
    else
      (gd ((xA σ 40 9) + 1) 1000 <| f_X3_addNumbers_b49  (a1) ((xA σ 40 9)) (pA (pA σ 42 (xA σ 40 9) a2) 42 ((xA σ 40 9) + 1) a3)))
  else
    (bd (f_X3_endWith (3) (3) σ) (fun _ τ22 =>
    some ((), τ22)))
def f_X3_keepRow_B5 (E : Int32 → S5 → Option (Int64 × S5)) (rec5 : Int32 → Int32 → Int32 → S5 → Option (Unit × S5)) (v2 : Int32) (v3 : Int32) (v4 : Int32) (σ : S5) : Option (Unit × S5) :=
  if 10 ≤ v3 then
    (some ((), σ))
  else
    (if v4 = (-1) then
      (some ((), σ))
    else
      (bd (f_X3_isOver  σ) (fun r18 τ18 =>
      if r18 = 0 then
        (bd (E (v4) τ18) (fun r37 τ37 =>
        gd (v2 + v3) 4000 <| gd v4 6200 <| rec5 (v2) ((v3 + 1)) ((xA τ37 17 v4)) (pB τ37 14 (v2 + v3) r37)))
      else
        (some ((), τ18)))))
def f_X3_keepRow_L5 (E : Int32 → S5 → Option (Int64 × S5)) : Nat → Int32 → Int32 → Int32 → S5 → Option (Unit × S5)
  | 0, _, _, _, _ => none
  | n + 1, v2, v3, v4, σ => f_X3_keepRow_B5 E (f_X3_keepRow_L5 E n) v2 v3 v4 σ
def f_X3_keepRow (E : Int32 → S5 → Option (Int64 × S5)) (a1 : Int32) (a2 : Int32) (σ : S5) : Option (Unit × S5) :=
  f_X3_keepRow_L5 E FU (a2) (0) (a1) σ
def f_X3_fill_b172 (E : Int32 → S5 → Option (Int64 × S5)) (v1 : Int32) (v5 : Int32) (σ : S5) : Option (Unit × S5) :=
  gd v1 6200 <| bd (f_X3_storeVariables ((v5 + 1)) ((xB σ 2 v1)) σ) (fun _ τ186 =>
  some ((), τ186))
def f_X3_fill (E : Int32 → S5 → Option (Int64 × S5)) (a1 : Int32) (a2 : Int64) (a4 : Int32) (σ : S5) : Option (Unit × S5) :=
  bd (f_X3_isOver  σ) (fun r1 τ1 =>
  if r1 = 0 then
    (gd a1 6200 <| gd a1 6200 <| if (xA τ1 13 a1) = 0 then
      (some ((), τ1))
    else if (xA τ1 13 a1) = 1 then
      (some ((), τ1))
    else if (xA τ1 13 a1) = 2 then
      (some ((), τ1))
    else if (xA τ1 13 a1) = 3 then
      (if a4 = 0 then
        (some ((), τ1))
      else
        (gd a1 6200 <| bd (f_X3_storeVariables ((((a2 : Int64).toInt32) + 1)) ((xB τ1 2 a1)) τ1) (fun _ τ123 =>
        some ((), τ123))))
    else if (xA τ1 13 a1) = 4 then
      (gd a1 6200 <| if (xA τ1 13 a1) = 8 then
        (bd (f_X3_isPartOfCall (a1) τ1) (fun r145 τ145 =>
        if r145 = 0 then
          (f_X3_fill_b172 E (a1) (((a2 : Int64).toInt32)) τ145)
        else
          (gd (xA τ1 16 a1) 6200 <| bd (f_X3_keepRow E ((xA τ145 17 (xA τ1 16 a1))) ((((a2 : Int64).toInt32) + 2)) τ145) (fun _ τ166 =>
          some ((), τ166)))))
      else
        (f_X3_fill_b172 E (a1) (((a2 : Int64).toInt32)) τ1))
    else if (xA τ1 13 a1) = 5 then
      (gd a1 6200 <| if (xA τ1 13 a1) = 8 then
        (bd (f_X3_isPartOfCall (a1) τ1) (fun r145 τ145 =>
        if r145 = 0 then
          (f_X3_fill_b172 E (a1) (((a2 : Int64).toInt32)) τ145)
        else
          (gd (xA τ1 16 a1) 6200 <| bd (f_X3_keepRow E ((xA τ145 17 (xA τ1 16 a1))) ((((a2 : Int64).toInt32) + 2)) τ145) (fun _ τ166 =>
          some ((), τ166)))))
      else
        (f_X3_fill_b172 E (a1) (((a2 : Int64).toInt32)) τ1))
    else if (xA τ1 13 a1) = 6 then
      (gd a1 6200 <| if (xA τ1 13 a1) = 8 then
        (bd (f_X3_isPartOfCall (a1) τ1) (fun r145 τ145 =>
        if r145 = 0 then
          (f_X3_fill_b172 E (a1) (((a2 : Int64).toInt32)) τ145)
        else
          (gd (xA τ1 16 a1) 6200 <| bd (f_X3_keepRow E ((xA τ145 17 (xA τ1 16 a1))) ((((a2 : Int64).toInt32) + 2)) τ145) (fun _ τ166 =>
          some ((), τ166)))))
      else
        (f_X3_fill_b172 E (a1) (((a2 : Int64).toInt32)) τ1))
    else if (xA τ1 13 a1) = 7 then
      (gd a1 6200 <| if (xA τ1 13 a1) = 8 then
        (bd (f_X3_isPartOfCall (a1) τ1) (fun r145 τ145 =>
        if r145 = 0 then
          (f_X3_fill_b172 E (a1) (((a2 : Int64).toInt32)) τ145)
        else
          (gd (xA τ1 16 a1) 6200 <| bd (f_X3_keepRow E ((xA τ145 17 (xA τ1 16 a1))) ((((a2 : Int64).toInt32) + 2)) τ145) (fun _ τ166 =>
          some ((), τ166)))))
      else
        (f_X3_fill_b172 E (a1) (((a2 : Int64).toInt32)) τ1))
    else if (xA τ1 13 a1) = 8 then
      (gd a1 6200 <| if (xA τ1 13 a1) = 8 then
        (bd (f_X3_isPartOfCall (a1) τ1) (fun r145 τ145 =>
        if r145 = 0 then
          (f_X3_fill_b172 E (a1) (((a2 : Int64).toInt32)) τ145)
        else
          (gd (xA τ1 16 a1) 6200 <| bd (f_X3_keepRow E ((xA τ145 17 (xA τ1 16 a1))) ((((a2 : Int64).toInt32) + 2)) τ145) (fun _ τ166 =>
          some ((), τ166)))))
      else
        (f_X3_fill_b172 E (a1) (((a2 : Int64).toInt32)) τ1))
    else if (xA τ1 13 a1) = 9 then
      (bd (f_X3_keepRow E ((xA τ1 16 a1)) ((((a2 : Int64).toInt32) + 1)) τ1) (fun _ τ98 =>
      some ((), τ98)))
    else 
      (gd a1 6200 <| if (xA τ1 13 a1) = 8 then
        (bd (f_X3_isPartOfCall (a1) τ1) (fun r145 τ145 =>
        if r145 = 0 then
          (f_X3_fill_b172 E (a1) (((a2 : Int64).toInt32)) τ145)
        else
          (gd (xA τ1 16 a1) 6200 <| bd (f_X3_keepRow E ((xA τ145 17 (xA τ1 16 a1))) ((((a2 : Int64).toInt32) + 2)) τ145) (fun _ τ166 =>
          some ((), τ166)))))
      else
        (f_X3_fill_b172 E (a1) (((a2 : Int64).toInt32)) τ1)))
  else
    (some ((), τ1)))
def f_X3_keep (E : Int32 → S5 → Option (Int64 × S5)) (a1 : Int32) (σ : S5) : Option (Int64 × S5) :=
  bd (f_X3_begin (a1) (0) σ) (fun r3 τ3 =>
  bd (f_X3_fill E (a1) (r3) (0) τ3) (fun _ τ11 =>
  some (r3, τ11)))
/-- what is kept, so many levels deep -/
def f_keepE : Nat → Int32 → S5 → Option (Int64 × S5)
  | 0, _, _ => none
  | d + 1, a1, σ => f_X3_keep (f_keepE d) a1 σ
def f_X3_push_b30 (v1 : Int64) (σ : S5) : Option (Unit × S5) :=
  gd (gI σ 40) (gN σ 1) <| some ((), (pI (pB σ 12 (gI σ 40) v1) 40 ((gI σ 40) + 1)))
def f_X3_push (a1 : Int64) (σ : S5) : Option (Unit × S5) :=
  if (gI σ 40) < (Int32.ofNat (gN σ 1)) then
    (f_X3_push_b30  (a1) σ)
  else
    (gle 512 (gN σ 1) <| gle (gN σ 1) 16777215 <| f_X3_push_b30 (a1) (pN (grB σ 12 (gN σ 1)) 1 (2 * (gN σ 1))))
def f_X3_makeRoom_b40  (σ : S5) : Option (Unit × S5) :=
  some ((), σ)
def f_X3_makeRoom (a1 : Int32) (σ : S5) : Option (Unit × S5) :=
  gd a1 630 <| if ((gI σ 42) + (xA σ 6 a1)) ≤ (Int32.ofNat (gN σ 3)) then
    (f_X3_makeRoom_b40   σ)
  else
    (gle 512 (gN σ 3) <| gle (gN σ 3) 16777215 <| f_X3_makeRoom_b40  (pN (grB σ 13 (gN σ 3)) 3 (2 * (gN σ 3))))
def f_X3_openVariables_b22 (v1 : Int32) (σ : S5) : Option (Unit × S5) :=
  gd v1 630 <| some ((), (pI (pI (pI σ 41 (gI σ 42)) 42 ((gI σ 42) + (xA σ 6 v1))) 43 v1))
def f_X3_openVariables_b17 (v1 : Int32) (σ : S5) : Option (Unit × S5) :=
  bd (f_X3_makeRoom (v1) σ) (fun _ τ19 =>
  gle (gN σ 1) (gN τ19 1) <| gle (gN σ 3) (gN τ19 3) <| f_X3_openVariables_b22  (v1) τ19)
def f_X3_openVariables (a1 : Int32) (σ : S5) : Option (Unit × S5) :=
  bd (f_X3_frame (8) ((gI σ 41)) ((gI σ 43)) σ) (fun r11 τ11 =>
  gq (gN τ11 1) (gN σ 1) <| gq (gN τ11 3) (gN σ 3) <| bd (f_X3_push (r11) τ11) (fun _ τ14 =>
  gle (gN τ11 1) (gN τ14 1) <| gle (gN τ11 3) (gN τ14 3) <| f_X3_openVariables_b17  (a1) τ14))
def f_X3_enter_b100 (v3 : Int32) (v4 : Int32) (σ : S5) : Option (Unit × S5) :=
  gd v4 6200 <| bd (f_X3_loadVariables ((v3 + 1)) ((xB σ 2 v4)) σ) (fun _ τ114 =>
  gq (gN τ114 1) (gN σ 1) <| gq (gN τ114 3) (gN σ 3) <| bd (f_X0_blacken (v3) τ114) (fun _ τ122 =>
  gq (gN τ122 1) (gN τ114 1) <| gq (gN τ122 3) (gN τ114 3) <| bd (f_X3_workOn (v4) τ122) (fun _ τ128 =>
  gq (gN τ128 1) (gN τ122 1) <| gq (gN τ128 3) (gN τ122 3) <| some ((), τ128))))
def f_X3_enter_b78 (v3 : Int32) (σ : S5) : Option (Unit × S5) :=
  bd (f_X0_nodeOf (v3) σ) (fun r83 τ83 =>
  gq (gN τ83 1) (gN σ 1) <| gq (gN τ83 3) (gN σ 3) <| bd (f_X0_functionOf (v3) τ83) (fun r94 τ94 =>
  gq (gN τ94 1) (gN τ83 1) <| gq (gN τ94 3) (gN τ83 3) <| bd (f_X3_openVariables (r94) τ94) (fun _ τ97 =>
  gle (gN τ94 1) (gN τ97 1) <| gle (gN τ94 3) (gN τ97 3) <| f_X3_enter_b100  (v3) (r83) τ97)))
def f_X3_enter (a1 : Int64) (σ : S5) : Option (Unit × S5) :=
  bd (f_X0_tag (a1) σ) (fun r4 τ4 =>
  gq (gN τ4 1) (gN σ 1) <| gq (gN τ4 3) (gN σ 3) <| if r4 = 6 then
    (bd (f_X0_isBlack (((a1 : Int64).toInt32)) τ4) (fun r25 τ25 =>
    gq (gN τ25 1) (gN τ4 1) <| gq (gN τ25 3) (gN τ4 3) <| if r25 = 0 then
      (bd (f_X0_isFresh (((a1 : Int64).toInt32)) τ25) (fun r45 τ45 =>
      gq (gN τ45 1) (gN τ25 1) <| gq (gN τ45 3) (gN τ25 3) <| if r45 = 0 then
        (gd ((a1 : Int64).toInt32) 4000 <| bd (f_X3_give ((xB τ45 14 ((a1 : Int64).toInt32))) τ45) (fun _ τ61 =>
        gq (gN τ61 1) (gN τ45 1) <| gq (gN τ61 3) (gN τ45 3) <| some ((), τ61)))
      else
        (bd (f_X3_frame (7) (((a1 : Int64).toInt32)) (0) τ45) (fun r72 τ72 =>
        gq (gN τ72 1) (gN τ45 1) <| gq (gN τ72 3) (gN τ45 3) <| bd (f_X3_push (r72) τ72) (fun _ τ75 =>
        gle (gN τ72 1) (gN τ75 1) <| gle (gN τ72 3) (gN τ75 3) <| f_X3_enter_b78  (((a1 : Int64).toInt32)) τ75)))))
    else
      (bd (f_X3_endWith (2) (3) τ25) (fun _ τ34 =>
      gq (gN τ34 1) (gN τ25 1) <| gq (gN τ34 3) (gN τ25 3) <| some ((), τ34)))))
  else
    (bd (f_X3_give (a1) τ4) (fun _ τ14 =>
    gq (gN τ14 1) (gN τ4 1) <| gq (gN τ14 3) (gN τ4 3) <| some ((), τ14))))
def f_X3_enterCall_b251 (v1 : Int32) (σ : S5) : Option (Unit × S5) :=
  gd v1 630 <| bd (f_X3_workOn ((xA σ 7 v1)) σ) (fun _ τ261 =>
  gq (gN τ261 1) (gN σ 1) <| gq (gN τ261 3) (gN σ 3) <| some ((), τ261))
def f_X3_enterCall_b246 (v1 : Int32) (σ : S5) : Option (Unit × S5) :=
  bd (f_X3_openVariables (v1) σ) (fun _ τ248 =>
  gle (gN σ 1) (gN τ248 1) <| gle (gN σ 3) (gN τ248 3) <| f_X3_enterCall_b251  (v1) τ248)
def f_X3_enterCall_B184 (rec184 : Int32 → Int32 → Int32 → Int32 → Int32 → S5 → Option (Unit × S5)) (v1 : Int32) (v5 : Int32) (v6 : Int32) (v7 : Int32) (v9 : Int32) (σ : S5) : Option (Unit × S5) :=
  if v7 ≤ v9 then
    (if v7 ≤ 0 then
      (f_X3_enterCall_b246  (v1) (pI σ 40 (v6 + v7)))
    else
      (bd (f_X3_frame (6) (v7) (0) (pI σ 40 (v6 + v7))) (fun r240 τ240 =>
      gq (gN τ240 1) (gN σ 1) <| gq (gN τ240 3) (gN σ 3) <| bd (f_X3_push (r240) τ240) (fun _ τ243 =>
      gle (gN τ240 1) (gN τ243 1) <| gle (gN τ240 3) (gN τ243 3) <| f_X3_enterCall_b246  (v1) τ243))))
  else
    (gd ((v6 + v5) + v9) (gN σ 1) <| gd (v6 + v9) (gN σ 1) <| rec184 (v1) (v5) (v6) (v7) ((v9 + 1)) (pB σ 12 (v6 + v9) (xB σ 12 ((v6 + v5) + v9))))
def f_X3_enterCall_L184 : Nat → Int32 → Int32 → Int32 → Int32 → Int32 → S5 → Option (Unit × S5)
  | 0, _, _, _, _, _, _ => none
  | n + 1, v1, v5, v6, v7, v9, σ => f_X3_enterCall_B184 (f_X3_enterCall_L184  n) v1 v5 v6 v7 v9 σ
def f_X3_enterCall_B145 (rec145 : Int32 → Int32 → Int32 → Int32 → Int32 → Int32 → Int32 → S5 → Option (Unit × S5)) (v1 : Int32) (v4 : Int32) (v5 : Int32) (v6 : Int32) (v7 : Int32) (v8 : Int32) (v9 : Int32) (σ : S5) : Option (Unit × S5) :=
  if v5 ≤ v9 then
    (f_X3_enterCall_L184  FU (v1) (v5) (v6) (v7) (0) σ)
  else
    (gd (v6 + v9) (gN σ 1) <| gd ((v8 + v4) + v9) (gN σ 3) <| rec145 (v1) (v4) (v5) (v6) (v7) (v8) ((v9 + 1)) (pB σ 13 ((v8 + v4) + v9) (xB σ 12 (v6 + v9))))
def f_X3_enterCall_L145 : Nat → Int32 → Int32 → Int32 → Int32 → Int32 → Int32 → Int32 → S5 → Option (Unit × S5)
  | 0, _, _, _, _, _, _, _, _ => none
  | n + 1, v1, v4, v5, v6, v7, v8, v9, σ => f_X3_enterCall_B145 (f_X3_enterCall_L145  n) v1 v4 v5 v6 v7 v8 v9 σ
def f_X3_enterCall_B105 (rec105 : Int32 → Int32 → Int32 → Int32 → Int32 → Int32 → Int32 → Int32 → S5 → Option (Unit × S5)) (v1 : Int32) (v2 : Int32) (v4 : Int32) (v5 : Int32) (v6 : Int32) (v7 : Int32) (v8 : Int32) (v9 : Int32) (σ : S5) : Option (Unit × S5) :=
  if v4 ≤ v9 then
    (f_X3_enterCall_L145  FU (v1) (v4) (v5) (v6) (v7) (v8) (0) σ)
  else
    (gd ((v2 + 2) + v9) 4000 <| gd (v8 + v9) (gN σ 3) <| rec105 (v1) (v2) (v4) (v5) (v6) (v7) (v8) ((v9 + 1)) (pB σ 13 (v8 + v9) (xB σ 14 ((v2 + 2) + v9))))
def f_X3_enterCall_L105 : Nat → Int32 → Int32 → Int32 → Int32 → Int32 → Int32 → Int32 → Int32 → S5 → Option (Unit × S5)
  | 0, _, _, _, _, _, _, _, _, _ => none
  | n + 1, v1, v2, v4, v5, v6, v7, v8, v9, σ => f_X3_enterCall_B105 (f_X3_enterCall_L105  n) v1 v2 v4 v5 v6 v7 v8 v9 σ
def f_X3_enterCall_b102 (v1 : Int32) (v2 : Int32) (v4 : Int32) (v5 : Int32) (v6 : Int32) (v7 : Int32) (v8 : Int32) (σ : S5) : Option (Unit × S5) :=
  f_X3_enterCall_L105  FU (v1) (v2) (v4) (v5) (v6) (v7) (v8) (0) σ
def f_X3_enterCall_b61 (v1 : Int32) (v2 : Int32) (v3 : Int32) (u0 : Int32) (σ : S5) : Option (Unit × S5) :=
  gd v1 630 <| bd (f_X3_makeRoom (v1) σ) (fun _ τ99 =>
  gle (gN σ 1) (gN τ99 1) <| gle (gN σ 3) (gN τ99 3) <| f_X3_enterCall_b102  (v1) (v2) (u0) (((xA σ 3 v1) - u0)) (((gI σ 40) - v3)) ((v3 - ((xA σ 3 v1) - u0))) ((gI σ 42)) τ99)
def f_X3_enterCall (a1 : Int32) (a2 : Int32) (a3 : Int32) (σ : S5) : Option (Unit × S5) :=
  if (xA σ 40 2) < (gI σ 47) then
    (gd a1 630 <| gd a1 630 <| if a2 = (-1) then
      (f_X3_enterCall_b61  (a1) (a2) (a3) (0) (pA (pA σ 40 2 ((xA σ 40 2) + 1)) 41 a1 ((xA σ 41 a1) + 1)))
    else
      (gd (a2 + 1) 4000 <| f_X3_enterCall_b61  (a1) (a2) (a3) ((((xB σ 14 (a2 + 1)) : Int64).toInt32)) (pA (pA σ 40 2 ((xA σ 40 2) + 1)) 41 a1 ((xA σ 41 a1) + 1))))
  else
    (bd (f_X3_endWith (3) (1) σ) (fun _ τ16 =>
    gq (gN τ16 1) (gN σ 1) <| gq (gN τ16 3) (gN σ 3) <| some ((), τ16)))
def f_X3_workArguments_b184  (σ : S5) : Option (Unit × S5) :=
  some ((), σ)
def f_X3_workArguments_b161 (v1 : Int32) (v4 : Int32) (σ : S5) : Option (Unit × S5) :=
  bd (f_X3_isOver  σ) (fun r162 τ162 =>
  gq (gN τ162 1) (gN σ 1) <| gq (gN τ162 3) (gN σ 3) <| if r162 = 0 then
    (gd v1 6200 <| bd (f_X3_enterCall (v4) ((-1)) ((xA τ162 15 v1)) τ162) (fun _ τ181 =>
    gle (gN τ162 1) (gN τ181 1) <| gle (gN τ162 3) (gN τ181 3) <| f_X3_workArguments_b184   τ181))
  else
    (f_X3_workArguments_b184   τ162))
def f_X3_workArguments_b143 (rec35 : Int32 → Int32 → Int32 → Int32 → Int32 → S5 → Option (Unit × S5)) (v1 : Int32) (v2 : Int32) (v4 : Int32) (v5 : Int32) (v6 : Int32) (σ : S5) : Option (Unit × S5) :=
  gd v5 6200 <| rec35 (v1) (v2) (v4) ((xA σ 17 v5)) ((v6 + 1)) σ
def f_X3_workArguments_b133 (rec35 : Int32 → Int32 → Int32 → Int32 → Int32 → S5 → Option (Unit × S5)) (v1 : Int32) (v2 : Int32) (v4 : Int32) (v5 : Int32) (v6 : Int32) (σ : S5) : Option (Unit × S5) :=
  bd (f_keepE 64 (v5) σ) (fun r137 τ137 =>
  gq (gN τ137 1) (gN σ 1) <| gq (gN τ137 3) (gN σ 3) <| bd (f_X3_push (r137) τ137) (fun _ τ140 =>
  gle (gN τ137 1) (gN τ140 1) <| gle (gN τ137 3) (gN τ140 3) <| f_X3_workArguments_b143 rec35 (v1) (v2) (v4) (v5) (v6) τ140))
def f_X3_workArguments_b126 (v5 : Int32) (σ : S5) : Option (Unit × S5) :=
  bd (f_X3_workOn (v5) σ) (fun _ τ129 =>
  gq (gN τ129 1) (gN σ 1) <| gq (gN τ129 3) (gN σ 3) <| some ((), τ129))
def f_X3_workArguments_B35 (rec35 : Int32 → Int32 → Int32 → Int32 → Int32 → S5 → Option (Unit × S5)) (v1 : Int32) (v2 : Int32) (v4 : Int32) (v5 : Int32) (v6 : Int32) (σ : S5) : Option (Unit × S5) :=
  gd v1 6200 <| if (xA σ 15 v1) ≤ v6 then
    (f_X3_workArguments_b161  (v1) (v4) σ)
  else
    (if v5 = (-1) then
      (f_X3_workArguments_b161  (v1) (v4) σ)
    else
      (bd (f_X3_isOver  σ) (fun r56 τ56 =>
      gq (gN τ56 1) (gN σ 1) <| gq (gN τ56 3) (gN σ 3) <| if r56 = 0 then
        (if v6 < v2 then
          (f_X3_workArguments_b143 rec35 (v1) (v2) (v4) (v5) (v6) τ56)
        else
          (if (gI τ56 46) = 0 then
            (f_X3_workArguments_b133 rec35 (v1) (v2) (v4) (v5) (v6) τ56)
          else
            (gd v4 630 <| if (xA τ56 3 v4) ≤ v6 then
              (f_X3_workArguments_b133 rec35 (v1) (v2) (v4) (v5) (v6) τ56)
            else
              (bd (f_X4_needsParameter_K (v4) (v6) τ56) (fun r98 τ98 =>
              gq (gN τ98 1) (gN τ56 1) <| gq (gN τ98 3) (gN τ56 3) <| if r98 = 0 then
                (f_X3_workArguments_b133 rec35 (v1) (v2) (v4) (v5) (v6) τ98)
              else
                (bd (f_X3_frame (5) (v1) (v6) (pA τ98 40 8 ((xA τ98 40 8) + 1))) (fun r120 τ120 =>
                gq (gN τ120 1) (gN τ98 1) <| gq (gN τ120 3) (gN τ98 3) <| bd (f_X3_push (r120) τ120) (fun _ τ123 =>
                gle (gN τ120 1) (gN τ123 1) <| gle (gN τ120 3) (gN τ123 3) <| f_X3_workArguments_b126  (v5) τ123))))))))
      else
        (f_X3_workArguments_b161  (v1) (v4) τ56))))
def f_X3_workArguments_L35 : Nat → Int32 → Int32 → Int32 → Int32 → Int32 → S5 → Option (Unit × S5)
  | 0, _, _, _, _, _, _ => none
  | n + 1, v1, v2, v4, v5, v6, σ => f_X3_workArguments_B35 (f_X3_workArguments_L35  n) v1 v2 v4 v5 v6 σ
def f_X3_workArguments (a1 : Int32) (a2 : Int32) (σ : S5) : Option (Unit × S5) :=
  gd a1 6200 <| gd (xA σ 16 a1) 6200 <| gd (xA σ 16 a1) 6200 <| f_X3_workArguments_L35  FU (a1) (a2) ((xA σ 14 (xA σ 16 a1))) ((xA σ 17 (xA σ 16 a1))) (0) σ
def f_X3_workApplication_b156  (σ : S5) : Option (Unit × S5) :=
  some ((), σ)
def f_X3_workApplication_b122 (v2 : Int32) (σ : S5) : Option (Unit × S5) :=
  bd (f_X3_workOn (v2) σ) (fun _ τ124 =>
  gq (gN τ124 1) (gN σ 1) <| gq (gN τ124 3) (gN σ 3) <| f_X3_workApplication_b156   τ124)
def f_X3_workApplication_b103 (v1 : Int32) (v2 : Int32) (σ : S5) : Option (Unit × S5) :=
  gd v1 6200 <| bd (f_X3_frame (6) ((xA σ 15 v1)) (0) σ) (fun r116 τ116 =>
  gq (gN τ116 1) (gN σ 1) <| gq (gN τ116 3) (gN σ 3) <| bd (f_X3_push (r116) τ116) (fun _ τ119 =>
  gle (gN τ116 1) (gN τ119 1) <| gle (gN τ116 3) (gN τ119 3) <| f_X3_workApplication_b122  (v2) τ119))
def f_X3_workApplication_b85 (rec56 : Int32 → Int32 → Int32 → Int32 → S5 → Option (Unit × S5)) (v1 : Int32) (v2 : Int32) (v3 : Int32) (v4 : Int32) (σ : S5) : Option (Unit × S5) :=
  gd v4 6200 <| rec56 (v1) (v2) ((v3 + 1)) ((xA σ 17 v4)) σ
def f_X3_workApplication_B56 (rec56 : Int32 → Int32 → Int32 → Int32 → S5 → Option (Unit × S5)) (v1 : Int32) (v2 : Int32) (v3 : Int32) (v4 : Int32) (σ : S5) : Option (Unit × S5) :=
  if 10 ≤ v3 then
    (f_X3_workApplication_b103  (v1) (v2) σ)
  else
    (if v4 = (-1) then
      (f_X3_workApplication_b103  (v1) (v2) σ)
    else
      (bd (f_X3_isOver  σ) (fun r69 τ69 =>
      gq (gN τ69 1) (gN σ 1) <| gq (gN τ69 3) (gN σ 3) <| if r69 = 0 then
        (bd (f_keepE 64 (v4) τ69) (fun r79 τ79 =>
        gq (gN τ79 1) (gN τ69 1) <| gq (gN τ79 3) (gN τ69 3) <| bd (f_X3_push (r79) τ79) (fun _ τ82 =>
        gle (gN τ79 1) (gN τ82 1) <| gle (gN τ79 3) (gN τ82 3) <| f_X3_workApplication_b85 rec56 (v1) (v2) (v3) (v4) τ82)))
      else
        (f_X3_workApplication_b103  (v1) (v2) τ69))))
def f_X3_workApplication_L56 : Nat → Int32 → Int32 → Int32 → Int32 → S5 → Option (Unit × S5)
  | 0, _, _, _, _, _ => none
  | n + 1, v1, v2, v3, v4, σ => f_X3_workApplication_B56 (f_X3_workApplication_L56  n) v1 v2 v3 v4 σ
def f_X3_workApplication_b43 (v1 : Int32) (v2 : Int32) (σ : S5) : Option (Unit × S5) :=
  gd v2 6200 <| f_X3_workApplication_L56  FU (v1) (v2) (0) ((xA σ 17 v2)) σ
def f_X3_workApplication (a1 : Int32) (σ : S5) : Option (Unit × S5) :=
  gd a1 6200 <| gd (xA σ 16 a1) 6200 <| if (xA σ 13 (xA σ 16 a1)) = 2 then
    (gd (xA σ 16 a1) 6200 <| gd (xA σ 14 (xA σ 16 a1)) 630 <| if (xA σ 3 (xA σ 14 (xA σ 16 a1))) = 0 then
      (f_X3_workApplication_b43  (a1) ((xA σ 16 a1)) σ)
    else
      (bd (f_X3_isPartOfCall (a1) σ) (fun r132 τ132 =>
      gq (gN τ132 1) (gN σ 1) <| gq (gN τ132 3) (gN σ 3) <| if r132 = 0 then
        (bd (f_X3_workArguments (a1) (0) τ132) (fun _ τ153 =>
        gle (gN τ132 1) (gN τ153 1) <| gle (gN τ132 3) (gN τ153 3) <| f_X3_workApplication_b156   τ153))
      else
        (bd (f_keepE 64 (a1) τ132) (fun r141 τ141 =>
        gq (gN τ141 1) (gN τ132 1) <| gq (gN τ141 3) (gN τ132 3) <| bd (f_X3_give (r141) τ141) (fun _ τ144 =>
        gq (gN τ144 1) (gN τ141 1) <| gq (gN τ144 3) (gN τ141 3) <| f_X3_workApplication_b156   τ144))))))
  else
    (f_X3_workApplication_b43  (a1) ((xA σ 16 a1)) σ)
def f_X3_workLet_b232 (v2 : Int32) (σ : S5) : Option (Unit × S5) :=
  bd (f_X3_workOn (v2) σ) (fun _ τ234 =>
  gq (gN τ234 1) (gN σ 1) <| gq (gN τ234 3) (gN σ 3) <| some ((), τ234))
def f_X3_workLet_B159 (rec159 : Int32 → Int32 → Int32 → S5 → Option (Unit × S5)) (v2 : Int32) (v4 : Int32) (v5 : Int32) (σ : S5) : Option (Unit × S5) :=
  if 10 ≤ v4 then
    (f_X3_workLet_b232  (v2) σ)
  else
    (if v5 = (-1) then
      (f_X3_workLet_b232  (v2) σ)
    else
      (bd (f_X3_isOver  σ) (fun r173 τ173 =>
      gq (gN τ173 1) (gN σ 1) <| gq (gN τ173 3) (gN σ 3) <| if r173 = 0 then
        (gd v5 6200 <| gd v5 6200 <| gd ((gI τ173 41) + (xA τ173 14 v5)) (gN τ173 3) <| bd (f_X3_fill (f_keepE 64) ((xA τ173 16 v5)) ((xB τ173 13 ((gI τ173 41) + (xA τ173 14 v5)))) (1) τ173) (fun _ τ211 =>
        gq (gN τ211 1) (gN τ173 1) <| gq (gN τ211 3) (gN τ173 3) <| gd v5 6200 <| rec159 (v2) ((v4 + 1)) ((xA τ211 17 v5)) τ211))
      else
        (f_X3_workLet_b232  (v2) τ173))))
def f_X3_workLet_L159 : Nat → Int32 → Int32 → Int32 → S5 → Option (Unit × S5)
  | 0, _, _, _, _ => none
  | n + 1, v2, v4, v5, σ => f_X3_workLet_B159 (f_X3_workLet_L159  n) v2 v4 v5 σ
def f_X3_workLet_b153 (v2 : Int32) (v3 : Int32) (σ : S5) : Option (Unit × S5) :=
  f_X3_workLet_L159  FU (v2) (0) (v3) σ
def f_X3_workLet_B80 (rec80 : Int32 → Int32 → Int32 → Int32 → S5 → Option (Unit × S5)) (v2 : Int32) (v3 : Int32) (v4 : Int32) (v5 : Int32) (σ : S5) : Option (Unit × S5) :=
  if 10 ≤ v4 then
    (f_X3_workLet_b153  (v2) (v3) σ)
  else
    (if v5 = (-1) then
      (f_X3_workLet_b153  (v2) (v3) σ)
    else
      (bd (f_X3_isOver  σ) (fun r94 τ94 =>
      gq (gN τ94 1) (gN σ 1) <| gq (gN τ94 3) (gN σ 3) <| if r94 = 0 then
        (gd v5 6200 <| gd v5 6200 <| bd (f_X3_begin ((xA τ94 16 v5)) (1) τ94) (fun r131 τ131 =>
        gq (gN τ131 1) (gN τ94 1) <| gq (gN τ131 3) (gN τ94 3) <| gd ((gI τ94 41) + (xA τ94 14 v5)) (gN τ131 3) <| gd v5 6200 <| rec80 (v2) (v3) ((v4 + 1)) ((xA τ131 17 v5)) (pB τ131 13 ((gI τ94 41) + (xA τ94 14 v5)) r131)))
      else
        (f_X3_workLet_b153  (v2) (v3) τ94))))
def f_X3_workLet_L80 : Nat → Int32 → Int32 → Int32 → Int32 → S5 → Option (Unit × S5)
  | 0, _, _, _, _, _ => none
  | n + 1, v2, v3, v4, v5, σ => f_X3_workLet_B80 (f_X3_workLet_L80  n) v2 v3 v4 v5 σ
def f_X3_workLet_b74 (v2 : Int32) (v3 : Int32) (σ : S5) : Option (Unit × S5) :=
  f_X3_workLet_L80  FU (v2) (v3) (0) (v3) σ
def f_X3_workLet_b60 (v3 : Int32) (σ : S5) : Option (Unit × S5) :=
  gd v3 6200 <| bd (f_X3_workOn ((xA σ 16 v3)) σ) (fun _ τ70 =>
  gq (gN τ70 1) (gN σ 1) <| gq (gN τ70 3) (gN σ 3) <| some ((), τ70))
def f_X3_workLet (a1 : Int32) (σ : S5) : Option (Unit × S5) :=
  gd a1 6200 <| gd (xA σ 16 a1) 6200 <| if (gI σ 46) = 0 then
    (f_X3_workLet_b74  ((xA σ 16 a1)) ((xA σ 17 (xA σ 16 a1))) σ)
  else
    (gd a1 6200 <| if (xA σ 14 a1) = 0 then
      (f_X3_workLet_b74  ((xA σ 16 a1)) ((xA σ 17 (xA σ 16 a1))) σ)
    else
      (bd (f_X3_frame (4) (a1) (0) (pA σ 40 8 ((xA σ 40 8) + 1))) (fun r54 τ54 =>
      gq (gN τ54 1) (gN σ 1) <| gq (gN τ54 3) (gN σ 3) <| bd (f_X3_push (r54) τ54) (fun _ τ57 =>
      gle (gN τ54 1) (gN τ57 1) <| gle (gN τ54 3) (gN τ57 3) <| f_X3_workLet_b60  ((xA σ 17 (xA σ 16 a1))) τ57))))
def f_X3_work_b197  (σ : S5) : Option (Unit × S5) :=
  some ((), σ)
def f_X3_work_b189  (σ : S5) : Option (Unit × S5) :=
  f_X3_work_b197   σ
def f_X3_work_b168 (v1 : Int32) (σ : S5) : Option (Unit × S5) :=
  gd v1 6200 <| bd (f_X3_workOn ((xA σ 16 v1)) σ) (fun _ τ178 =>
  gq (gN τ178 1) (gN σ 1) <| gq (gN τ178 3) (gN σ 3) <| f_X3_work_b197   τ178)
def f_X3_work_b142 (v1 : Int32) (σ : S5) : Option (Unit × S5) :=
  gd v1 6200 <| bd (f_X3_workOn ((xA σ 16 v1)) σ) (fun _ τ152 =>
  gq (gN τ152 1) (gN σ 1) <| gq (gN τ152 3) (gN σ 3) <| f_X3_work_b197   τ152)
def f_X3_work_b120  (σ : S5) : Option (Unit × S5) :=
  f_X3_work_b197   σ
def f_X3_work_b102  (σ : S5) : Option (Unit × S5) :=
  f_X3_work_b197   σ
def f_X3_work  (σ : S5) : Option (Unit × S5) :=
  gd (gI σ 44) 6200 <| gd (gI σ 44) 6200 <| if (xA σ 13 (gI σ 44)) = 0 then
    (bd (f_keepE 64 ((gI σ 44)) σ) (fun r83 τ83 =>
    gq (gN τ83 1) (gN σ 1) <| gq (gN τ83 3) (gN σ 3) <| bd (f_X3_give (r83) τ83) (fun _ τ86 =>
    gq (gN τ86 1) (gN τ83 1) <| gq (gN τ86 3) (gN τ83 3) <| f_X3_work_b197   τ86)))
  else if (xA σ 13 (gI σ 44)) = 1 then
    (bd (f_keepE 64 ((gI σ 44)) σ) (fun r83 τ83 =>
    gq (gN τ83 1) (gN σ 1) <| gq (gN τ83 3) (gN σ 3) <| bd (f_X3_give (r83) τ83) (fun _ τ86 =>
    gq (gN τ86 1) (gN τ83 1) <| gq (gN τ86 3) (gN τ83 3) <| f_X3_work_b197   τ86)))
  else if (xA σ 13 (gI σ 44)) = 2 then
    (bd (f_X3_begin ((gI σ 44)) (0) σ) (fun r96 τ96 =>
    gq (gN τ96 1) (gN σ 1) <| gq (gN τ96 3) (gN σ 3) <| bd (f_X3_enter (r96) τ96) (fun _ τ99 =>
    gle (gN τ96 1) (gN τ99 1) <| gle (gN τ96 3) (gN τ99 3) <| f_X3_work_b102   τ99)))
  else if (xA σ 13 (gI σ 44)) = 3 then
    (gd ((gI σ 41) + (xA σ 14 (gI σ 44))) (gN σ 3) <| bd (f_X3_enter ((xB σ 13 ((gI σ 41) + (xA σ 14 (gI σ 44))))) σ) (fun _ τ117 =>
    gle (gN σ 1) (gN τ117 1) <| gle (gN σ 3) (gN τ117 3) <| f_X3_work_b120   τ117))
  else if (xA σ 13 (gI σ 44)) = 4 then
    (bd (f_X3_endWith (2) (5) σ) (fun _ τ126 =>
    gq (gN τ126 1) (gN σ 1) <| gq (gN τ126 3) (gN σ 3) <| f_X3_work_b197   τ126))
  else if (xA σ 13 (gI σ 44)) = 5 then
    (bd (f_X3_frame (1) ((gI σ 44)) (0) σ) (fun r136 τ136 =>
    gq (gN τ136 1) (gN σ 1) <| gq (gN τ136 3) (gN σ 3) <| bd (f_X3_push (r136) τ136) (fun _ τ139 =>
    gle (gN τ136 1) (gN τ139 1) <| gle (gN τ136 3) (gN τ139 3) <| f_X3_work_b142  ((gI σ 44)) τ139)))
  else if (xA σ 13 (gI σ 44)) = 6 then
    (bd (f_X3_frame (3) ((gI σ 44)) (0) σ) (fun r162 τ162 =>
    gq (gN τ162 1) (gN σ 1) <| gq (gN τ162 3) (gN σ 3) <| bd (f_X3_push (r162) τ162) (fun _ τ165 =>
    gle (gN τ162 1) (gN τ165 1) <| gle (gN τ162 3) (gN τ165 3) <| f_X3_work_b168  ((gI σ 44)) τ165)))
  else if (xA σ 13 (gI σ 44)) = 7 then
    (bd (f_X3_workLet ((gI σ 44)) σ) (fun _ τ186 =>
    gle (gN σ 1) (gN τ186 1) <| gle (gN σ 3) (gN τ186 3) <| f_X3_work_b189   τ186))
  else if (xA σ 13 (gI σ 44)) = 8 then
    (bd (f_X3_workApplication ((gI σ 44)) σ) (fun _ τ194 =>
    gle (gN σ 1) (gN τ194 1) <| gle (gN σ 3) (gN τ194 3) <| f_X3_work_b197   τ194))
  else if (xA σ 13 (gI σ 44)) = 9 then
    (bd (f_keepE 64 ((gI σ 44)) σ) (fun r83 τ83 =>
    gq (gN τ83 1) (gN σ 1) <| gq (gN τ83 3) (gN σ 3) <| bd (f_X3_give (r83) τ83) (fun _ τ86 =>
    gq (gN τ86 1) (gN τ83 1) <| gq (gN τ86 3) (gN τ83 3) <| f_X3_work_b197   τ86)))
  else 
    (bd (f_X3_workApplication ((gI σ 44)) σ) (fun _ τ194 =>
    gle (gN σ 1) (gN τ194 1) <| gle (gN σ 3) (gN τ194 3) <| f_X3_work_b197   τ194))
def f_X3_applyValue_b113  (σ : S5) : Option (Unit × S5) :=
  some ((), σ)
def f_X3_applyValue_b85 (v1 : Int32) (v4 : Int32) (v5 : Int32) (u0 : Int32) (σ : S5) : Option (Unit × S5) :=
  gd v5 630 <| if (u0 + v1) < (xA σ 3 v5) then
    (bd (f_X3_extendPart (v5) (v4) (u0) (v1) σ) (fun _ τ124 =>
    gq (gN τ124 1) (gN σ 1) <| gq (gN τ124 3) (gN σ 3) <| some ((), τ124)))
  else
    (bd (f_X3_enterCall (v5) (v4) (v1) σ) (fun _ τ110 =>
    gle (gN σ 1) (gN τ110 1) <| gle (gN σ 3) (gN τ110 3) <| f_X3_applyValue_b113   τ110))
def f_X3_applyValue_b62 (v1 : Int32) (v2 : Int32) (v3 : Int32) (v4 : Int32) (u0 : Int32) (σ : S5) : Option (Unit × S5) :=
  if v2 = 5 then
    (gd (v3 + 1) 4000 <| f_X3_applyValue_b85  (v1) (v4) (u0) ((((xB σ 14 (v3 + 1)) : Int64).toInt32)) σ)
  else
    (f_X3_applyValue_b85  (v1) (v4) (u0) (0) σ)
def f_X3_applyValue_b41 (v1 : Int32) (v2 : Int32) (v3 : Int32) (u0 : Int32) (σ : S5) : Option (Unit × S5) :=
  if v2 = 5 then
    (gd v3 4000 <| f_X3_applyValue_b62  (v1) (v2) (v3) (u0) ((((xB σ 14 v3) : Int64).toInt32)) σ)
  else
    (f_X3_applyValue_b62  (v1) (v2) (v3) (u0) (v3) σ)
def f_X3_applyValue_b31 (v1 : Int32) (v2 : Int32) (v3 : Int32) (σ : S5) : Option (Unit × S5) :=
  if v2 = 5 then
    (f_X3_applyValue_b41  (v1) (v2) (v3) (v3) σ)
  else
    (f_X3_applyValue_b41  (v1) (v2) (v3) ((-1)) σ)
def f_X3_applyValue (a1 : Int32) (σ : S5) : Option (Unit × S5) :=
  bd (f_X0_tag ((gJ σ 5)) σ) (fun r4 τ4 =>
  gq (gN τ4 1) (gN σ 1) <| gq (gN τ4 3) (gN σ 3) <| if r4 = 2 then
    (f_X3_applyValue_b31  (a1) (r4) ((((gJ τ4 5) : Int64).toInt32)) τ4)
  else
    (if r4 = 5 then
      (f_X3_applyValue_b31  (a1) (r4) ((((gJ τ4 5) : Int64).toInt32)) τ4)
    else
      (bd (f_X3_endWith (2) (4) τ4) (fun _ τ27 =>
      gq (gN τ27 1) (gN τ4 1) <| gq (gN τ27 3) (gN τ4 3) <| some ((), τ27)))))
def f_X3_show_b91  (σ : S5) : Option (Unit × S5) :=
  some ((), σ)
def f_X3_show  (σ : S5) : Option (Unit × S5) :=
  bd (f_X0_tag ((gJ σ 5)) σ) (fun r10 τ10 =>
  gq (gN τ10 1) (gN σ 1) <| gq (gN τ10 3) (gN σ 3) <| if r10 = 1 then
    (bd (f_X3_addNumbers (2) (1) ((((gJ σ 5) : Int64).toInt32)) τ10) (fun _ τ48 =>
    gq (gN τ48 1) (gN τ10 1) <| gq (gN τ48 3) (gN τ10 3) <| some ((), τ48)))
  else if r10 = 2 then
    (bd (f_X3_addNumbers (1) (3) (0) τ10) (fun _ τ98 =>
    gq (gN τ98 1) (gN τ10 1) <| gq (gN τ98 3) (gN τ10 3) <| some ((), τ98)))
  else if r10 = 3 then
    (bd (f_X3_addNumbers (2) (2) ((((gJ σ 5) : Int64).toInt32)) τ10) (fun _ τ58 =>
    gq (gN τ58 1) (gN τ10 1) <| gq (gN τ58 3) (gN τ10 3) <| some ((), τ58)))
  else if r10 = 4 then
    (gd (((gJ σ 5) : Int64).toInt32) 4000 <| bd (f_X3_addNumbers (2) (2) ((((xB τ10 14 (((gJ σ 5) : Int64).toInt32)) : Int64).toInt32)) τ10) (fun _ τ77 =>
    gq (gN τ77 1) (gN τ10 1) <| gq (gN τ77 3) (gN τ10 3) <| bd (f_X3_frame (10) ((((gJ σ 5) : Int64).toInt32)) (0) τ77) (fun r85 τ85 =>
    gq (gN τ85 1) (gN τ77 1) <| gq (gN τ85 3) (gN τ77 3) <| bd (f_X3_push (r85) τ85) (fun _ τ88 =>
    gle (gN τ85 1) (gN τ88 1) <| gle (gN τ85 3) (gN τ88 3) <| f_X3_show_b91   τ88))))
  else 
    (bd (f_X3_addNumbers (1) (3) (0) τ10) (fun _ τ98 =>
    gq (gN τ98 1) (gN τ10 1) <| gq (gN τ98 3) (gN τ10 3) <| some ((), τ98))))
def f_X3_showField_b63  (σ : S5) : Option (Unit × S5) :=
  some ((), σ)
def f_X3_showField_b46 (v1 : Int32) (v2 : Int32) (σ : S5) : Option (Unit × S5) :=
  gd ((v1 + 1) + v2) 4000 <| bd (f_X3_enter ((xB σ 14 ((v1 + 1) + v2))) σ) (fun _ τ60 =>
  gle (gN σ 1) (gN τ60 1) <| gle (gN σ 3) (gN τ60 3) <| f_X3_showField_b63   τ60)
def f_X3_showField_b35 (v1 : Int32) (v2 : Int32) (σ : S5) : Option (Unit × S5) :=
  bd (f_X3_frame (9) (0) (0) σ) (fun r40 τ40 =>
  gq (gN τ40 1) (gN σ 1) <| gq (gN τ40 3) (gN σ 3) <| bd (f_X3_push (r40) τ40) (fun _ τ43 =>
  gle (gN τ40 1) (gN τ43 1) <| gle (gN τ40 3) (gN τ43 3) <| f_X3_showField_b46  (v1) (v2) τ43))
def f_X3_showField (a1 : Int32) (a2 : Int32) (σ : S5) : Option (Unit × S5) :=
  gd a1 4000 <| gd (((xB σ 14 a1) : Int64).toInt32) 30 <| if (xA σ 2 (((xB σ 14 a1) : Int64).toInt32)) ≤ a2 then
    (f_X3_showField_b63   σ)
  else
    (bd (f_X3_frame (10) (a1) ((a2 + 1)) σ) (fun r29 τ29 =>
    gq (gN τ29 1) (gN σ 1) <| gq (gN τ29 3) (gN σ 3) <| bd (f_X3_push (r29) τ29) (fun _ τ32 =>
    gle (gN τ29 1) (gN τ32 1) <| gle (gN τ29 3) (gN τ32 3) <| f_X3_showField_b35  (a1) (a2) τ32)))
def f_X3_resume_b304  (σ : S5) : Option (Unit × S5) :=
  some ((), σ)
def f_X3_resume_b294  (σ : S5) : Option (Unit × S5) :=
  f_X3_resume_b304   σ
def f_X3_resume_b262  (σ : S5) : Option (Unit × S5) :=
  f_X3_resume_b304   σ
def f_X3_resume_b254  (σ : S5) : Option (Unit × S5) :=
  f_X3_resume_b304   σ
def f_X3_resume_b245 (v3 : Int32) (v4 : Int32) (σ : S5) : Option (Unit × S5) :=
  bd (f_X3_workArguments (v3) ((v4 + 1)) σ) (fun _ τ251 =>
  gle (gN σ 1) (gN τ251 1) <| gle (gN σ 3) (gN τ251 3) <| f_X3_resume_b254   τ251)
def f_X3_resume_b110 (v3 : Int32) (σ : S5) : Option (Unit × S5) :=
  gd v3 6200 <| gd (xA σ 16 v3) 6200 <| bd (f_X3_workOn ((xA σ 17 (xA σ 16 v3))) σ) (fun _ τ128 =>
  gq (gN τ128 1) (gN σ 1) <| gq (gN τ128 3) (gN σ 3) <| f_X3_resume_b304   τ128)
def f_X3_resume_b100 (v3 : Int32) (σ : S5) : Option (Unit × S5) :=
  bd (f_X3_frame (2) (v3) (0) σ) (fun r104 τ104 =>
  gq (gN τ104 1) (gN σ 1) <| gq (gN τ104 3) (gN σ 3) <| bd (f_X3_push (r104) τ104) (fun _ τ107 =>
  gle (gN τ104 1) (gN τ107 1) <| gle (gN τ104 3) (gN τ107 3) <| f_X3_resume_b110  (v3) τ107))
def f_X3_resume  (σ : S5) : Option (Unit × S5) :=
  if 0 < (gI σ 40) then
    (bd (f_X3_pop  σ) (fun r15 τ15 =>
    gq (gN τ15 1) (gN σ 1) <| gq (gN τ15 3) (gN σ 3) <| if (((j_lushr r15 56) : Int64).toInt32) = 1 then
      (bd (f_X3_push ((gJ τ15 5)) τ15) (fun _ τ97 =>
      gle (gN τ15 1) (gN τ97 1) <| gle (gN τ15 3) (gN τ97 3) <| f_X3_resume_b100  (((((j_lushr r15 28) : Int64).toInt32) &&& 268435455)) τ97))
    else if (((j_lushr r15 56) : Int64).toInt32) = 2 then
      (gd ((((j_lushr r15 28) : Int64).toInt32) &&& 268435455) 6200 <| bd (f_X3_pop  τ15) (fun r145 τ145 =>
      gq (gN τ145 1) (gN τ15 1) <| gq (gN τ145 3) (gN τ15 3) <| bd (f_X3_operate ((xA τ15 14 ((((j_lushr r15 28) : Int64).toInt32) &&& 268435455))) (r145) ((gJ τ145 5)) τ145) (fun _ τ152 =>
      gq (gN τ152 1) (gN τ145 1) <| gq (gN τ152 3) (gN τ145 3) <| f_X3_resume_b304   τ152)))
    else if (((j_lushr r15 56) : Int64).toInt32) = 3 then
      (gd ((((j_lushr r15 28) : Int64).toInt32) &&& 268435455) 6200 <| gd (xA τ15 16 ((((j_lushr r15 28) : Int64).toInt32) &&& 268435455)) 6200 <| bd (f_X3_choose ((xA τ15 17 (xA τ15 16 ((((j_lushr r15 28) : Int64).toInt32) &&& 268435455)))) τ15) (fun _ τ176 =>
      gq (gN τ176 1) (gN τ15 1) <| gq (gN τ176 3) (gN τ15 3) <| f_X3_resume_b304   τ176))
    else if (((j_lushr r15 56) : Int64).toInt32) = 4 then
      (gd ((((j_lushr r15 28) : Int64).toInt32) &&& 268435455) 6200 <| gd (xA τ15 16 ((((j_lushr r15 28) : Int64).toInt32) &&& 268435455)) 6200 <| gd (xA τ15 17 (xA τ15 16 ((((j_lushr r15 28) : Int64).toInt32) &&& 268435455))) 6200 <| gd ((gI τ15 41) + (xA τ15 14 (xA τ15 17 (xA τ15 16 ((((j_lushr r15 28) : Int64).toInt32) &&& 268435455))))) (gN τ15 3) <| gd ((((j_lushr r15 28) : Int64).toInt32) &&& 268435455) 6200 <| bd (f_X3_workOn ((xA τ15 16 ((((j_lushr r15 28) : Int64).toInt32) &&& 268435455))) (pB τ15 13 ((gI τ15 41) + (xA τ15 14 (xA τ15 17 (xA τ15 16 ((((j_lushr r15 28) : Int64).toInt32) &&& 268435455))))) (gJ τ15 5))) (fun _ τ231 =>
      gq (gN τ231 1) (gN τ15 1) <| gq (gN τ231 3) (gN τ15 3) <| f_X3_resume_b304   τ231))
    else if (((j_lushr r15 56) : Int64).toInt32) = 5 then
      (bd (f_X3_push ((gJ τ15 5)) τ15) (fun _ τ242 =>
      gle (gN τ15 1) (gN τ242 1) <| gle (gN τ15 3) (gN τ242 3) <| f_X3_resume_b245  (((((j_lushr r15 28) : Int64).toInt32) &&& 268435455)) ((((r15 : Int64).toInt32) &&& 268435455)) τ242))
    else if (((j_lushr r15 56) : Int64).toInt32) = 6 then
      (bd (f_X3_applyValue (((((j_lushr r15 28) : Int64).toInt32) &&& 268435455)) τ15) (fun _ τ259 =>
      gle (gN τ15 1) (gN τ259 1) <| gle (gN τ15 3) (gN τ259 3) <| f_X3_resume_b262   τ259))
    else if (((j_lushr r15 56) : Int64).toInt32) = 7 then
      (bd (f_X0_update (((((j_lushr r15 28) : Int64).toInt32) &&& 268435455)) ((gJ τ15 5)) τ15) (fun _ τ274 =>
      gq (gN τ274 1) (gN τ15 1) <| gq (gN τ274 3) (gN τ15 3) <| f_X3_resume_b304   τ274))
    else if (((j_lushr r15 56) : Int64).toInt32) = 8 then
      (bd (f_X3_closeVariables (((((j_lushr r15 28) : Int64).toInt32) &&& 268435455)) ((((r15 : Int64).toInt32) &&& 268435455)) τ15) (fun _ τ284 =>
      gq (gN τ284 1) (gN τ15 1) <| gq (gN τ284 3) (gN τ15 3) <| f_X3_resume_b304   τ284))
    else if (((j_lushr r15 56) : Int64).toInt32) = 9 then
      (bd (f_X3_show  τ15) (fun _ τ291 =>
      gle (gN τ15 1) (gN τ291 1) <| gle (gN τ15 3) (gN τ291 3) <| f_X3_resume_b294   τ291))
    else 
      (bd (f_X3_showField (((((j_lushr r15 28) : Int64).toInt32) &&& 268435455)) ((((r15 : Int64).toInt32) &&& 268435455)) τ15) (fun _ τ301 =>
      gle (gN τ15 1) (gN τ301 1) <| gle (gN τ15 3) (gN τ301 3) <| f_X3_resume_b304   τ301))))
  else
    (bd (f_X3_endWith (1) (0) σ) (fun _ τ10 =>
    gq (gN τ10 1) (gN σ 1) <| gq (gN τ10 3) (gN σ 3) <| some ((), τ10)))
def f_X3_start_b156 (rec123 : Int32 → S5 → Option (Unit × S5)) (v3 : Int32) (σ : S5) : Option (Unit × S5) :=
  rec123 ((v3 + 1)) σ
def f_X3_start_b149 (rec123 : Int32 → S5 → Option (Unit × S5)) (v3 : Int32) (σ : S5) : Option (Unit × S5) :=
  f_X3_start_b156 rec123 (v3) σ
def f_X3_start_B123 (rec123 : Int32 → S5 → Option (Unit × S5)) (v3 : Int32) (σ : S5) : Option (Unit × S5) :=
  if 100000000 ≤ v3 then
    (some ((), σ))
  else
    (if (xA σ 40 0) = 0 then
      (if (gI σ 45) = 0 then
        (bd (f_X3_resume  σ) (fun _ τ153 =>
        gle (gN σ 1) (gN τ153 1) <| gle (gN σ 3) (gN τ153 3) <| f_X3_start_b156 rec123 (v3) τ153))
      else
        (bd (f_X3_work  σ) (fun _ τ146 =>
        gle (gN σ 1) (gN τ146 1) <| gle (gN σ 3) (gN τ146 3) <| f_X3_start_b149 rec123 (v3) τ146)))
    else
      (some ((), σ)))
def f_X3_start_L123 : Nat → Int32 → S5 → Option (Unit × S5)
  | 0, _, _ => none
  | n + 1, v3, σ => f_X3_start_B123 (f_X3_start_L123  n) v3 σ
def f_X3_start_b121  (σ : S5) : Option (Unit × S5) :=
  f_X3_start_L123  FU (0) σ
def f_X3_start_b100  (σ : S5) : Option (Unit × S5) :=
  gd (gI σ 7) 30 <| bd (f_X0_value (6) ((xA σ 43 (gI σ 7))) σ) (fun r115 τ115 =>
  gq (gN τ115 1) (gN σ 1) <| gq (gN τ115 3) (gN σ 3) <| bd (f_X3_enter (r115) τ115) (fun _ τ118 =>
  gle (gN τ115 1) (gN τ118 1) <| gle (gN τ115 3) (gN τ118 3) <| f_X3_start_b121   τ118))
def f_X3_start_b83 (rec36 : Int32 → S5 → Option (Unit × S5)) (v3 : Int32) (σ : S5) : Option (Unit × S5) :=
  rec36 ((v3 + 1)) σ
def f_X3_start_B36 (rec36 : Int32 → S5 → Option (Unit × S5)) (v3 : Int32) (σ : S5) : Option (Unit × S5) :=
  if (gI σ 5) ≤ v3 then
    (bd (f_X3_frame (9) (0) (0) σ) (fun r94 τ94 =>
    gq (gN τ94 1) (gN σ 1) <| gq (gN τ94 3) (gN σ 3) <| bd (f_X3_push (r94) τ94) (fun _ τ97 =>
    gle (gN τ94 1) (gN τ97 1) <| gle (gN τ94 3) (gN τ97 3) <| f_X3_start_b100   τ97)))
  else
    (gd v3 630 <| if (xA σ 3 v3) = 0 then
      (gd v3 630 <| bd (f_X0_makeSuspension (v3) ((xA σ 7 v3)) (0) σ) (fun r79 τ79 =>
      gq (gN τ79 1) (gN σ 1) <| gq (gN τ79 3) (gN σ 3) <| gd v3 30 <| f_X3_start_b83 rec36 (v3) (pA τ79 43 v3 r79)))
    else
      (f_X3_start_b83 rec36 (v3) σ))
def f_X3_start_L36 : Nat → Int32 → S5 → Option (Unit × S5)
  | 0, _, _ => none
  | n + 1, v3, σ => f_X3_start_B36 (f_X3_start_L36  n) v3 σ
def f_X3_start (a1 : Int32) (a2 : Int32) (σ : S5) : Option (Unit × S5) :=
  bd (f_X3_forget  σ) (fun _ τ1 =>
  gq (gN τ1 1) (gN σ 1) <| gq (gN τ1 3) (gN σ 3) <| g_t a1 <| f_X3_start_L36  FU (0) (pI (pI (pI (pI (pI (pI τ1 46 a1) 47 a2) 40 0) 41 0) 42 0) 43 0))

