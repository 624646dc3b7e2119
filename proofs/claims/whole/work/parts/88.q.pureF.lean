


def f_X8_clear_text_F  (σ : S5) : Option (Unit × S5) :=
  some ((), (pI (pI σ 0 0) 1 0))
def f_X8_add_text_F (a1 : Int32) (σ : S5) : Option (Unit × S5) :=
  if (gI σ 0) < 3000 then
    (gd (gI σ 0) 3000 <| some ((), (pI (pA σ 0 (gI σ 0) (vp_nar .byte ((a1).toInt8.toInt32))) 0 ((gI σ 0) + 1))))
  else
    (some ((), (pI σ 1 1)))
def f_X8_copy_text_out_F_B6 (rec6 : Int32 → S5 → Option (Unit × S5)) (v2 : Int32) (σ : S5) : Option (Unit × S5) :=
  if (gI σ 66) ≤ v2 then
    (some ((), σ))
  else
    (gd v2 12000 <| bd (f_X8_add_text_F ((xA σ 50 v2)) σ) (fun _ τ21 =>
    rec6 ((v2 + 1)) τ21))
def f_X8_copy_text_out_F_L6 : Nat → Int32 → S5 → Option (Unit × S5)
  | 0, _, _ => none
  | n + 1, v2, σ => f_X8_copy_text_out_F_B6 (f_X8_copy_text_out_F_L6  n) v2 σ
def f_X8_copy_text_out_F  (σ : S5) : Option (Unit × S5) :=
  bd (f_X8_clear_text_F  σ) (fun _ τ1 =>
  f_X8_copy_text_out_F_L6  FU (0) τ1)
def f_X8_signAt_out_F (a1 : Int32) (σ : S5) : Option (Int32 × S5) :=
  if a1 < 0 then
    (some (((-1) : Int32), σ))
  else
    (if (gI σ 66) ≤ a1 then
      (some (((-1) : Int32), σ))
    else
      (gd a1 12000 <| some ((xA σ 50 a1), σ)))
def f_X4_tell_F (a1 : Int32) (a2 : Int32) (σ : S5) : Option (Int32 × S5) :=
  if a2 = 0 then
    (gd a1 630 <| some ((xA σ 3 a1), σ))
  else if a2 = 1 then
    (gd a1 630 <| some ((xA σ 4 a1), σ))
  else if a2 = 2 then
    (gd a1 630 <| some ((xA σ 6 a1), σ))
  else if a2 = 3 then
    (gd a1 630 <| some ((xA σ 9 a1), σ))
  else if a2 = 4 then
    (gd a1 630 <| some ((xA σ 11 a1), σ))
  else 
    (gd a1 630 <| some ((xA σ 10 a1), σ))
def f_X4_needsParameter_F (a1 : Int32) (a2 : Int32) (σ : S5) : Option (Int32 × S5) :=
  gd a1 630 <| if ((j_iushr (xA σ 12 a1) a2) &&& 1) = 0 then
    (some ((0 : Int32), σ))
  else
    (some ((1 : Int32), σ))
def f_X1_look_F (a1 : Int32) (a2 : Int32) (σ : S5) : Option (Int32 × S5) :=
  gd ((a1 * 4) + ((j_iushr a2 6) &&& 3)) 2520 <| some (((((j_lushr (xB σ 5 ((a1 * 4) + ((j_iushr a2 6) &&& 3))) (a2 &&& 63)) : Int64).toInt32) &&& 1), σ)
def f_X11_put_b130 (rec99 : Int32 → Int32 → S5 → Option ((Int32 × Int32) × S5)) (v1 : Int32) (v3 : Int32) (σ : S5) : Option ((Int32 × Int32) × S5) :=
  rec99 (v1) ((v3 + 1)) σ
def f_X11_put_B99 (rec99 : Int32 → Int32 → S5 → Option ((Int32 × Int32) × S5)) (v1 : Int32) (v3 : Int32) (σ : S5) : Option ((Int32 × Int32) × S5) :=
  if 4 ≤ v3 then
    (some (((0 : Int32), ((gI σ 0) : Int32)), σ))
  else
    (if ((j_iushr v1 (8 * v3)) &&& 255) = 0 then
      (f_X11_put_b130 rec99 (v1) (v3) σ)
    else
      (bd (f_X8_add_text_F (((j_iushr v1 (8 * v3)) &&& 255)) σ) (fun _ τ127 =>
      f_X11_put_b130 rec99 (v1) (v3) τ127)))
def f_X11_put_L99 : Nat → Int32 → Int32 → S5 → Option ((Int32 × Int32) × S5)
  | 0, _, _, _ => none
  | n + 1, v1, v3, σ => f_X11_put_B99 (f_X11_put_L99  n) v1 v3 σ
def f_X11_put_b66 (rec4 : Int32 → Int32 → Int32 → S5 → Option ((Int32 × Int32) × S5)) (v1 : Int32) (v3 : Int32) (u0 : Int32) (u1 : Int32) (σ : S5) : Option ((Int32 × Int32) × S5) :=
  rec4 (v1) ((u1 + u0)) ((v3 + 1)) σ
def f_X11_put_b55 (rec4 : Int32 → Int32 → Int32 → S5 → Option ((Int32 × Int32) × S5)) (v1 : Int32) (v2 : Int32) (v3 : Int32) (v4 : Int32) (σ : S5) : Option ((Int32 × Int32) × S5) :=
  if v4 = 0 then
    (f_X11_put_b66 rec4 (v1) (v3) (0) (v2) σ)
  else
    (f_X11_put_b66 rec4 (v1) (v3) (1) (v2) σ)
def f_X11_put_B4 (rec4 : Int32 → Int32 → Int32 → S5 → Option ((Int32 × Int32) × S5)) (v1 : Int32) (v2 : Int32) (v3 : Int32) (σ : S5) : Option ((Int32 × Int32) × S5) :=
  if 4 ≤ v3 then
    (if ((gI σ 0) + v2) ≤ 3000 then
      (f_X11_put_L99  FU (v1) (0) σ)
    else
      (some (((2 : Int32), (0 : Int32)), σ)))
  else
    (if ((j_iushr v1 (8 * v3)) &&& 255) = 0 then
      (f_X11_put_b55 rec4 (v1) (v2) (v3) (((j_iushr v1 (8 * v3)) &&& 255)) σ)
    else
      (if ((j_iushr v1 (8 * v3)) &&& 255) = 10 then
        (f_X11_put_b55 rec4 (v1) (v2) (v3) (((j_iushr v1 (8 * v3)) &&& 255)) σ)
      else
        (if ((j_iushr v1 (8 * v3)) &&& 255) < 32 then
          (some (((1 : Int32), (0 : Int32)), σ))
        else
          (if ((j_iushr v1 (8 * v3)) &&& 255) ≤ 126 then
            (f_X11_put_b55 rec4 (v1) (v2) (v3) (((j_iushr v1 (8 * v3)) &&& 255)) σ)
          else
            (some (((1 : Int32), (0 : Int32)), σ))))))
def f_X11_put_L4 : Nat → Int32 → Int32 → Int32 → S5 → Option ((Int32 × Int32) × S5)
  | 0, _, _, _, _ => none
  | n + 1, v1, v2, v3, σ => f_X11_put_B4 (f_X11_put_L4  n) v1 v2 v3 σ
def f_X11_put (a1 : Int32) (σ : S5) : Option ((Int32 × Int32) × S5) :=
  f_X11_put_L4  FU (a1) (0) (0) σ
def f_X11_end (a1 : Int32) (σ : S5) : Option ((Int32 × Int32) × S5) :=
  if a1 < 0 then
    (some (((1 : Int32), (0 : Int32)), σ))
  else
    (if a1 ≤ (gI σ 0) then
      (some (((0 : Int32), (0 : Int32)), (pI σ 0 a1)))
    else
      (some (((1 : Int32), (0 : Int32)), σ)))
def f_X11_take  (σ : S5) : Option ((Int32 × Int32) × S5) :=
  if (gI σ 66) ≤ 3000 then
    (bd (f_X8_copy_text_out_F  σ) (fun _ τ23 =>
    some (((0 : Int32), ((gI τ23 0) : Int32)), τ23)))
  else
    (some (((0 : Int32), ((-1) : Int32)), σ))
def f_X11_fault (a1 : Int32) (σ : S5) : Option ((Int32 × Int32) × S5) :=
  if a1 < 0 then
    (some (((1 : Int32), (0 : Int32)), σ))
  else
    (if a1 ≤ 1 then
      (if a1 = 0 then
        (some (((0 : Int32), ((gI σ 61) : Int32)), σ))
      else
        (some (((0 : Int32), ((gI σ 62) : Int32)), σ)))
    else
      (some (((1 : Int32), (0 : Int32)), σ)))
def f_X11_letter (a1 : Int32) (σ : S5) : Option ((Int32 × Int32) × S5) :=
  if 0 ≤ a1 then
    (bd (f_X8_signAt_out_F (a1) σ) (fun r17 τ17 =>
    some (((0 : Int32), (r17 : Int32)), τ17)))
  else
    (some (((4 : Int32), (0 : Int32)), σ))
def f_X11_function (a1 : Int32) (a2 : Int32) (σ : S5) : Option ((Int32 × Int32) × S5) :=
  if (gI σ 60) = 0 then
    (some (((3 : Int32), (0 : Int32)), σ))
  else
    (if a1 < 0 then
      (some (((4 : Int32), (0 : Int32)), σ))
    else
      (if a1 < (gI σ 6) then
        (if a2 < 0 then
          (some (((1 : Int32), (0 : Int32)), σ))
        else
          (if a2 ≤ 5 then
            (bd (f_X4_tell_F (a1) (a2) σ) (fun r61 τ61 =>
            some (((0 : Int32), (r61 : Int32)), τ61)))
          else
            (some (((1 : Int32), (0 : Int32)), σ))))
      else
        (some (((4 : Int32), (0 : Int32)), σ))))
def f_X11_needs (a1 : Int32) (a2 : Int32) (σ : S5) : Option ((Int32 × Int32) × S5) :=
  if (gI σ 60) = 0 then
    (some (((3 : Int32), (0 : Int32)), σ))
  else
    (if a1 < 0 then
      (some (((4 : Int32), (0 : Int32)), σ))
    else
      (if (gI σ 6) ≤ a1 then
        (some (((4 : Int32), (0 : Int32)), σ))
      else
        (if a2 < 0 then
          (some (((4 : Int32), (0 : Int32)), σ))
        else
          (gd a1 630 <| if a2 < (xA σ 3 a1) then
            (bd (f_X4_needsParameter_F (a1) (a2) σ) (fun r61 τ61 =>
            g_t r61 <| some (((0 : Int32), (r61 : Int32)), τ61)))
          else
            (some (((4 : Int32), (0 : Int32)), σ))))))
def f_X11_bit (a1 : Int32) (a2 : Int32) (σ : S5) : Option ((Int32 × Int32) × S5) :=
  if (gI σ 60) = 0 then
    (some (((3 : Int32), (0 : Int32)), σ))
  else
    (if a1 < 0 then
      (some (((4 : Int32), (0 : Int32)), σ))
    else
      (if a1 < (gI σ 6) then
        (if a2 < 0 then
          (some (((1 : Int32), (0 : Int32)), σ))
        else
          (gd a1 630 <| if a2 < ((1 : Int32) <<< ((xA σ 3 a1) &&& 31)) then
            (bd (f_X1_look_F (a1) (a2) σ) (fun r71 τ71 =>
            some (((0 : Int32), (r71 : Int32)), τ71)))
          else
            (some (((1 : Int32), (0 : Int32)), σ))))
      else
        (some (((4 : Int32), (0 : Int32)), σ))))
def f_X11_result (a1 : Int32) (σ : S5) : Option ((Int32 × Int32) × S5) :=
  if a1 < 0 then
    (some (((1 : Int32), (0 : Int32)), σ))
  else
    (if a1 < 10 then
      (gd a1 10 <| some (((0 : Int32), ((xA σ 40 a1) : Int32)), σ))
    else
      (some (((1 : Int32), (0 : Int32)), σ)))
def f_X11_number (a1 : Int32) (σ : S5) : Option ((Int32 × Int32) × S5) :=
  if a1 < 0 then
    (some (((4 : Int32), (0 : Int32)), σ))
  else
    (if a1 < (xA σ 40 9) then
      (gd a1 1000 <| some (((0 : Int32), ((xA σ 42 a1) : Int32)), σ))
    else
      (some (((4 : Int32), (0 : Int32)), σ)))
def f_X11_called (a1 : Int32) (σ : S5) : Option ((Int32 × Int32) × S5) :=
  if (gI σ 60) = 0 then
    (some (((3 : Int32), (0 : Int32)), σ))
  else
    (if a1 < 0 then
      (some (((4 : Int32), (0 : Int32)), σ))
    else
      (if a1 < (gI σ 6) then
        (gd a1 630 <| some (((0 : Int32), ((xA σ 41 a1) : Int32)), σ))
      else
        (some (((4 : Int32), (0 : Int32)), σ))))
def f_X11_about (a1 : Int32) (σ : S5) : Option ((Int32 × Int32) × S5) :=
  if a1 = 0 then
    (if (gI σ 60) = 0 then
      (some (((0 : Int32), (0 : Int32)), σ))
    else
      (some (((0 : Int32), ((gI σ 6) : Int32)), σ)))
  else if a1 = 1 then
    (if (gI σ 60) = 0 then
      (some (((0 : Int32), (0 : Int32)), σ))
    else
      (some (((0 : Int32), ((gI σ 4) : Int32)), σ)))
  else if a1 = 2 then
    (if (gI σ 60) = 0 then
      (some (((0 : Int32), (0 : Int32)), σ))
    else
      (some (((0 : Int32), ((gI σ 13) : Int32)), σ)))
  else if a1 = 3 then
    (some (((0 : Int32), ((gI σ 0) : Int32)), σ))
  else if a1 = 4 then
    (some (((0 : Int32), ((gI σ 66) : Int32)), σ))
  else if a1 = 5 then
    (some (((0 : Int32), ((gI σ 64) : Int32)), σ))
  else if a1 = 6 then
    (some (((0 : Int32), ((gI σ 65) : Int32)), σ))
  else 
    (some (((1 : Int32), (0 : Int32)), σ))
def f_X11_program_b126 (u0 : Int32) (σ : S5) : Option ((Int32 × Int32) × S5) :=
  g_t u0 <| if u0 = 0 then
    (some (((0 : Int32), ((-1) : Int32)), (pI σ 60 u0)))
  else
    (bd (f_X1_solve (f_wordE 64)  (pI σ 60 u0)) (fun _ τ142 =>
    some (((0 : Int32), ((gI (mC (pI σ 60 u0) τ142) 6) : Int32)), (mC (pI σ 60 u0) τ142))))
def f_X11_program_b113  (σ : S5) : Option ((Int32 × Int32) × S5) :=
  if (gI σ 61) = 0 then
    (f_X11_program_b126  (1) σ)
  else
    (f_X11_program_b126  (0) σ)
def f_X11_program  (σ : S5) : Option ((Int32 × Int32) × S5) :=
  if (gI σ 63) < 20000 then
    (bd (f_X3_forget  σ) (fun _ τ22 =>
    bd (f_X5_readText (f_readE 64)  (mK σ τ22)) (fun _ τ29 =>
    bd (f_X8_clear_text_F  (pI (mC (mK σ τ22) τ29) 63 ((gI (mC (mK σ τ22) τ29) 63) + (gI (mC (mK σ τ22) τ29) 13)))) (fun _ τ52 =>
    if (gI τ52 11) = 0 then
      (bd (f_X2_lift  (pI (pI τ52 61 (gI τ52 11)) 62 (gI τ52 12))) (fun _ τ88 =>
      f_X11_program_b113   (pI (pI (mC (pI (pI τ52 61 (gI τ52 11)) 62 (gI τ52 12)) τ88) 61 (gI (mC (pI (pI τ52 61 (gI τ52 11)) 62 (gI τ52 12)) τ88) 20)) 62 (gI (mC (pI (pI τ52 61 (gI τ52 11)) 62 (gI τ52 12)) τ88) 21))))
    else
      (f_X11_program_b113   (pI (pI τ52 61 (gI τ52 11)) 62 (gI τ52 12)))))))
  else
    (some (((2 : Int32), (0 : Int32)), σ))
def f_X11_run (a1 : Int32) (a2 : Int32) (σ : S5) : Option ((Int32 × Int32) × S5) :=
  if (gI σ 60) = 0 then
    (some (((3 : Int32), (0 : Int32)), σ))
  else
    (if a2 < 0 then
      (some (((1 : Int32), (0 : Int32)), σ))
    else
      (if a2 ≤ 800 then
        (if 150000 ≤ (gI σ 64) then
          (some (((2 : Int32), (0 : Int32)), σ))
        else
          (if (gI σ 65) < 150000 then
            (bd (f_X3_start (a1) (a2) σ) (fun _ τ66 =>
            some (((0 : Int32), ((xA (mK σ τ66) 40 0) : Int32)), (pI (pI (mK σ τ66) 64 ((gI (mK σ τ66) 64) + (xA (mK σ τ66) 40 2))) 65 ((gI (mK σ τ66) 65) + (xA (mK σ τ66) 40 3))))))
          else
            (some (((2 : Int32), (0 : Int32)), σ))))
      else
        (some (((1 : Int32), (0 : Int32)), σ))))
def f_X11_write  (σ : S5) : Option ((Int32 × Int32) × S5) :=
  if (gI σ 60) = 0 then
    (some (((3 : Int32), (0 : Int32)), σ))
  else
    (bd (f_X8_clear_draft  σ) (fun _ τ19 =>
    bd (f_X7_writeProgram (f_writeE 64)  (mC σ τ19)) (fun _ τ30 =>
    if (gI (mC (mC σ τ19) τ30) 3) = 0 then
      (some (((0 : Int32), ((gI (swS (mC (mC σ τ19) τ30)) 66) : Int32)), (swS (mC (mC σ τ19) τ30))))
    else
      (some (((0 : Int32), ((-1) : Int32)), (mC (mC σ τ19) τ30))))))

