def fSt_putByte  (S : qS) (a1 : Int32) (a2 : Int32) : Option (qS) :=
  chk (inb (a1 &&& 2047) 2048) <|
  some (pA S 0 (a1 &&& 2047) (vp_nar .byte a2.toInt8.toInt32))
def fX_fill_3 : Nat → qS → Int32 → Int64 → Int32 → Option (qS)
  | 0, _, _, _, _ => none
  | n + 1, S, x1, x2, x4 =>
      if 8 ≤ x4 then
        some S
      else
        (fSt_putByte S (x1 + x4) ((ushrL x2 (8 * x4)).toInt32)).bind fun S2 =>
        (fX_fill_3 n) S2 x1 x2 (x4 + 1)
def fX_fill  (S : qS) (a1 : Int32) (a2 : Int64) : Option (qS) :=
  fX_fill_3 300 S a1 a2 0
def fSt_longAt  (S : qS) (a1 : Int32) : Option (Int32 × qS) :=
  chk (inb (a1 &&& 2047) 2048) <|
  chk (inb ((a1 + 1) &&& 2047) 2048) <|
  chk (inb ((a1 + 2) &&& 2047) 2048) <|
  chk (inb ((a1 + 3) &&& 2047) 2048) <|
  some (((((gA S 0 (a1 &&& 2047)) &&& 255) ||| (((gA S 0 ((a1 + 1) &&& 2047)) &&& 255) <<< ((8 : Int32) &&& 31))) ||| (((gA S 0 ((a1 + 2) &&& 2047)) &&& 255) <<< ((16 : Int32) &&& 31))) ||| ((gA S 0 ((a1 + 3) &&& 2047)) <<< ((24 : Int32) &&& 31)), S)
def fX_look  (S : qS) (a1 : Int32) : Option (Int32 × qS) :=
  (fSt_longAt S a1).bind fun q1 =>
  some (q1.1, q1.2)
def fCo_mode  (S : qS) : Option (Int32 × qS) :=
  some ((ushr (S.1 6) 24) &&& 3, S)
def fCo_put_29  (S : qS) : Option (qS) :=
  some S
def fCo_put  (S : qS) (a1 : Int32) (a2 : Int32) : Option (qS) :=
  if ¬ a1 = 14 then
    chk (inb (a1 &&& 15) 16) <|
    fCo_put_29 (pA S 2 (a1 &&& 15) a2)
  else
    (fCo_mode S).bind fun q3 =>
    chk (inb q3.1 57) <|
    fCo_put_29 (pA q3.2 1 q3.1 a2)
def fX_set_10  (S : qS) : Option (qS) :=
  none
def fX_set  (S : qS) (a1 : Int32) (a2 : Int32) : Option (qS) :=
  if a1 < 0 then
    fX_set_10 S
  else
    if a1 < 16 then
      (fCo_put S a1 a2).bind fun S3 =>
      some S3
    else
      fX_set_10 S
def fCo_get_27  (S : qS) (y0 : Int32) : Option (Int32 × qS) :=
  some (y0, S)
def fCo_get  (S : qS) (a1 : Int32) : Option (Int32 × qS) :=
  if ¬ a1 = 14 then
    chk (inb (a1 &&& 15) 16) <|
    fCo_get_27 S (gA S 2 (a1 &&& 15))
  else
    (fCo_mode S).bind fun q3 =>
    chk (inb q3.1 57) <|
    fCo_get_27 q3.2 (gA q3.2 1 q3.1)
def fX_register_10  (S : qS) : Option (Int32 × qS) :=
  none
def fX_register  (S : qS) (a1 : Int32) : Option (Int32 × qS) :=
  if a1 < 0 then
    fX_register_10 S
  else
    if a1 < 16 then
      (fCo_get S a1).bind fun q3 =>
      some (q3.1, q3.2)
    else
      fX_register_10 S
def fCo_hasInner_38  (S : qS) (y0 : Int32) : Option (Int32 × qS) :=
  chk (isB y0) (some (y0, S))
def fCo_hasInner_33  (S : qS) : Option (Int32 × qS) :=
  fCo_hasInner_38 S 1
def fCo_hasInner_21  (S : qS) (x1 : Int32) : Option (Int32 × qS) :=
  if x1 = 17 then
    fCo_hasInner_33 S
  else
    if ¬ x1 = 56 then
      fCo_hasInner_38 S 0
    else
      fCo_hasInner_33 S
def fCo_hasInner_9  (S : qS) (x1 : Int32) : Option (Int32 × qS) :=
  if x1 < 8 then
    fCo_hasInner_21 S x1
  else
    if x1 ≤ 13 then
      fCo_hasInner_33 S
    else
      fCo_hasInner_21 S x1
def fCo_hasInner  (S : qS) (a1 : Int32) : Option (Int32 × qS) :=
  if a1 < 0 then
    fCo_hasInner_9 S a1
  else
    if a1 < 4 then
      fCo_hasInner_33 S
    else
      fCo_hasInner_9 S a1
def fCo_putInner_15  (S : qS) : Option (qS) :=
  some S
def fCo_putInner  (S : qS) (a1 : Int32) (a2 : Int32) : Option (qS) :=
  (fCo_hasInner S a1).bind fun q1 =>
  if q1.1 = 0 then
    fCo_putInner_15 q1.2
  else
    chk (inb a1 57) <|
    fCo_putInner_15 (pA q1.2 1 a1 a2)
def fX_setInner_41  (S : qS) (y1 : Int32) (y2 : Int32) : Option (qS) :=
  (fCo_putInner S y1 y2).bind fun S1 =>
  some S1
def fX_setInner_40  (S : qS) (x2 : Int32) (y1 : Int32) : Option (qS) :=
  fX_setInner_41 S y1 x2
def fX_setInner  (S : qS) (a1 : Int32) (a2 : Int32) : Option (qS) :=
  (fCo_hasInner S a1).bind fun q1 =>
  if ¬ q1.1 = 0 then
    if ¬ a1 = 56 then
      fX_setInner_40 q1.2 a2 a1
    else
      if a2 = 0 then
        fX_setInner_40 q1.2 a2 a1
      else
        fX_setInner_41 q1.2 a1 1
  else
    none
def fCo_getInner_18  (S : qS) (y0 : Int32) : Option (Int32 × qS) :=
  some (y0, S)
def fCo_getInner  (S : qS) (a1 : Int32) : Option (Int32 × qS) :=
  (fCo_hasInner S a1).bind fun q1 =>
  if q1.1 = 0 then
    fCo_getInner_18 q1.2 0
  else
    chk (inb a1 57) <|
    fCo_getInner_18 q1.2 (gA q1.2 1 a1)
def fX_inner  (S : qS) (a1 : Int32) : Option (Int32 × qS) :=
  (fCo_hasInner S a1).bind fun q1 =>
  if ¬ q1.1 = 0 then
    (fCo_getInner q1.2 a1).bind fun q3 =>
    some (q3.1, q3.2)
  else
    none
def fX_begin  (S : qS) (a1 : Int32) : Option (qS) :=
  if (a1 &&& (-62914608)) = 0 then
    some (pI (pI S 6 a1) 0 0)
  else
    none
def fX_status  (S : qS) : Option (Int32 × qS) :=
  some (S.1 6, S)
def fCo_keep  (S : qS) : Option (qS) :=
  some (cpA (cpA (pI (pI (pI S 7 0) 10 0) 5 ((pI (pI S 7 0) 10 0).1 6)) 2 0 3 0 16) 1 0 4 0 4)
def fPg_pageOf  (S : qS) (a0 : Int32) : Option (Int32 × qS) :=
  some ((ushr a0 6) &&& 16777215, S)
def fPg_isThere_71  (S : qS) (y0 : Int32) : Option (Int32 × qS) :=
  chk (isB y0) (some (y0, S))
def fPg_isThere_63  (S : qS) (y0 : Int32) (y1 : Int32) : Option (Int32 × qS) :=
  if ¬ y0 = y1 then
    fPg_isThere_71 S 0
  else
    fPg_isThere_71 S 1
def fPg_isThere_49  (S : qS) (x1 : Int32) (y0 : Int32) : Option (Int32 × qS) :=
  if x1 = 1 then
    fPg_isThere_63 S y0 0
  else
    fPg_isThere_63 S y0 1
def fPg_isThere_44  (S : qS) (x1 : Int32) : Option (Int32 × qS) :=
  fPg_isThere_49 S x1 1
def fPg_isThere_33  (S : qS) (x1 : Int32) (x2 : Int32) (y1 : Int32) : Option (Int32 × qS) :=
  chk (inb y1 57) <|
  if (gA S 1 y1) < 0 then
    fPg_isThere_44 S x1
  else
    if (gA S 1 y1) ≤ x2 then
      fPg_isThere_49 S x1 0
    else
      fPg_isThere_44 S x1
def fPg_isThere  (S : qS) (a1 : Int32) (a2 : Int32) : Option (Int32 × qS) :=
  if a1 ≤ 2 then
    if ¬ a1 = 2 then
      if ¬ a1 = 1 then
        fPg_isThere_33 S a1 a2 9
      else
        fPg_isThere_33 S a1 a2 11
    else
      fPg_isThere_33 S a1 a2 13
  else
    chk (isB 0) (some (0, S))
def fPg_refusal  (S : qS) (a0 : Int32) (a1 : Int32) : Option (Int32 × qS) :=
  some (((-10) - (10 * a0)) - a1, S)
def fPg_isValid_9  (S : qS) (y0 : Int32) : Option (Int32 × qS) :=
  chk (isB y0) (some (y0, S))
def fPg_isValid  (S : qS) (a0 : Int32) : Option (Int32 × qS) :=
  if 0 ≤ a0 then
    fPg_isValid_9 S 0
  else
    fPg_isValid_9 S 1
def fPg_inFrame  (S : qS) (a0 : Int32) (a1 : Int32) : Option (Int32 × qS) :=
  some ((64 * (a0 &&& 31)) + (a1 &&& 63), S)
def fPg_grants_49  (S : qS) (y0 : Int32) : Option (Int32 × qS) :=
  chk (isB y0) (some (y0, S))
def fPg_grants_35  (S : qS) : Option (Int32 × qS) :=
  fPg_grants_49 S 0
def fPg_grants  (S : qS) (a0 : Int32) (a1 : Int32) (a2 : Int32) : Option (Int32 × qS) :=
  if a1 = 0 then
    if ((ushr a0 27) &&& 3) < a2 then
      fPg_grants_49 S 0
    else
      fPg_grants_49 S 1
  else
    if ((ushr a0 29) &&& 3) < a2 then
      fPg_grants_35 S
    else
      if ((ushr a0 27) &&& 3) < ((ushr a0 29) &&& 3) then
        fPg_grants_35 S
      else
        fPg_grants_49 S 1
def fPg_locate_189  (S : qS) (x1 : Int32) (x2 : Int32) (x3 : Int32) (x4 : Int32) (x7 : Int32) : Option (Int32 × qS) :=
  (fSt_longAt S x7).bind fun q1 =>
  (fPg_grants q1.2 q1.1 x2 x3).bind fun q2 =>
  if ¬ q2.1 = 0 then
    (fPg_isValid q2.2 q1.1).bind fun q4 =>
    if ¬ q4.1 = 0 then
      (fPg_inFrame (pI q4.2 4 (x7 &&& 2047)) q1.1 x1).bind fun q6 =>
      some (q6.1, q6.2)
    else
      (fPg_refusal q4.2 5 x4).bind fun q7 =>
      some (q7.1, q7.2)
  else
    (fPg_refusal q2.2 4 x4).bind fun q8 =>
    some (q8.1, q8.2)
def fPg_locate_130  (S : qS) (x4 : Int32) : Option (Int32 × qS) :=
  (fPg_refusal S 4 (3 + x4)).bind fun q1 =>
  some (q1.1, q1.2)
def fPg_locate_100  (S : qS) (x1 : Int32) (x2 : Int32) (x3 : Int32) (x4 : Int32) (x6 : Int32) (y1 : Int32) : Option (Int32 × qS) :=
  chk (inb y1 57) <|
  if ¬ (ushr ((gA S 1 y1) + (4 * x6)) 30) = 2 then
    fPg_locate_130 S x4
  else
    (fPg_pageOf S ((gA S 1 y1) + (4 * x6))).bind fun q3 =>
    (fPg_isThere q3.2 2 q3.1).bind fun q4 =>
    if ¬ q4.1 = 0 then
      (fPg_pageOf q4.2 ((gA S 1 y1) + (4 * x6))).bind fun q6 =>
      (fSt_longAt q6.2 ((gA q4.2 1 12) + (4 * q6.1))).bind fun q7 =>
      (fPg_isValid q7.2 q7.1).bind fun q8 =>
      if ¬ q8.1 = 0 then
        (fPg_inFrame q8.2 q7.1 ((gA S 1 y1) + (4 * x6))).bind fun q10 =>
        fPg_locate_189 q10.2 x1 x2 x3 x4 q10.1
      else
        (fPg_refusal q8.2 5 (2 + x4)).bind fun q11 =>
        some (q11.1, q11.2)
    else
      fPg_locate_130 q4.2 x4
def fPg_locate_30  (S : qS) (x1 : Int32) (x2 : Int32) (x3 : Int32) (y0 : Int32) : Option (Int32 × qS) :=
  (fPg_pageOf S x1).bind fun q1 =>
  (fPg_isThere q1.2 (ushr x1 30) q1.1).bind fun q2 =>
  if ¬ q2.1 = 0 then
    if (ushr x1 30) = 2 then
      fPg_locate_189 q2.2 x1 x2 x3 y0 ((gA q2.2 1 12) + (4 * q1.1))
    else
      if ¬ (ushr x1 30) = 0 then
        fPg_locate_100 q2.2 x1 x2 x3 y0 q1.1 10
      else
        fPg_locate_100 q2.2 x1 x2 x3 y0 q1.1 8
  else
    (fPg_refusal q2.2 4 (1 + y0)).bind fun q6 =>
    some (q6.1, q6.2)
def fPg_locate  (S : qS) (a1 : Int32) (a2 : Int32) (a3 : Int32) : Option (Int32 × qS) :=
  if ¬ (gA (pI S 4 (-1)) 1 56) = 0 then
    if a2 = 0 then
      fPg_locate_30 (pI S 4 (-1)) a1 a2 a3 0
    else
      fPg_locate_30 (pI S 4 (-1)) a1 a2 a3 4
  else
    some (a1 &&& 2047, (pI S 4 (-1)))
def fPg_faultOf  (S : qS) (a0 : Int32) : Option (Int32 × qS) :=
  some (((-10) - a0) / 10, S)
def fPg_flagOf  (S : qS) (a0 : Int32) : Option (Int32 × qS) :=
  some (((-10) - a0) - ((-10) - a0) / 10 * 10, S)
def fCo_refuse_28  (S : qS) : Option (qS) :=
  some S
def fCo_refuse  (S : qS) (a1 : Int32) (a2 : Int32) : Option (qS) :=
  if ¬ (S.1 7) = 0 then
    fCo_refuse_28 S
  else
    (fPg_faultOf S a1).bind fun q2 =>
    (fPg_flagOf (pI q2.2 7 q2.1) a1).bind fun q3 =>
    fCo_refuse_28 (pI (pI q3.2 9 q3.1) 8 a2)
def fSt_byteAt  (S : qS) (a1 : Int32) : Option (Int32 × qS) :=
  chk (inb (a1 &&& 2047) 2048) <|
  some ((gA S 0 (a1 &&& 2047)) &&& 255, S)
def fCo_read_78  (S : qS) (x3 : Int32) : Option (Int32 × qS) :=
  some (x3, S)
def fCo_read_72 (K5 : qS → Int32 → Int32 → Int32 → Int32 → Option (Int32 × qS)) (S : qS) (x1 : Int32) (x2 : Int32) (x3 : Int32) (x4 : Int32) : Option (Int32 × qS) :=
  K5 S x1 x2 x3 (x4 + 1)
def fCo_read_5 : Nat → qS → Int32 → Int32 → Int32 → Int32 → Option (Int32 × qS)
  | 0, _, _, _, _, _ => none
  | n + 1, S, x1, x2, x3, x4 =>
      if x2 ≤ x4 then
        fCo_read_78 S x3
      else
        if ¬ (S.1 7) = 0 then
          fCo_read_78 S x3
        else
          (fCo_mode S).bind fun q3 =>
          (fPg_locate q3.2 (x1 + x4) 0 q3.1).bind fun q4 =>
          if 0 ≤ q4.1 then
            (fSt_byteAt q4.2 q4.1).bind fun q6 =>
            fCo_read_72 (fCo_read_5 n) q6.2 x1 x2 (x3 ||| (q6.1 <<< ((8 * x4) &&& 31))) x4
          else
            (fCo_refuse q4.2 q4.1 (x1 + x4)).bind fun S7 =>
            fCo_read_72 (fCo_read_5 n) S7 x1 x2 x3 x4
def fCo_read  (S : qS) (a1 : Int32) (a2 : Int32) : Option (Int32 × qS) :=
  fCo_read_5 300 S a1 a2 0 0
def fCo_fetch  (S : qS) (a1 : Int32) : Option (Int32 × qS) :=
  (fCo_get S 15).bind fun q1 =>
  (fCo_read q1.2 q1.1 a1).bind fun q2 =>
  (fCo_get q2.2 15).bind fun q3 =>
  (fCo_put q3.2 15 (q3.1 + a1)).bind fun S4 =>
  some (q2.1, S4)
def fCd_isAllowed_47  (S : qS) (y0 : Int32) : Option (Int32 × qS) :=
  chk (isB y0) (some (y0, S))
def fCd_isAllowed_46  (S : qS) : Option (Int32 × qS) :=
  fCd_isAllowed_47 S 0
def fCd_isAllowed_42  (S : qS) : Option (Int32 × qS) :=
  fCd_isAllowed_47 S 1
def fCd_isAllowed_21  (S : qS) (x1 : Int32) (y0 : Int32) : Option (Int32 × qS) :=
  if 70 < x1 then
    fCd_isAllowed_46 S
  else
    if y0 = 0 then
      fCd_isAllowed_42 S
    else
      (fCo_mode S).bind fun q3 =>
      if ¬ q3.1 = 0 then
        fCd_isAllowed_46 q3.2
      else
        fCd_isAllowed_42 q3.2
def fCd_isAllowed_16  (S : qS) (x1 : Int32) : Option (Int32 × qS) :=
  fCd_isAllowed_21 S x1 1
def fCd_isAllowed  (S : qS) (a1 : Int32) : Option (Int32 × qS) :=
  if a1 = 0 then
    fCd_isAllowed_16 S a1
  else
    if a1 = 10 then
      fCd_isAllowed_16 S a1
    else
      if ¬ a1 = 11 then
        fCd_isAllowed_21 S a1 0
      else
        fCd_isAllowed_16 S a1
def fCo_raise_12  (S : qS) : Option (qS) :=
  some S
def fCo_raise  (S : qS) (a1 : Int32) : Option (qS) :=
  if ¬ (S.1 7) = 0 then
    fCo_raise_12 S
  else
    fCo_raise_12 (pI S 7 a1)
def fCd_shapeOf_276  (S : qS) : Option (Nat × qS) :=
  some (0, S)
def fCd_shapeOf_279  (S : qS) : Option (Nat × qS) :=
  some (1, S)
def fCd_shapeOf_282  (S : qS) : Option (Nat × qS) :=
  some (2, S)
def fCd_shapeOf_285  (S : qS) : Option (Nat × qS) :=
  some (3, S)
def fCd_shapeOf_288  (S : qS) : Option (Nat × qS) :=
  some (4, S)
def fCd_shapeOf_291  (S : qS) : Option (Nat × qS) :=
  some (5, S)
def fCd_shapeOf_294  (S : qS) : Option (Nat × qS) :=
  some (6, S)
def fCd_shapeOf_297  (S : qS) : Option (Nat × qS) :=
  some (7, S)
def fCd_shapeOf_300  (S : qS) : Option (Nat × qS) :=
  some (8, S)
def fCd_shapeOf_303  (S : qS) : Option (Nat × qS) :=
  some (9, S)
def fCd_shapeOf_306  (S : qS) : Option (Nat × qS) :=
  some (10, S)
def fCd_shapeOf_309  (S : qS) : Option (Nat × qS) :=
  some (11, S)
def fCd_shapeOf_312  (S : qS) : Option (Nat × qS) :=
  some (12, S)
def fCd_shapeOf_315  (S : qS) : Option (Nat × qS) :=
  some (13, S)
def fCd_shapeOf_318  (S : qS) : Option (Nat × qS) :=
  some (14, S)
def fCd_shapeOf_321  (S : qS) : Option (Nat × qS) :=
  some (15, S)
def fCd_shapeOf_324  (S : qS) : Option (Nat × qS) :=
  some (16, S)
def fCd_shapeOf_361  (S : qS) (jy0 : Nat) : Option (Nat × qS) :=
  some (jy0, S)
def fCd_shapeOf_359  (S : qS) : Option (Nat × qS) :=
  fCd_shapeOf_361 S 23
def fCd_shapeOf_342  (S : qS) (x1 : Int32) : Option (Nat × qS) :=
  if x1 < 48 then
    fCd_shapeOf_359 S
  else
    if 61 < x1 then
      fCd_shapeOf_359 S
    else
      fCd_shapeOf_361 S 22
def fCd_shapeOf_327  (S : qS) : Option (Nat × qS) :=
  some (17, S)
def fCd_shapeOf_330  (S : qS) : Option (Nat × qS) :=
  some (18, S)
def fCd_shapeOf_333  (S : qS) : Option (Nat × qS) :=
  some (19, S)
def fCd_shapeOf_336  (S : qS) : Option (Nat × qS) :=
  some (20, S)
def fCd_shapeOf_339  (S : qS) : Option (Nat × qS) :=
  some (21, S)
def fCd_shapeOf  (S : qS) (a1 : Int32) : Option (Nat × qS) :=
  if a1.toInt < 6 ∨ 70 < a1.toInt then
    fCd_shapeOf_342 S a1
  else
  if a1 = 6 then
    fCd_shapeOf_276 S
  else
  if a1 = 7 then
    fCd_shapeOf_276 S
  else
  if a1 = 8 then
    fCd_shapeOf_276 S
  else
  if a1 = 9 then
    fCd_shapeOf_276 S
  else
  if a1 = 10 then
    fCd_shapeOf_279 S
  else
  if a1 = 11 then
    fCd_shapeOf_282 S
  else
  if a1 = 12 then
    fCd_shapeOf_285 S
  else
  if a1 = 13 then
    fCd_shapeOf_288 S
  else
  if a1 = 14 then
    fCd_shapeOf_282 S
  else
  if a1 = 15 then
    fCd_shapeOf_291 S
  else
  if a1 = 16 then
    fCd_shapeOf_291 S
  else
  if a1 = 17 then
    fCd_shapeOf_294 S
  else
  if a1 = 18 then
    fCd_shapeOf_282 S
  else
  if a1 = 19 then
    fCd_shapeOf_282 S
  else
  if a1 = 20 then
    fCd_shapeOf_285 S
  else
  if a1 = 21 then
    fCd_shapeOf_276 S
  else
  if a1 = 22 then
    fCd_shapeOf_297 S
  else
  if a1 = 23 then
    fCd_shapeOf_279 S
  else
  if a1 = 24 then
    fCd_shapeOf_300 S
  else
  if a1 = 25 then
    fCd_shapeOf_303 S
  else
  if a1 = 26 then
    fCd_shapeOf_303 S
  else
  if a1 = 27 then
    fCd_shapeOf_306 S
  else
  if a1 = 28 then
    fCd_shapeOf_306 S
  else
  if a1 = 29 then
    fCd_shapeOf_306 S
  else
  if a1 = 30 then
    fCd_shapeOf_306 S
  else
  if a1 = 31 then
    fCd_shapeOf_306 S
  else
  if a1 = 32 then
    fCd_shapeOf_306 S
  else
  if a1 = 33 then
    fCd_shapeOf_306 S
  else
  if a1 = 34 then
    fCd_shapeOf_309 S
  else
  if a1 = 35 then
    fCd_shapeOf_309 S
  else
  if a1 = 36 then
    fCd_shapeOf_309 S
  else
  if a1 = 37 then
    fCd_shapeOf_309 S
  else
  if a1 = 38 then
    fCd_shapeOf_309 S
  else
  if a1 = 39 then
    fCd_shapeOf_309 S
  else
  if a1 = 40 then
    fCd_shapeOf_309 S
  else
  if a1 = 41 then
    fCd_shapeOf_312 S
  else
  if a1 = 42 then
    fCd_shapeOf_315 S
  else
  if a1 = 43 then
    fCd_shapeOf_318 S
  else
  if a1 = 44 then
    fCd_shapeOf_276 S
  else
  if a1 = 45 then
    fCd_shapeOf_321 S
  else
  if a1 = 46 then
    fCd_shapeOf_324 S
  else
  if a1 = 47 then
    fCd_shapeOf_324 S
  else
  if a1 = 48 then
    fCd_shapeOf_342 S a1
  else
  if a1 = 49 then
    fCd_shapeOf_342 S a1
  else
  if a1 = 50 then
    fCd_shapeOf_342 S a1
  else
  if a1 = 51 then
    fCd_shapeOf_342 S a1
  else
  if a1 = 52 then
    fCd_shapeOf_342 S a1
  else
  if a1 = 53 then
    fCd_shapeOf_342 S a1
  else
  if a1 = 54 then
    fCd_shapeOf_342 S a1
  else
  if a1 = 55 then
    fCd_shapeOf_342 S a1
  else
  if a1 = 56 then
    fCd_shapeOf_342 S a1
  else
  if a1 = 57 then
    fCd_shapeOf_342 S a1
  else
  if a1 = 58 then
    fCd_shapeOf_342 S a1
  else
  if a1 = 59 then
    fCd_shapeOf_342 S a1
  else
  if a1 = 60 then
    fCd_shapeOf_342 S a1
  else
  if a1 = 61 then
    fCd_shapeOf_342 S a1
  else
  if a1 = 62 then
    fCd_shapeOf_327 S
  else
  if a1 = 63 then
    fCd_shapeOf_327 S
  else
  if a1 = 64 then
    fCd_shapeOf_330 S
  else
  if a1 = 65 then
    fCd_shapeOf_330 S
  else
  if a1 = 66 then
    fCd_shapeOf_333 S
  else
  if a1 = 67 then
    fCd_shapeOf_333 S
  else
  if a1 = 68 then
    fCd_shapeOf_336 S
  else
  if a1 = 69 then
    fCd_shapeOf_339 S
  else
  if a1 = 70 then
    fCd_shapeOf_339 S
  else
  none
def fSp_isNoWay_17  (S : qS) (y0 : Int32) : Option (Int32 × qS) :=
  chk (isB y0) (some (y0, S))
def fSp_isNoWay_16  (S : qS) : Option (Int32 × qS) :=
  fSp_isNoWay_17 S 0
def fSp_isNoWay  (S : qS) (a0 : Int32) : Option (Int32 × qS) :=
  if a0 ≤ 11 then
    fSp_isNoWay_16 S
  else
    if 14 ≤ a0 then
      fSp_isNoWay_16 S
    else
      fSp_isNoWay_17 S 1
def fSp_isAddress_17  (S : qS) (y0 : Int32) : Option (Int32 × qS) :=
  chk (isB y0) (some (y0, S))
def fSp_isAddress_12  (S : qS) : Option (Int32 × qS) :=
  fSp_isAddress_17 S 1
def fSp_isAddress  (S : qS) (a0 : Int32) : Option (Int32 × qS) :=
  if a0 = 97 then
    fSp_isAddress_12 S
  else
    if ¬ a0 = 65 then
      fSp_isAddress_17 S 0
    else
      fSp_isAddress_12 S
def fSp_suits_42  (S : qS) : Option (Int32 × qS) :=
  chk (isB 0) (some (0, S))
def fSp_suits_98  (S : qS) (y0 : Int32) : Option (Int32 × qS) :=
  chk (isB y0) (some (y0, S))
def fSp_suits_93  (S : qS) : Option (Int32 × qS) :=
  fSp_suits_98 S 1
def fSp_suits_61  (S : qS) (y0 : Int32) : Option (Int32 × qS) :=
  chk (isB y0) (some (y0, S))
def fSp_suits_44  (S : qS) (x0 : Int32) (x1 : Int32) (x2 : Int32) : Option (Int32 × qS) :=
  if ¬ x0 = 5 then
    if ¬ x0 = 8 then
      fSp_suits_93 S
    else
      if ¬ x1 = 15 then
        fSp_suits_93 S
      else
        if x2 = 114 then
          fSp_suits_93 S
        else
          if x2 = 82 then
            fSp_suits_93 S
          else
            (fSp_isAddress S x2).bind fun q6 =>
            if q6.1 = 0 then
              fSp_suits_98 q6.2 0
            else
              fSp_suits_93 q6.2
  else
    (fSp_isAddress S x2).bind fun q8 =>
    if ¬ q8.1 = 0 then
      fSp_suits_61 q8.2 0
    else
      fSp_suits_61 q8.2 1
def fSp_suits_22  (S : qS) (y0 : Int32) : Option (Int32 × qS) :=
  chk (isB y0) (some (y0, S))
def fSp_suits_17  (S : qS) : Option (Int32 × qS) :=
  fSp_suits_22 S 1
def fSp_suits  (S : qS) (a0 : Int32) (a1 : Int32) (a2 : Int32) : Option (Int32 × qS) :=
  if 4 ≤ a0 then
    (fSp_isNoWay S a0).bind fun q2 =>
    if ¬ q2.1 = 0 then
      fSp_suits_42 q2.2
    else
      if 7 < a0 then
        fSp_suits_44 q2.2 a0 a1 a2
      else
        if ¬ a1 = 15 then
          fSp_suits_44 q2.2 a0 a1 a2
        else
          fSp_suits_42 q2.2
  else
    if a2 = 114 then
      fSp_suits_17 S
    else
      if ¬ a2 = 82 then
        fSp_suits_22 S 0
      else
        fSp_suits_17 S
def fSp_suitsBehindIndexed_30  (S : qS) (y0 : Int32) : Option (Int32 × qS) :=
  chk (isB y0) (some (y0, S))
def fSp_suitsBehindIndexed_29  (S : qS) : Option (Int32 × qS) :=
  fSp_suitsBehindIndexed_30 S 0
def fSp_suitsBehindIndexed_25  (S : qS) : Option (Int32 × qS) :=
  fSp_suitsBehindIndexed_30 S 1
def fSp_suitsBehindIndexed  (S : qS) (a0 : Int32) (a1 : Int32) : Option (Int32 × qS) :=
  if a0 < 6 then
    fSp_suitsBehindIndexed_29 S
  else
    (fSp_isNoWay S a0).bind fun q2 =>
    if ¬ q2.1 = 0 then
      fSp_suitsBehindIndexed_29 q2.2
    else
      if 8 < a0 then
        fSp_suitsBehindIndexed_25 q2.2
      else
        if a1 = 15 then
          fSp_suitsBehindIndexed_29 q2.2
        else
          fSp_suitsBehindIndexed_25 q2.2
def fSp_addressBy_40  (S : qS) (x4 : Int32) : Option (Int32 × qS) :=
  some (x4, S)
def fSp_addressBy_43  (S : qS) (x2 : Int32) (x3 : Int32) (x4 : Int32) : Option (Int32 × qS) :=
  (fCo_put S x2 (x4 - x3)).bind fun S1 =>
  some (x4 - x3, S1)
def fSp_addressBy_60  (S : qS) (x2 : Int32) (x3 : Int32) (x4 : Int32) : Option (Int32 × qS) :=
  (fCo_put S x2 (x4 + x3)).bind fun S1 =>
  some (x4, S1)
def fSp_addressBy_75  (S : qS) (x2 : Int32) (x4 : Int32) : Option (Int32 × qS) :=
  (fCo_put S x2 (x4 + 4)).bind fun S1 =>
  (fCo_read S1 x4 4).bind fun q2 =>
  some (q2.1, q2.2)
def fSp_addressBy_166  (S : qS) (y0 : Int32) : Option (Int32 × qS) :=
  some (y0, S)
def fSp_addressBy_151  (S : qS) (x6 : Int32) : Option (Int32 × qS) :=
  fSp_addressBy_166 S x6
def fSp_addressBy_124  (S : qS) (x1 : Int32) (x2 : Int32) (y0 : Int32) : Option (Int32 × qS) :=
  (fCo_get S x2).bind fun q1 =>
  if x1 = 10 then
    fSp_addressBy_151 q1.2 (q1.1 + y0)
  else
    if ¬ x1 = 14 then
      (fCo_read q1.2 (q1.1 + y0) 4).bind fun q4 =>
      fSp_addressBy_166 q4.2 q4.1
    else
      fSp_addressBy_151 q1.2 (q1.1 + y0)
def fSp_addressBy_98  (S : qS) (x1 : Int32) (x2 : Int32) : Option (Int32 × qS) :=
  if 14 ≤ x1 then
    (fCo_fetch S 4).bind fun q2 =>
    fSp_addressBy_124 q2.2 x1 x2 q2.1
  else
    (fCo_fetch S 1).bind fun q3 =>
    fSp_addressBy_124 q3.2 x1 x2 q3.1.toInt8.toInt32
def fSp_addressBy  (S : qS) (a1 : Int32) (a2 : Int32) (a3 : Int32) : Option (Int32 × qS) :=
  (fCo_get S a2).bind fun q1 =>
  if a1.toInt < 6 ∨ 9 < a1.toInt then
    fSp_addressBy_98 q1.2 a1 a2
  else
  if a1 = 6 then
    fSp_addressBy_40 q1.2 q1.1
  else
  if a1 = 7 then
    fSp_addressBy_43 q1.2 a2 a3 q1.1
  else
  if a1 = 8 then
    fSp_addressBy_60 q1.2 a2 a3 q1.1
  else
  if a1 = 9 then
    fSp_addressBy_75 q1.2 a2 q1.1
  else
  none
def fSp_isRead_29  (S : qS) (y0 : Int32) : Option (Int32 × qS) :=
  chk (isB y0) (some (y0, S))
def fSp_isRead_24  (S : qS) : Option (Int32 × qS) :=
  fSp_isRead_29 S 1
def fSp_isRead  (S : qS) (a0 : Int32) : Option (Int32 × qS) :=
  if a0 = 114 then
    fSp_isRead_24 S
  else
    if a0 = 82 then
      fSp_isRead_24 S
    else
      if a0 = 109 then
        fSp_isRead_24 S
      else
        if ¬ a0 = 77 then
          fSp_isRead_29 S 0
        else
          fSp_isRead_24 S
def fSp_find_278  (S : qS) : Option (qS) :=
  some S
def fSp_find_275  (S : qS) (ky0 : Nat) (y1 : Int32) : Option (qS) :=
  fSp_find_278 (pI S (14 + 4 * ky0) y1)
def fSp_find_248  (S : qS) (k1 : Nat) (x2 : Int32) : Option (qS) :=
  (fSp_isRead S x2).bind fun q1 =>
  if q1.1 = 0 then
    fSp_find_275 q1.2 k1 0
  else
    (fCo_read q1.2 (q1.2.1 (13 + 4 * k1)) (q1.2.1 (11 + 4 * k1))).bind fun q3 =>
    fSp_find_275 q3.2 k1 q3.1
def fSp_find_198  (S : qS) (k1 : Nat) (x2 : Int32) (x4 : Int32) (x5 : Int32) (x6 : Int32) : Option (qS) :=
  (fSp_addressBy S (ushr x6 4) (x6 &&& 15) (S.1 (11 + 4 * k1))).bind fun q1 =>
  if ¬ x4 = 4 then
    fSp_find_248 (pI q1.2 (13 + 4 * k1) q1.1) k1 x2
  else
    (fCo_get (pI q1.2 (13 + 4 * k1) q1.1) x5).bind fun q3 =>
    fSp_find_248 (pI q3.2 (13 + 4 * k1) (((pI q1.2 (13 + 4 * k1) q1.1).1 (13 + 4 * k1)) + (((pI q1.2 (13 + 4 * k1) q1.1).1 (11 + 4 * k1)) * q3.1))) k1 x2
def fSp_find_166  (S : qS) (k1 : Nat) (x2 : Int32) (x4 : Int32) (x5 : Int32) (y0 : Int32) : Option (qS) :=
  if ¬ x4 = 4 then
    fSp_find_198 S k1 x2 x4 x5 y0
  else
    (fSp_suitsBehindIndexed S (ushr y0 4) (y0 &&& 15)).bind fun q2 =>
    if ¬ q2.1 = 0 then
      fSp_find_198 q2.2 k1 x2 x4 x5 y0
    else
      (fCo_raise q2.2 3).bind fun S4 =>
      some S4
def fSp_find_142  (S : qS) (ky0 : Nat) (y1 : Int32) : Option (qS) :=
  fSp_find_278 (pI S (14 + 4 * ky0) y1)
def fSp_find_17  (S : qS) (k1 : Nat) (x2 : Int32) (ky0 : Nat) (y1 : Int32) : Option (qS) :=
  if ¬ x2 = 100 then
    (fCo_fetch (pI S (11 + 4 * ky0) y1) 1).bind fun q2 =>
    (fSp_suits q2.2 (ushr q2.1 4) (q2.1 &&& 15) x2).bind fun q3 =>
    if ¬ q3.1 = 0 then
      if 4 ≤ (ushr q2.1 4) then
        if ¬ (ushr q2.1 4) = 5 then
          if ¬ (ushr q2.1 4) = 4 then
            fSp_find_166 q3.2 k1 x2 (ushr q2.1 4) (q2.1 &&& 15) q2.1
          else
            (fCo_fetch q3.2 1).bind fun q8 =>
            fSp_find_166 q8.2 k1 x2 (ushr q2.1 4) (q2.1 &&& 15) q8.1
        else
          if ¬ ((pI q3.2 (12 + 4 * k1) (q2.1 &&& 15)).1 (11 + 4 * k1)) = 1 then
            (fCo_get (pI q3.2 (12 + 4 * k1) (q2.1 &&& 15)) (q2.1 &&& 15)).bind fun q10 =>
            fSp_find_142 q10.2 k1 q10.1
          else
            (fCo_get (pI q3.2 (12 + 4 * k1) (q2.1 &&& 15)) (q2.1 &&& 15)).bind fun q11 =>
            fSp_find_142 q11.2 k1 (q11.1 &&& 255)
      else
        fSp_find_278 (pI q3.2 (14 + 4 * k1) q2.1)
    else
      (fCo_raise q3.2 3).bind fun S12 =>
      fSp_find_278 S12
  else
    (fCo_fetch (pI S (11 + 4 * ky0) y1) 1).bind fun q13 =>
    some (pI q13.2 (14 + 4 * k1) q13.1.toInt8.toInt32)
def fSp_find  (S : qS) (k1 : Nat) (a2 : Int32) : Option (qS) :=
  if 97 ≤ a2 then
    fSp_find_17 (pI S (12 + 4 * k1) (-1)) k1 a2 k1 1
  else
    fSp_find_17 (pI S (12 + 4 * k1) (-1)) k1 a2 k1 4
def fCo_pop  (S : qS) : Option (Int32 × qS) :=
  (fCo_get S 14).bind fun q1 =>
  (fCo_read q1.2 q1.1 4).bind fun q2 =>
  (fCo_get q2.2 14).bind fun q3 =>
  (fCo_put q3.2 14 (q3.1 + 4)).bind fun S4 =>
  some (q2.1, S4)
def fCd_leaveException_55  (S : qS) : Option (qS) :=
  (fCo_raise S 2).bind fun S1 =>
  some S1
def fCd_leaveException  (S : qS) : Option (qS) :=
  (fCo_pop S).bind fun q1 =>
  (fCo_pop q1.2).bind fun q2 =>
  if ¬ (q2.1 &&& (-62914608)) = 0 then
    fCd_leaveException_55 q2.2
  else
    (fCo_mode q2.2).bind fun q4 =>
    if ((ushr q2.1 24) &&& 3) < q4.1 then
      fCd_leaveException_55 q4.2
    else
      if ((ushr q2.1 24) &&& 3) ≤ ((ushr q2.1 22) &&& 3) then
        (fCo_put q4.2 15 q1.1).bind fun S7 =>
        some (pI S7 6 q2.1)
      else
        fCd_leaveException_55 q4.2
def fCd_leaveFrame_196  (S : qS) (x1 : Int32) : Option (qS) :=
  some (pI S 6 (((S.1 6) &&& (-48)) ||| (x1 &&& 47)))
def fCd_leaveFrame_126 (K94 : qS → Int32 → Int32 → Option (qS)) (S : qS) (x1 : Int32) (x2 : Int32) : Option (qS) :=
  K94 S x1 (x2 + 1)
def fCd_leaveFrame_94 : Nat → qS → Int32 → Int32 → Option (qS)
  | 0, _, _, _ => none
  | n + 1, S, x1, x2 =>
      if 12 ≤ x2 then
        (fCo_get S 14).bind fun q2 =>
        (fCo_put q2.2 14 (q2.1 + (ushr x1 30))).bind fun S3 =>
        if (x1 &&& 536870912) = 0 then
          fCd_leaveFrame_196 S3 x1
        else
          (fCo_pop S3).bind fun q5 =>
          (fCo_get q5.2 14).bind fun q6 =>
          (fCo_put q6.2 14 (q6.1 + (4 * (q5.1 &&& 255)))).bind fun S7 =>
          fCd_leaveFrame_196 S7 x1
      else
        if ((ushr x1 (16 + x2)) &&& 1) = 0 then
          fCd_leaveFrame_126 (fCd_leaveFrame_94 n) S x1 x2
        else
          (fCo_pop S).bind fun q9 =>
          (fCo_put q9.2 x2 q9.1).bind fun S10 =>
          fCd_leaveFrame_126 (fCd_leaveFrame_94 n) S10 x1 x2
def fCd_leaveFrame  (S : qS) : Option (qS) :=
  (fCo_get S 13).bind fun q1 =>
  (fCo_put q1.2 14 (q1.1 + 4)).bind fun S2 =>
  (fCo_pop S2).bind fun q3 =>
  if (q3.1 &&& 65488) = 0 then
    (fCo_pop q3.2).bind fun q5 =>
    (fCo_put q5.2 12 q5.1).bind fun S6 =>
    (fCo_pop S6).bind fun q7 =>
    (fCo_put q7.2 13 q7.1).bind fun S8 =>
    (fCo_pop S8).bind fun q9 =>
    (fCo_put q9.2 15 q9.1).bind fun S10 =>
    fCd_leaveFrame_94 300 S10 q3.1 0
  else
    (fCo_raise q3.2 2).bind fun S11 =>
    some S11
def fCd_giveInner_26  (S : qS) : Option (qS) :=
  (fCo_raise S 2).bind fun S1 =>
  some S1
def fCd_giveInner_35  (S : qS) (x1 : Int32) (x2 : Int32) : Option (qS) :=
  (fCo_putInner S x1 x2).bind fun S1 =>
  some S1
def fCd_giveInner  (S : qS) (a1 : Int32) (a2 : Int32) : Option (qS) :=
  (fCo_hasInner S a1).bind fun q1 =>
  if q1.1 = 0 then
    fCd_giveInner_26 q1.2
  else
    if ¬ a1 = 56 then
      fCd_giveInner_35 q1.2 a1 a2
    else
      if a2 = 0 then
        fCd_giveInner_35 q1.2 a1 a2
      else
        if a2 = 1 then
          fCd_giveInner_35 q1.2 a1 a2
        else
          fCd_giveInner_26 q1.2
def fCo_setConditions_40  (S : qS) (y0 : Int32) (y1 : Int32) : Option (qS) :=
  some (pI S 6 (((S.1 6) &&& (-16)) ||| (y0 ||| y1)))
def fCo_setConditions_29  (S : qS) (x4 : Int32) (y0 : Int32) (y1 : Int32) : Option (qS) :=
  if x4 = 0 then
    fCo_setConditions_40 S (y0 ||| y1) 0
  else
    fCo_setConditions_40 S (y0 ||| y1) 1
def fCo_setConditions_19  (S : qS) (x3 : Int32) (x4 : Int32) (y0 : Int32) (y1 : Int32) : Option (qS) :=
  if x3 = 0 then
    fCo_setConditions_29 S x4 (y0 ||| y1) 0
  else
    fCo_setConditions_29 S x4 (y0 ||| y1) 2
def fCo_setConditions_10  (S : qS) (x2 : Int32) (x3 : Int32) (x4 : Int32) (y0 : Int32) : Option (qS) :=
  if x2 = 0 then
    fCo_setConditions_19 S x3 x4 y0 0
  else
    fCo_setConditions_19 S x3 x4 y0 4
def fCo_setConditions  (S : qS) (a1 : Int32) (a2 : Int32) (a3 : Int32) (a4 : Int32) : Option (qS) :=
  if a1 = 0 then
    fCo_setConditions_10 S a2 a3 a4 0
  else
    fCo_setConditions_10 S a2 a3 a4 8
def fCo_conclude_19  (S : qS) (x2 : Int32) (x3 : Int32) (y1 : Int32) (y2 : Int32) : Option (qS) :=
  (fCo_setConditions S y1 y2 x2 x3).bind fun S1 =>
  some S1
def fCo_conclude_10  (S : qS) (x1 : Int32) (x2 : Int32) (x3 : Int32) (y1 : Int32) : Option (qS) :=
  if ¬ x1 = 0 then
    fCo_conclude_19 S x2 x3 y1 0
  else
    fCo_conclude_19 S x2 x3 y1 1
def fCo_conclude  (S : qS) (a1 : Int32) (a2 : Int32) (a3 : Int32) : Option (qS) :=
  if 0 ≤ a1 then
    fCo_conclude_10 S a1 a2 a3 0
  else
    fCo_conclude_10 S a1 a2 a3 1
def fPg_markModified  (S : qS) (a1 : Int32) : Option (qS) :=
  (fSt_byteAt S (a1 + 3)).bind fun q1 =>
  (fSt_putByte q1.2 (a1 + 3) (q1.1 ||| 4)).bind fun S2 =>
  some S2
def fCo_write_163  (S : qS) : Option (qS) :=
  some S
def fCo_write_136 (K93 : qS → Int32 → Int32 → Int32 → Option (qS)) (S : qS) (x2 : Int32) (x3 : Int32) (x4 : Int32) : Option (qS) :=
  chk (inb x4 4) <|
  (fSt_putByte S (gA S 5 x4) (ushr x2 (8 * x4))).bind fun S2 =>
  K93 S2 x2 x3 (x4 + 1)
def fCo_write_93 : Nat → qS → Int32 → Int32 → Int32 → Option (qS)
  | 0, _, _, _, _ => none
  | n + 1, S, x2, x3, x4 =>
      if x3 ≤ x4 then
        fCo_write_163 S
      else
        if 4 ≤ x4 then
          fCo_write_163 S
        else
          if ¬ (S.1 7) = 0 then
            fCo_write_163 S
          else
            chk (inb x4 4) <|
            if (gA S 6 x4) < 0 then
              fCo_write_136 (fCo_write_93 n) S x2 x3 x4
            else
              chk (inb x4 4) <|
              (fPg_markModified S (gA S 6 x4)).bind fun S7 =>
              fCo_write_136 (fCo_write_93 n) S7 x2 x3 x4
def fCo_write_90  (S : qS) (x2 : Int32) (x3 : Int32) : Option (qS) :=
  fCo_write_93 300 S x2 x3 0
def fCo_write_84 (K3 : qS → Int32 → Int32 → Int32 → Int32 → Option (qS)) (S : qS) (x1 : Int32) (x2 : Int32) (x3 : Int32) (x4 : Int32) : Option (qS) :=
  K3 S x1 x2 x3 (x4 + 1)
def fCo_write_3 : Nat → qS → Int32 → Int32 → Int32 → Int32 → Option (qS)
  | 0, _, _, _, _, _ => none
  | n + 1, S, x1, x2, x3, x4 =>
      if x3 ≤ x4 then
        fCo_write_90 S x2 x3
      else
        if 4 ≤ x4 then
          fCo_write_90 S x2 x3
        else
          if ¬ (S.1 7) = 0 then
            fCo_write_90 S x2 x3
          else
            (fCo_mode S).bind fun q4 =>
            (fPg_locate q4.2 (x1 + x4) 1 q4.1).bind fun q5 =>
            chk (inb x4 4) <|
            chk (inb x4 4) <|
            chk (inb x4 4) <|
            if 0 ≤ (gA (pA (pA q5.2 5 x4 q5.1) 6 x4 ((pA q5.2 5 x4 q5.1).1 4)) 5 x4) then
              fCo_write_84 (fCo_write_3 n) (pA (pA q5.2 5 x4 q5.1) 6 x4 ((pA q5.2 5 x4 q5.1).1 4)) x1 x2 x3 x4
            else
              chk (inb x4 4) <|
              (fCo_refuse (pA (pA q5.2 5 x4 q5.1) 6 x4 ((pA q5.2 5 x4 q5.1).1 4)) (gA (pA (pA q5.2 5 x4 q5.1) 6 x4 ((pA q5.2 5 x4 q5.1).1 4)) 5 x4) (x1 + x4)).bind fun S11 =>
              fCo_write_84 (fCo_write_3 n) S11 x1 x2 x3 x4
def fCo_write  (S : qS) (a1 : Int32) (a2 : Int32) (a3 : Int32) : Option (qS) :=
  fCo_write_3 300 S a1 a2 a3 0
def fCd_store_82  (S : qS) : Option (qS) :=
  some S
def fCd_store  (S : qS) (k1 : Nat) (a2 : Int32) : Option (qS) :=
  if ¬ (S.1 (12 + 4 * k1)) = (-1) then
    if ¬ (S.1 (11 + 4 * k1)) = 1 then
      (fCo_put S (S.1 (12 + 4 * k1)) a2).bind fun S3 =>
      fCd_store_82 S3
    else
      (fCo_get S (S.1 (12 + 4 * k1))).bind fun q4 =>
      (fCo_put q4.2 (S.1 (12 + 4 * k1)) ((q4.1 &&& (-256)) ||| (a2 &&& 255))).bind fun S5 =>
      fCd_store_82 S5
  else
    (fCo_write S (S.1 (13 + 4 * k1)) a2 (S.1 (11 + 4 * k1))).bind fun S6 =>
    fCd_store_82 S6
def fCd_takeInner  (S : qS) (a1 : Int32) : Option (qS) :=
  (fCo_hasInner S a1).bind fun q1 =>
  if ¬ q1.1 = 0 then
    (fCo_getInner q1.2 a1).bind fun q3 =>
    (fCo_conclude q3.2 q3.1 0 0).bind fun S4 =>
    (fCd_store S4 1 q3.1).bind fun S5 =>
    some S5
  else
    (fCo_raise q1.2 2).bind fun S6 =>
    some S6
def fCd_shift_63  (S : qS) (x3 : Int32) (x4 : Int32) : Option (qS) :=
  (fCo_conclude S x3 x4 0).bind fun S1 =>
  (fCd_store S1 2 x3).bind fun S2 =>
  some S2
def fCd_shift_61  (S : qS) (x3 : Int32) (y0 : Int32) : Option (qS) :=
  fCd_shift_63 S x3 y0
def fCd_shift_37  (S : qS) (x3 : Int32) (y0 : Int32) : Option (qS) :=
  fCd_shift_63 S x3 y0
def fCd_shift  (S : qS) (a1 : Int32) (a2 : Int32) : Option (qS) :=
  if 0 ≤ a1 then
    if a1 ≤ 31 then
      if (lg_cmp (a2.toInt64 <<< (a1.toInt64 &&& 63)) ((a2 <<< (a1 &&& 31)).toInt64)) = 0 then
        fCd_shift_61 S (a2 <<< (a1 &&& 31)) 0
      else
        fCd_shift_61 S (a2 <<< (a1 &&& 31)) 1
    else
      if a2 = 0 then
        fCd_shift_37 S 0 0
      else
        fCd_shift_37 S 0 1
  else
    fCd_shift_63 S (a2 >>> ((if 31 < (-a1) then 31 else (-a1)) &&& 31)) 0
def fCo_push  (S : qS) (a1 : Int32) : Option (qS) :=
  (fCo_get S 14).bind fun q1 =>
  (fCo_write q1.2 (q1.1 - 4) a1 4).bind fun S2 =>
  (fCo_get S2 14).bind fun q3 =>
  (fCo_put q3.2 14 (q3.1 - 4)).bind fun S4 =>
  some S4
def fCd_enterFrame_258  (S : qS) (y1 : Int32) (y2 : Int32) : Option (qS) :=
  (fCo_put (pI S 6 (y1 ||| y2)) 15 (((pI S 6 (y1 ||| y2)).1 17) + 2)).bind fun S1 =>
  some S1
def fCd_enterFrame_106 (K76 : qS → Int32 → Int32 → Int32 → Int32 → Option (qS)) (S : qS) (x1 : Int32) (x2 : Int32) (x3 : Int32) (x4 : Int32) : Option (qS) :=
  K76 S x1 x2 x3 (x4 + (-1))
def fCd_enterFrame_76 : Nat → qS → Int32 → Int32 → Int32 → Int32 → Option (qS)
  | 0, _, _, _, _, _ => none
  | n + 1, S, x1, x2, x3, x4 =>
      if x4 < 0 then
        (fCo_get S 15).bind fun q2 =>
        (fCo_push q2.2 q2.1).bind fun S3 =>
        (fCo_get S3 13).bind fun q4 =>
        (fCo_push q4.2 q4.1).bind fun S5 =>
        (fCo_get S5 12).bind fun q6 =>
        (fCo_push q6.2 q6.1).bind fun S7 =>
        (fCo_push S7 ((((x3 <<< ((30 : Int32) &&& 31)) ||| 536870912) ||| ((x2 &&& 4095) <<< ((16 : Int32) &&& 31))) ||| ((S7.1 6) &&& 65535))).bind fun S8 =>
        (fCo_push S8 0).bind fun S9 =>
        (fCo_get S9 14).bind fun q10 =>
        (fCo_put q10.2 13 q10.1).bind fun S11 =>
        (fCo_put S11 12 x1).bind fun S12 =>
        if (x2 &&& 16384) = 0 then
          fCd_enterFrame_258 S12 ((S12.1 6) &&& (-48)) 0
        else
          fCd_enterFrame_258 S12 ((S12.1 6) &&& (-48)) 32
      else
        if ((ushr x2 x4) &&& 1) = 0 then
          fCd_enterFrame_106 (fCd_enterFrame_76 n) S x1 x2 x3 x4
        else
          (fCo_get S x4).bind fun q15 =>
          (fCo_push q15.2 q15.1).bind fun S16 =>
          fCd_enterFrame_106 (fCd_enterFrame_76 n) S16 x1 x2 x3 x4
def fCd_enterFrame  (S : qS) : Option (qS) :=
  (fCo_push S (S.1 14)).bind fun S1 =>
  (fCo_get S1 14).bind fun q2 =>
  (fCo_read q2.2 (q2.2.1 17) 2).bind fun q3 =>
  if (q3.1 &&& 45056) = 0 then
    (fCo_put q3.2 14 (q2.1 - (q2.1 &&& 3))).bind fun S5 =>
    fCd_enterFrame_76 300 S5 q2.1 q3.1 (q2.1 &&& 3) 11
  else
    (fCo_raise q3.2 2).bind fun S6 =>
    some S6
def fCo_previous  (S : qS) : Option (Int32 × qS) :=
  some ((ushr (S.1 6) 22) &&& 3, S)
def fCo_admits_47  (S : qS) : Option (Int32 × qS) :=
  chk (isB 1) (some (1, S))
def fCo_admits  (S : qS) (a1 : Int32) (a2 : Int32) (a3 : Int32) : Option (Int32 × qS) :=
  (fPg_locate S a1 a2 a3).bind fun q1 =>
  if q1.1 < 0 then
    (fPg_faultOf q1.2 q1.1).bind fun q3 =>
    if ¬ q3.1 = 4 then
      (fPg_flagOf q3.2 q1.1).bind fun q5 =>
      if (q5.1 &&& 2) = 0 then
        fCo_admits_47 q5.2
      else
        (fCo_refuse q5.2 q1.1 a1).bind fun S7 =>
        fCo_admits_47 S7
    else
      chk (isB 0) (some (0, q3.2))
  else
    chk (isB 1) (some (1, q1.2))
def fCd_probe_69  (S : qS) (y0 : Int32) : Option (qS) :=
  (fCo_setConditions S 0 y0 0 0).bind fun S1 =>
  some S1
def fCd_probe_68  (S : qS) : Option (qS) :=
  fCd_probe_69 S 0
def fCd_probe  (S : qS) (a1 : Int32) : Option (qS) :=
  (fCo_previous S).bind fun q1 =>
  (fCo_admits q1.2 (q1.2.1 21) a1 (if q1.1 < ((q1.2.1 14) &&& 3) then ((q1.2.1 14) &&& 3) else q1.1)).bind fun q2 =>
  if q2.1 = 0 then
    fCd_probe_68 q2.2
  else
    (fCo_admits q2.2 (((q1.2.1 21) + (q2.2.1 18)) - 1) a1 (if q1.1 < ((q1.2.1 14) &&& 3) then ((q1.2.1 14) &&& 3) else q1.1)).bind fun q4 =>
    if q4.1 = 0 then
      fCd_probe_68 q4.2
    else
      fCd_probe_69 q4.2 1
def fCd_moved_48  (S : qS) (x1 : Int32) : Option (Int32 × qS) :=
  some (x1.toInt8.toInt32, S)
def fCd_moved_60  (S : qS) (x1 : Int32) : Option (Int32 × qS) :=
  some (x1, S)
def fCd_moved_51  (S : qS) (x1 : Int32) : Option (Int32 × qS) :=
  some (-x1, S)
def fCd_moved_54  (S : qS) (x1 : Int32) : Option (Int32 × qS) :=
  some (x1 ^^^ (-1), S)
def fCd_moved_58  (S : qS) : Option (Int32 × qS) :=
  some (0, S)
def fCd_moved  (S : qS) (a0 : Int32) (a1 : Int32) : Option (Int32 × qS) :=
  if a0.toInt < 13 ∨ 20 < a0.toInt then
    fCd_moved_60 S a1
  else
  if a0 = 13 then
    fCd_moved_48 S a1
  else
  if a0 = 14 then
    fCd_moved_60 S a1
  else
  if a0 = 15 then
    fCd_moved_60 S a1
  else
  if a0 = 16 then
    fCd_moved_48 S a1
  else
  if a0 = 17 then
    fCd_moved_48 S a1
  else
  if a0 = 18 then
    fCd_moved_51 S a1
  else
  if a0 = 19 then
    fCd_moved_54 S a1
  else
  if a0 = 20 then
    fCd_moved_58 S
  else
  none
def fCo_has_14  (S : qS) (y0 : Int32) : Option (Int32 × qS) :=
  chk (isB y0) (some (y0, S))
def fCo_has  (S : qS) (a1 : Int32) : Option (Int32 × qS) :=
  if ((S.1 6) &&& a1) = 0 then
    fCo_has_14 S 0
  else
    fCo_has_14 S 1
def fCd_move_113  (S : qS) (x3 : Int32) (ky1 : Nat) : Option (qS) :=
  (fCd_store S ky1 x3).bind fun S1 =>
  some S1
def fCd_move_83  (S : qS) (x1 : Int32) (x3 : Int32) (x4 : Int32) (x5 : Int32) : Option (qS) :=
  (fCo_conclude S x3 x4 x5).bind fun S1 =>
  if ¬ x1 = 20 then
    fCd_move_113 S1 x3 1
  else
    fCd_move_113 S1 x3 0
def fCd_move_81  (S : qS) (x1 : Int32) (x3 : Int32) (x4 : Int32) (y0 : Int32) : Option (qS) :=
  fCd_move_83 S x1 x3 x4 y0
def fCd_move_42  (S : qS) (x1 : Int32) (x3 : Int32) (y0 : Int32) : Option (qS) :=
  (fCo_has S 1).bind fun q1 =>
  if ¬ x1 = 17 then
    if ¬ x1 = 18 then
      fCd_move_83 q1.2 x1 x3 y0 q1.1
    else
      if x3 = 0 then
        fCd_move_81 q1.2 x1 x3 y0 0
      else
        fCd_move_81 q1.2 x1 x3 y0 1
  else
    fCd_move_83 q1.2 x1 x3 y0 0
def fCd_move_41  (S : qS) (x1 : Int32) (x3 : Int32) : Option (qS) :=
  fCd_move_42 S x1 x3 0
def fCd_move_37  (S : qS) (x1 : Int32) (x3 : Int32) : Option (qS) :=
  fCd_move_42 S x1 x3 1
def fCd_move_25  (S : qS) (x1 : Int32) (x2 : Int32) (x3 : Int32) : Option (qS) :=
  if ¬ x1 = 18 then
    fCd_move_41 S x1 x3
  else
    if ¬ x2 = (-2147483648) then
      fCd_move_41 S x1 x3
    else
      fCd_move_37 S x1 x3
def fCd_move  (S : qS) (a1 : Int32) : Option (qS) :=
  (fCd_moved S a1 (S.1 14)).bind fun q1 =>
  if ¬ a1 = 17 then
    fCd_move_25 q1.2 a1 (S.1 14) q1.1
  else
    if ¬ q1.1 = (S.1 14) then
      fCd_move_37 q1.2 a1 q1.1
    else
      fCd_move_25 q1.2 a1 (S.1 14) q1.1
def fJI_compare_19  (S : qS) (y0 : Int32) : Option (Int32 × qS) :=
  some (y0, S)
def fJI_compare  (S : qS) (a0 : Int32) (a1 : Int32) : Option (Int32 × qS) :=
  if a1 ≤ a0 then
    if ¬ a0 = a1 then
      fJI_compare_19 S 1
    else
      fJI_compare_19 S 0
  else
    fJI_compare_19 S (-1)
def fJI_compareUnsigned  (S : qS) (a0 : Int32) (a1 : Int32) : Option (Int32 × qS) :=
  (fJI_compare S (a0 + (-2147483648)) (a1 + (-2147483648))).bind fun q1 =>
  some (q1.1, q1.2)
def fCd_compare_123  (S : qS) (y1 : Int32) (y2 : Int32) (y3 : Int32) (y4 : Int32) : Option (qS) :=
  (fCo_setConditions S y1 y2 y3 y4).bind fun S1 =>
  some S1
def fCd_compare_108  (S : qS) (x3 : Int32) (x4 : Int32) (y1 : Int32) (y2 : Int32) : Option (qS) :=
  (fJI_compareUnsigned S x3 x4).bind fun q1 =>
  if 0 ≤ q1.1 then
    fCd_compare_123 q1.2 y1 y2 0 0
  else
    fCd_compare_123 q1.2 y1 y2 0 1
def fCd_compare_97  (S : qS) (x3 : Int32) (x4 : Int32) (y1 : Int32) : Option (qS) :=
  if ¬ x3 = x4 then
    fCd_compare_108 S x3 x4 y1 0
  else
    fCd_compare_108 S x3 x4 y1 1
def fCd_compare_80  (S : qS) (x3 : Int32) (y0 : Int32) : Option (qS) :=
  if y0 ≤ x3 then
    fCd_compare_97 S x3 y0 0
  else
    fCd_compare_97 S x3 y0 1
def fCd_compare_40  (S : qS) (x1 : Int32) (x2 : Int32) (y0 : Int32) : Option (qS) :=
  if 23 ≤ x1 then
    if x2 = 0 then
      fCd_compare_80 S y0 (S.1 18)
    else
      fCd_compare_80 S y0 ((S.1 18).toInt8.toInt32)
  else
    (fCo_conclude S y0 0 0).bind fun S3 =>
    some S3
def fCd_compare_17  (S : qS) (x1 : Int32) (y0 : Int32) : Option (qS) :=
  if y0 = 0 then
    fCd_compare_40 S x1 y0 (S.1 14)
  else
    fCd_compare_40 S x1 y0 ((S.1 14).toInt8.toInt32)
def fCd_compare_12  (S : qS) (x1 : Int32) : Option (qS) :=
  fCd_compare_17 S x1 1
def fCd_compare  (S : qS) (a1 : Int32) : Option (qS) :=
  if a1 = 22 then
    fCd_compare_12 S a1
  else
    if ¬ a1 = 24 then
      fCd_compare_17 S a1 0
    else
      fCd_compare_12 S a1
def fCd_add_50  (S : qS) (x3 : Int64) (y1 : Int32) (y2 : Int32) (y3 : Int32) : Option (Int32 × qS) :=
  (fCo_conclude S y1 y2 y3).bind fun S1 =>
  some (x3.toInt32, S1)
def fCd_add_25  (S : qS) (x1 : Int32) (x2 : Int32) (x3 : Int64) (y1 : Int32) (y2 : Int32) : Option (Int32 × qS) :=
  if (lg_cmp ((x1.toInt64 &&& 4294967295) + (x2.toInt64 &&& 4294967295)) 4294967295) ≤ 0 then
    fCd_add_50 S x3 y1 y2 0
  else
    fCd_add_50 S x3 y1 y2 1
def fCd_add  (S : qS) (a1 : Int32) (a2 : Int32) : Option (Int32 × qS) :=
  if (lg_cmp (a1.toInt64 + a2.toInt64) (((a1.toInt64 + a2.toInt64).toInt32).toInt64)) = 0 then
    fCd_add_25 S a1 a2 (a1.toInt64 + a2.toInt64) ((a1.toInt64 + a2.toInt64).toInt32) 0
  else
    fCd_add_25 S a1 a2 (a1.toInt64 + a2.toInt64) ((a1.toInt64 + a2.toInt64).toInt32) 1
def fCd_subtract_38  (S : qS) (x3 : Int64) (y1 : Int32) (y2 : Int32) (y3 : Int32) : Option (Int32 × qS) :=
  (fCo_conclude S y1 y2 y3).bind fun S1 =>
  some (x3.toInt32, S1)
def fCd_subtract_25  (S : qS) (x1 : Int32) (x2 : Int32) (x3 : Int64) (y1 : Int32) (y2 : Int32) : Option (Int32 × qS) :=
  (fJI_compareUnsigned S x1 x2).bind fun q1 =>
  if 0 ≤ q1.1 then
    fCd_subtract_38 q1.2 x3 y1 y2 0
  else
    fCd_subtract_38 q1.2 x3 y1 y2 1
def fCd_subtract  (S : qS) (a1 : Int32) (a2 : Int32) : Option (Int32 × qS) :=
  if (lg_cmp (a1.toInt64 - a2.toInt64) (((a1.toInt64 - a2.toInt64).toInt32).toInt64)) = 0 then
    fCd_subtract_25 S a1 a2 (a1.toInt64 - a2.toInt64) ((a1.toInt64 - a2.toInt64).toInt32) 0
  else
    fCd_subtract_25 S a1 a2 (a1.toInt64 - a2.toInt64) ((a1.toInt64 - a2.toInt64).toInt32) 1
def fCd_multiply_25  (S : qS) (x3 : Int64) (y1 : Int32) (y2 : Int32) : Option (Int32 × qS) :=
  (fCo_conclude S y1 y2 0).bind fun S1 =>
  some (x3.toInt32, S1)
def fCd_multiply  (S : qS) (a1 : Int32) (a2 : Int32) : Option (Int32 × qS) :=
  if (lg_cmp (a1.toInt64 * a2.toInt64) (((a1.toInt64 * a2.toInt64).toInt32).toInt64)) = 0 then
    fCd_multiply_25 S (a1.toInt64 * a2.toInt64) ((a1.toInt64 * a2.toInt64).toInt32) 0
  else
    fCd_multiply_25 S (a1.toInt64 * a2.toInt64) ((a1.toInt64 * a2.toInt64).toInt32) 1
def fCd_divide_44  (S : qS) (x3 : Int32) (y0 : Int32) : Option (Int32 × qS) :=
  (fCo_conclude S y0 x3 0).bind fun S1 =>
  some (y0, S1)
def fCd_divide_32  (S : qS) (x1 : Int32) (x2 : Int32) (y0 : Int32) : Option (Int32 × qS) :=
  if y0 = 0 then
    chk (x2 != 0) <|
    fCd_divide_44 S y0 (x1 / x2)
  else
    fCd_divide_44 S y0 x1
def fCd_divide_27  (S : qS) (x1 : Int32) (x2 : Int32) : Option (Int32 × qS) :=
  fCd_divide_32 S x1 x2 1
def fCd_divide_31  (S : qS) (x1 : Int32) (x2 : Int32) : Option (Int32 × qS) :=
  fCd_divide_32 S x1 x2 0
def fCd_divide_12  (S : qS) (x1 : Int32) (x2 : Int32) : Option (Int32 × qS) :=
  if x2 = 0 then
    fCd_divide_27 S x1 x2
  else
    if ¬ x1 = (-2147483648) then
      fCd_divide_31 S x1 x2
    else
      if ¬ x2 = (-1) then
        fCd_divide_31 S x1 x2
      else
        fCd_divide_27 S x1 x2
def fCd_divide  (S : qS) (a1 : Int32) (a2 : Int32) : Option (Int32 × qS) :=
  if ¬ a2 = 0 then
    fCd_divide_12 S a1 a2
  else
    fCd_divide_12 (pI S 10 2) a1 a2
def fCd_bits  (S : qS) (a1 : Int32) : Option (Int32 × qS) :=
  (fCo_has S 1).bind fun q1 =>
  (fCo_conclude q1.2 a1 0 q1.1).bind fun S2 =>
  some (a1, S2)
def fCd_calculated_40  (S : qS) (x2 : Int32) (x3 : Int32) : Option (Int32 × qS) :=
  (fCd_add S x3 x2).bind fun q1 =>
  some (q1.1, q1.2)
def fCd_calculated_47  (S : qS) (x2 : Int32) (x3 : Int32) : Option (Int32 × qS) :=
  (fCd_subtract S x3 x2).bind fun q1 =>
  some (q1.1, q1.2)
def fCd_calculated_54  (S : qS) (x2 : Int32) (x3 : Int32) : Option (Int32 × qS) :=
  (fCd_multiply S x3 x2).bind fun q1 =>
  some (q1.1, q1.2)
def fCd_calculated_61  (S : qS) (x2 : Int32) (x3 : Int32) : Option (Int32 × qS) :=
  (fCd_divide S x3 x2).bind fun q1 =>
  some (q1.1, q1.2)
def fCd_calculated_68  (S : qS) (x2 : Int32) (x3 : Int32) : Option (Int32 × qS) :=
  (fCd_bits S (x3 ||| x2)).bind fun q1 =>
  some (q1.1, q1.2)
def fCd_calculated_76  (S : qS) (x2 : Int32) (x3 : Int32) : Option (Int32 × qS) :=
  (fCd_bits S (x3 &&& (x2 ^^^ (-1)))).bind fun q1 =>
  some (q1.1, q1.2)
def fCd_calculated_86  (S : qS) (x2 : Int32) (x3 : Int32) : Option (Int32 × qS) :=
  (fCd_bits S (x3 ^^^ x2)).bind fun q1 =>
  some (q1.1, q1.2)
def fCd_calculated  (S : qS) (a1 : Int32) (a2 : Int32) (a3 : Int32) : Option (Int32 × qS) :=
  if a1.toInt < 27 ∨ 32 < a1.toInt then
    fCd_calculated_86 S a2 a3
  else
  if a1 = 27 then
    fCd_calculated_40 S a2 a3
  else
  if a1 = 28 then
    fCd_calculated_47 S a2 a3
  else
  if a1 = 29 then
    fCd_calculated_54 S a2 a3
  else
  if a1 = 30 then
    fCd_calculated_61 S a2 a3
  else
  if a1 = 31 then
    fCd_calculated_68 S a2 a3
  else
  if a1 = 32 then
    fCd_calculated_76 S a2 a3
  else
  none
def fCd_calculate_118  (S : qS) : Option (qS) :=
  some S
def fCd_calculate_39  (S : qS) (y0 : Int32) : Option (qS) :=
  (fCd_store S 0 y0).bind fun S1 =>
  fCd_calculate_118 S1
def fCd_calculate  (S : qS) (a1 : Int32) : Option (qS) :=
  if 27 ≤ a1 then
    if 34 ≤ a1 then
      (fCd_calculated S (a1 - 7) (S.1 14) (S.1 18)).bind fun q3 =>
      (fCd_store q3.2 2 q3.1).bind fun S4 =>
      fCd_calculate_118 S4
    else
      (fCd_calculated S a1 (S.1 14) (S.1 18)).bind fun q5 =>
      (fCd_store q5.2 1 q5.1).bind fun S6 =>
      fCd_calculate_118 S6
  else
    if ¬ a1 = 25 then
      (fCd_subtract S (S.1 14) 1).bind fun q8 =>
      fCd_calculate_39 q8.2 q8.1
    else
      (fCd_add S (S.1 14) 1).bind fun q9 =>
      fCd_calculate_39 q9.2 q9.1
def fCd_handAddress_67  (S : qS) : Option (qS) :=
  some S
def fCd_handAddress_23  (S : qS) (x1 : Int32) (y0 : Int32) : Option (qS) :=
  (fCo_has S 1).bind fun q1 =>
  (fCo_conclude q1.2 y0 0 q1.1).bind fun S2 =>
  if 44 ≤ x1 then
    (fCo_push S2 y0).bind fun S4 =>
    fCd_handAddress_67 S4
  else
    (fCd_store S2 1 y0).bind fun S5 =>
    fCd_handAddress_67 S5
def fCd_handAddress  (S : qS) (a1 : Int32) : Option (qS) :=
  if ¬ a1 = 44 then
    fCd_handAddress_23 S a1 (S.1 13)
  else
    fCd_handAddress_23 S a1 (S.1 14)
def fCd_go_61  (S : qS) (y1 : Int32) (y2 : Int32) : Option (qS) :=
  (fCo_put S y1 y2).bind fun S1 =>
  some S1
def fCd_go_30  (S : qS) (x1 : Int32) (x2 : Int32) : Option (qS) :=
  if 48 ≤ x1 then
    fCd_go_61 S 15 (x2 + (S.1 14))
  else
    fCd_go_61 S 15 (S.1 13)
def fCd_go_22  (S : qS) (x1 : Int32) (x2 : Int32) : Option (qS) :=
  (fCo_push S x2).bind fun S1 =>
  fCd_go_30 S1 x1 x2
def fCd_go  (S : qS) (a1 : Int32) : Option (qS) :=
  (fCo_get S 15).bind fun q1 =>
  if a1 = 47 then
    fCd_go_22 q1.2 a1 q1.1
  else
    if ¬ a1 = 49 then
      fCd_go_30 q1.2 a1 q1.1
    else
      fCd_go_22 q1.2 a1 q1.1
def fCd_holds_83  (S : qS) (y0 : Int32) : Option (Int32 × qS) :=
  chk (isB y0) (some (y0, S))
def fCd_holds_75  (S : qS) (y0 : Int32) (y1 : Int32) : Option (Int32 × qS) :=
  if ¬ y0 = y1 then
    fCd_holds_83 S 0
  else
    fCd_holds_83 S 1
def fCd_holds_56  (S : qS) (x1 : Int32) : Option (Int32 × qS) :=
  (fCo_has S 4).bind fun q1 =>
  if ¬ x1 = 51 then
    fCd_holds_75 q1.2 q1.1 0
  else
    fCd_holds_75 q1.2 q1.1 1
def fCd_holds_112  (S : qS) (y0 : Int32) : Option (Int32 × qS) :=
  chk (isB y0) (some (y0, S))
def fCd_holds_104  (S : qS) (y0 : Int32) (y1 : Int32) : Option (Int32 × qS) :=
  if ¬ y0 = y1 then
    fCd_holds_112 S 0
  else
    fCd_holds_112 S 1
def fCd_holds_84  (S : qS) (x1 : Int32) : Option (Int32 × qS) :=
  (fCo_has S 12).bind fun q1 =>
  if ¬ x1 = 53 then
    fCd_holds_104 q1.2 q1.1 0
  else
    fCd_holds_104 q1.2 q1.1 1
def fCd_holds_141  (S : qS) (y0 : Int32) : Option (Int32 × qS) :=
  chk (isB y0) (some (y0, S))
def fCd_holds_133  (S : qS) (y0 : Int32) (y1 : Int32) : Option (Int32 × qS) :=
  if ¬ y0 = y1 then
    fCd_holds_141 S 0
  else
    fCd_holds_141 S 1
def fCd_holds_113  (S : qS) (x1 : Int32) : Option (Int32 × qS) :=
  (fCo_has S 8).bind fun q1 =>
  if ¬ x1 = 55 then
    fCd_holds_133 q1.2 q1.1 0
  else
    fCd_holds_133 q1.2 q1.1 1
def fCd_holds_169  (S : qS) (y0 : Int32) : Option (Int32 × qS) :=
  chk (isB y0) (some (y0, S))
def fCd_holds_161  (S : qS) (y0 : Int32) (y1 : Int32) : Option (Int32 × qS) :=
  if ¬ y0 = y1 then
    fCd_holds_169 S 0
  else
    fCd_holds_169 S 1
def fCd_holds_142  (S : qS) (x1 : Int32) : Option (Int32 × qS) :=
  (fCo_has S 5).bind fun q1 =>
  if ¬ x1 = 57 then
    fCd_holds_161 q1.2 q1.1 0
  else
    fCd_holds_161 q1.2 q1.1 1
def fCd_holds_197  (S : qS) (y0 : Int32) : Option (Int32 × qS) :=
  chk (isB y0) (some (y0, S))
def fCd_holds_189  (S : qS) (y0 : Int32) (y1 : Int32) : Option (Int32 × qS) :=
  if ¬ y0 = y1 then
    fCd_holds_197 S 0
  else
    fCd_holds_197 S 1
def fCd_holds_170  (S : qS) (x1 : Int32) : Option (Int32 × qS) :=
  (fCo_has S 2).bind fun q1 =>
  if ¬ x1 = 59 then
    fCd_holds_189 q1.2 q1.1 0
  else
    fCd_holds_189 q1.2 q1.1 1
def fCd_holds_225  (S : qS) (y0 : Int32) : Option (Int32 × qS) :=
  chk (isB y0) (some (y0, S))
def fCd_holds_217  (S : qS) (y0 : Int32) (y1 : Int32) : Option (Int32 × qS) :=
  if ¬ y0 = y1 then
    fCd_holds_225 S 0
  else
    fCd_holds_225 S 1
def fCd_holds_198  (S : qS) (x1 : Int32) : Option (Int32 × qS) :=
  (fCo_has S 1).bind fun q1 =>
  if ¬ x1 = 61 then
    fCd_holds_217 q1.2 q1.1 0
  else
    fCd_holds_217 q1.2 q1.1 1
def fCd_holds  (S : qS) (a1 : Int32) : Option (Int32 × qS) :=
  if a1.toInt < 50 ∨ 59 < a1.toInt then
    fCd_holds_198 S a1
  else
  if a1 = 50 then
    fCd_holds_56 S a1
  else
  if a1 = 51 then
    fCd_holds_56 S a1
  else
  if a1 = 52 then
    fCd_holds_84 S a1
  else
  if a1 = 53 then
    fCd_holds_84 S a1
  else
  if a1 = 54 then
    fCd_holds_113 S a1
  else
  if a1 = 55 then
    fCd_holds_113 S a1
  else
  if a1 = 56 then
    fCd_holds_142 S a1
  else
  if a1 = 57 then
    fCd_holds_142 S a1
  else
  if a1 = 58 then
    fCd_holds_170 S a1
  else
  if a1 = 59 then
    fCd_holds_170 S a1
  else
  none
def fCd_branch_97  (S : qS) : Option (qS) :=
  some S
def fCd_branch_93  (S : qS) (y1 : Int32) (y2 : Int32) (y3 : Int32) : Option (qS) :=
  (fCo_put S y1 (y2 + y3)).bind fun S1 =>
  fCd_branch_97 S1
def fCd_branch_52  (S : qS) (x2 : Int32) (y0 : Int32) : Option (qS) :=
  if y0 = 0 then
    fCd_branch_97 S
  else
    (fCo_get S 15).bind fun q2 =>
    if x2 = 0 then
      fCd_branch_93 q2.2 15 q2.1 (q2.2.1 14)
    else
      fCd_branch_93 q2.2 15 q2.1 (q2.2.1 18)
def fCd_branch_36  (S : qS) (x2 : Int32) (y0 : Int32) (y1 : Int32) : Option (qS) :=
  if ¬ y0 = y1 then
    fCd_branch_52 S x2 0
  else
    fCd_branch_52 S x2 1
def fCd_branch_11  (S : qS) (x1 : Int32) (y0 : Int32) : Option (qS) :=
  if y0 = 0 then
    (fCd_holds S x1).bind fun q2 =>
    fCd_branch_52 q2.2 y0 q2.1
  else
    if ¬ x1 = 62 then
      fCd_branch_36 S y0 ((S.1 14) &&& 1) 0
    else
      fCd_branch_36 S y0 ((S.1 14) &&& 1) 1
def fCd_branch  (S : qS) (a1 : Int32) : Option (qS) :=
  if a1 ≤ 61 then
    fCd_branch_11 S a1 0
  else
    fCd_branch_11 S a1 1
def fCd_count_214  (S : qS) : Option (qS) :=
  some S
def fCd_count_210  (S : qS) (y1 : Int32) (y2 : Int32) (y3 : Int32) : Option (qS) :=
  (fCo_put S y1 (y2 + y3)).bind fun S1 =>
  fCd_count_214 S1
def fCd_count_174  (S : qS) (x2 : Int32) : Option (qS) :=
  (fCo_get S 15).bind fun q1 =>
  if x2 = 0 then
    fCd_count_210 q1.2 15 q1.1 (q1.2.1 22)
  else
    fCd_count_210 q1.2 15 q1.1 (q1.2.1 18)
def fCd_count_162  (S : qS) (x2 : Int32) (x7 : Int32) (y0 : Int32) : Option (qS) :=
  if ¬ x7 = 0 then
    fCd_count_174 S x2
  else
    if y0 = 0 then
      fCd_count_214 S
    else
      fCd_count_174 S x2
def fCd_count_161  (S : qS) (x2 : Int32) (x7 : Int32) : Option (qS) :=
  fCd_count_162 S x2 x7 0
def fCd_count_154  (S : qS) (x2 : Int32) (x7 : Int32) (y0 : Int32) (y1 : Int32) : Option (qS) :=
  if ¬ y0 = y1 then
    fCd_count_161 S x2 x7
  else
    fCd_count_162 S x2 x7 1
def fCd_count_128  (S : qS) (x1 : Int32) (x2 : Int32) (x6 : Int32) (y0 : Int32) : Option (qS) :=
  if ¬ (x1 &&& 1) = 1 then
    fCd_count_161 S x2 y0
  else
    if x2 = 0 then
      fCd_count_154 S x2 y0 x6 (S.1 14)
    else
      fCd_count_154 S x2 y0 x6 0
def fCd_count_76  (S : qS) (x1 : Int32) (x2 : Int32) (k3 : Nat) (x6 : Int32) (y1 : Int32) (y2 : Int32) : Option (qS) :=
  (fCo_has S 1).bind fun q1 =>
  (fCo_conclude q1.2 y1 y2 q1.1).bind fun S2 =>
  (fCd_store S2 k3 x6).bind fun S3 =>
  if x2 = 0 then
    if (S3.1 14) ≤ x6 then
      fCd_count_128 S3 x1 x2 x6 0
    else
      fCd_count_128 S3 x1 x2 x6 1
  else
    if x6 ≤ 0 then
      fCd_count_128 S3 x1 x2 x6 0
    else
      fCd_count_128 S3 x1 x2 x6 1
def fCd_count_49  (S : qS) (x1 : Int32) (x2 : Int32) (k3 : Nat) (y0 : Int64) : Option (qS) :=
  if (lg_cmp y0 y0.toInt32.toInt64) = 0 then
    fCd_count_76 S x1 x2 k3 y0.toInt32 y0.toInt32 0
  else
    fCd_count_76 S x1 x2 k3 y0.toInt32 y0.toInt32 1
def fCd_count_27  (S : qS) (x1 : Int32) (x2 : Int32) (ky0 : Nat) : Option (qS) :=
  if x2 = 0 then
    fCd_count_49 S x1 x2 ky0 (((S.1 (14 + 4 * ky0)).toInt64) + 1)
  else
    fCd_count_49 S x1 x2 ky0 (((S.1 (14 + 4 * ky0)).toInt64) - 1)
def fCd_count_11  (S : qS) (x1 : Int32) (y0 : Int32) : Option (qS) :=
  if y0 = 0 then
    fCd_count_27 S x1 y0 1
  else
    fCd_count_27 S x1 y0 0
def fCd_count  (S : qS) (a1 : Int32) : Option (qS) :=
  if 66 ≤ a1 then
    fCd_count_11 S a1 0
  else
    fCd_count_11 S a1 1
def fCd_noteOverflow_75  (S : qS) : Option (qS) :=
  some S
def fCd_noteOverflow_29  (S : qS) (y0 : Int32) : Option (qS) :=
  if y0 = 0 then
    fCd_noteOverflow_75 S
  else
    if ¬ (S.1 10) = 0 then
      fCd_noteOverflow_75 S
    else
      (fCo_has S 32).bind fun q3 =>
      if q3.1 = 0 then
        fCd_noteOverflow_75 q3.2
      else
        (fCo_has q3.2 2).bind fun q5 =>
        if q5.1 = 0 then
          fCd_noteOverflow_75 q5.2
        else
          fCd_noteOverflow_75 (pI q5.2 10 1)
def fCd_noteOverflow_28  (S : qS) : Option (qS) :=
  fCd_noteOverflow_29 S 0
def fCd_noteOverflow_24  (S : qS) : Option (qS) :=
  fCd_noteOverflow_29 S 1
def fCd_noteOverflow_12  (S : qS) (x1 : Int32) : Option (qS) :=
  if x1 < 64 then
    fCd_noteOverflow_28 S
  else
    if 67 < x1 then
      fCd_noteOverflow_28 S
    else
      fCd_noteOverflow_24 S
def fCd_noteOverflow  (S : qS) (a1 : Int32) : Option (qS) :=
  if a1 < 17 then
    fCd_noteOverflow_12 S a1
  else
    if a1 ≤ 41 then
      fCd_noteOverflow_24 S
    else
      fCd_noteOverflow_12 S a1
def fCd_execute_376  (S : qS) (x1 : Int32) : Option (qS) :=
  (fCd_noteOverflow S x1).bind fun S1 =>
  some S1
def fCd_execute_100  (S : qS) (x1 : Int32) : Option (qS) :=
  (fCd_leaveException S).bind fun S1 =>
  fCd_execute_376 S1 x1
def fCd_execute_107  (S : qS) (x1 : Int32) : Option (qS) :=
  (fCo_raise S 6).bind fun S1 =>
  fCd_execute_376 S1 x1
def fCd_execute_119  (S : qS) (x1 : Int32) : Option (qS) :=
  (fCd_leaveFrame S).bind fun S1 =>
  fCd_execute_376 S1 x1
def fCd_execute_126  (S : qS) (x1 : Int32) : Option (qS) :=
  (fCo_pop S).bind fun q1 =>
  (fCo_put q1.2 15 q1.1).bind fun S2 =>
  fCd_execute_376 S2 x1
def fCd_execute_145  (S : qS) (x1 : Int32) : Option (qS) :=
  (fCd_giveInner S (S.1 18) (S.1 14)).bind fun S1 =>
  fCd_execute_376 S1 x1
def fCd_execute_166  (S : qS) (x1 : Int32) : Option (qS) :=
  (fCd_takeInner S (S.1 14)).bind fun S1 =>
  fCd_execute_376 S1 x1
def fCd_execute_180  (S : qS) (x1 : Int32) : Option (qS) :=
  (fCd_store S 0 (S.1 6)).bind fun S1 =>
  fCd_execute_376 S1 x1
def fCd_execute_198  (S : qS) (x1 : Int32) : Option (qS) :=
  (fCd_shift S ((S.1 14).toInt8.toInt32) (S.1 18)).bind fun S1 =>
  fCd_execute_376 S1 x1
def fCd_execute_220  (S : qS) (x1 : Int32) : Option (qS) :=
  (fCd_enterFrame S).bind fun S1 =>
  fCd_execute_376 S1 x1
def fCd_execute_239  (S : qS) (x1 : Int32) (y1 : Int32) : Option (qS) :=
  (fCd_probe S y1).bind fun S1 =>
  fCd_execute_376 S1 x1
def fCd_execute_227  (S : qS) (x1 : Int32) : Option (qS) :=
  if ¬ x1 = 70 then
    fCd_execute_239 S x1 0
  else
    fCd_execute_239 S x1 1
def fCd_execute_365  (S : qS) (x1 : Int32) : Option (qS) :=
  if x1 ≤ 63 then
    fCd_execute_376 S x1
  else
    (fCd_count S x1).bind fun S2 =>
    fCd_execute_376 S2 x1
def fCd_execute_345  (S : qS) (x1 : Int32) : Option (qS) :=
  if x1 ≤ 49 then
    fCd_execute_365 S x1
  else
    if 63 < x1 then
      fCd_execute_365 S x1
    else
      (fCd_branch S x1).bind fun S3 =>
      fCd_execute_376 S3 x1
def fCd_execute_325  (S : qS) (x1 : Int32) : Option (qS) :=
  if x1 ≤ 45 then
    fCd_execute_345 S x1
  else
    if 49 < x1 then
      fCd_execute_345 S x1
    else
      (fCd_go S x1).bind fun S3 =>
      fCd_execute_376 S3 x1
def fCd_execute_305  (S : qS) (x1 : Int32) : Option (qS) :=
  if x1 ≤ 41 then
    fCd_execute_325 S x1
  else
    if 45 < x1 then
      fCd_execute_325 S x1
    else
      (fCd_handAddress S x1).bind fun S3 =>
      fCd_execute_376 S3 x1
def fCd_execute_285  (S : qS) (x1 : Int32) : Option (qS) :=
  if x1 ≤ 24 then
    fCd_execute_305 S x1
  else
    if 41 ≤ x1 then
      fCd_execute_305 S x1
    else
      (fCd_calculate S x1).bind fun S3 =>
      fCd_execute_376 S3 x1
def fCd_execute_265  (S : qS) (x1 : Int32) : Option (qS) :=
  if x1 ≤ 20 then
    fCd_execute_285 S x1
  else
    if 24 < x1 then
      fCd_execute_285 S x1
    else
      (fCd_compare S x1).bind fun S3 =>
      fCd_execute_376 S3 x1
def fCd_execute_245  (S : qS) (x1 : Int32) : Option (qS) :=
  if x1 < 13 then
    fCd_execute_265 S x1
  else
    if 20 < x1 then
      fCd_execute_265 S x1
    else
      (fCd_move S x1).bind fun S3 =>
      fCd_execute_376 S3 x1
def fCd_execute  (S : qS) (a1 : Int32) : Option (qS) :=
  if a1 = 2 then
    fCd_execute_100 S a1
  else
  if a1 = 3 then
    fCd_execute_107 S a1
  else
  if a1 = 4 then
    fCd_execute_119 S a1
  else
  if a1 = 5 then
    fCd_execute_126 S a1
  else
  if a1 = 10 then
    fCd_execute_145 S a1
  else
  if a1 = 11 then
    fCd_execute_166 S a1
  else
  if a1 = 12 then
    fCd_execute_180 S a1
  else
  if a1 = 41 then
    fCd_execute_198 S a1
  else
  if a1 = 68 then
    fCd_execute_220 S a1
  else
  if a1 = 69 then
    fCd_execute_227 S a1
  else
  if a1 = 70 then
    fCd_execute_227 S a1
  else
  fCd_execute_245 S a1
def fCo_takeBack  (S : qS) : Option (qS) :=
  some (cpA (cpA (pI S 6 (S.1 5)) 3 0 2 0 16) 4 0 1 0 4)
def fX_except_110  (S : qS) (x1 : Int32) : Option (qS) :=
  if (S.1 7) = 0 then
    (fSt_longAt S ((gA S 1 17) + (4 * x1))).bind fun q2 =>
    (fCo_put q2.2 15 q2.1).bind fun S3 =>
    some S3
  else
    (fCo_takeBack S).bind fun S4 =>
    some (pI S4 0 2)
def fX_except_96  (S : qS) (x1 : Int32) (x3 : Int32) (x5 : Int32) : Option (qS) :=
  if x3 ≤ 1 then
    fX_except_110 S x1
  else
    (fCo_push S x5).bind fun S2 =>
    fX_except_110 S2 x1
def fX_except  (S : qS) (a1 : Int32) (a2 : Int32) (a3 : Int32) (a4 : Int32) (a5 : Int32) : Option (qS) :=
  (fCo_mode (pI (pI (pI S 2 a1) 3 (((pI S 2 a1).1 3) + 1)) 7 0)).bind fun q1 =>
  (fCo_push (pI q1.2 6 ((a2 <<< ((24 : Int32) &&& 31)) ||| (q1.1 <<< ((22 : Int32) &&& 31)))) ((pI (pI (pI S 2 a1) 3 (((pI S 2 a1).1 3) + 1)) 7 0).1 6)).bind fun S2 =>
  (fCo_get S2 15).bind fun q3 =>
  (fCo_push q3.2 q3.1).bind fun S4 =>
  if a3 ≤ 0 then
    fX_except_96 S4 a1 a3 a5
  else
    (fCo_push S4 a4).bind fun S6 =>
    fX_except_96 S6 a1 a3 a5
def fX_settle_171  (S : qS) : Option (qS) :=
  some S
def fX_settle_145  (S : qS) : Option (qS) :=
  if (S.1 10) = 0 then
    fX_settle_171 S
  else
    (fX_except S 7 0 1 (S.1 10) 0).bind fun S2 =>
    fX_settle_171 S2
def fX_settle_63  (S : qS) (y1 : Int32) (y2 : Int32) (y3 : Int32) : Option (qS) :=
  (fX_except S y1 y2 y3 (S.1 8) (S.1 9)).bind fun S1 =>
  fX_settle_171 S1
def fX_settle_44  (S : qS) (y0 : Int32) : Option (qS) :=
  if y0 = 0 then
    fX_settle_63 S (S.1 7) 0 0
  else
    fX_settle_63 S (S.1 7) 0 2
def fX_settle_39  (S : qS) : Option (qS) :=
  fX_settle_44 S 1
def fX_settle  (S : qS) (a1 : Int32) : Option (qS) :=
  if (S.1 7) = 0 then
    if ¬ a1 = 0 then
      if a1 < 6 then
        fX_settle_145 S
      else
        if 9 < a1 then
          fX_settle_145 S
        else
          (fCo_mode S).bind fun q5 =>
          (fX_except q5.2 (8 + (a1 - 6)) (if q5.1 < (a1 - 6) then q5.1 else (a1 - 6)) 1 (q5.2.1 14) 0).bind fun S6 =>
          fX_settle_171 S6
    else
      fX_settle_171 (pI S 0 1)
  else
    (fCo_takeBack S).bind fun S7 =>
    if (S7.1 7) = 4 then
      fX_settle_39 S7
    else
      if ¬ (S7.1 7) = 5 then
        fX_settle_44 S7 0
      else
        fX_settle_39 S7
def fX_step_115  (S : qS) (x1 : Int32) : Option (qS) :=
  (fX_settle S x1).bind fun S1 =>
  some S1
def fX_step_97  (S : qS) (x1 : Int32) : Option (qS) :=
  if ¬ (S.1 7) = 0 then
    fX_step_115 S x1
  else
    (fCd_execute S x1).bind fun S2 =>
    fX_step_115 S2 x1
def fX_step_46 : Nat → qS → Int32 → Nat → Int32 → Option (qS)
  | 0, _, _, _, _ => none
  | n + 1, S, x1, j2, x3 =>
      chk (decide (j2 < 24)) <|
      if (slen j2) ≤ x3 then
        fX_step_97 S x1
      else
        if 3 ≤ x3 then
          fX_step_97 S x1
        else
          if ¬ (S.1 7) = 0 then
            fX_step_97 S x1
          else
            chk (inb x3 3) <|
            chk (inbs j2 x3) <|
            (fSp_find S x3.toNatClampNeg (schr j2 x3)).bind fun S7 =>
            (fX_step_46 n) S7 x1 j2 (x3 + 1)
def fX_step_35  (S : qS) (x1 : Int32) : Option (qS) :=
  (fCd_shapeOf S x1).bind fun q1 =>
  fX_step_46 300 q1.2 x1 q1.1 0
def fX_step  (S : qS) : Option (qS) :=
  (fCo_keep S).bind fun S1 =>
  (fCo_fetch S1 1).bind fun q2 =>
  (fCd_isAllowed q2.2 q2.1).bind fun q3 =>
  if ¬ q3.1 = 0 then
    fX_step_35 q3.2 q2.1
  else
    (fCo_raise q3.2 1).bind fun S5 =>
    fX_step_35 S5 q2.1
def fX_run_12  (S : qS) : Option (Int32 × qS) :=
  none
def fX_run_63  (S : qS) (x2 : Int32) : Option (Int32 × qS) :=
  some (x2, (pI S 1 ((S.1 1) + x2)))
def fX_run_41 : Nat → qS → Int32 → Int32 → Option (Int32 × qS)
  | 0, _, _, _ => none
  | n + 1, S, x1, x2 =>
      if x1 ≤ x2 then
        fX_run_63 S x2
      else
        if ¬ (S.1 0) = 0 then
          fX_run_63 S x2
        else
          (fX_step S).bind fun S3 =>
          (fX_run_41 n) S3 x1 (x2 + 1)
def fX_run  (S : qS) (a1 : Int32) : Option (Int32 × qS) :=
  if a1 < 1 then
    fX_run_12 S
  else
    if a1 ≤ 200 then
      if (S.1 0) = 0 then
        fX_run_41 300 S a1 0
      else
        none
    else
      fX_run_12 S
def fX_reach_9  (S : qS) : Option (Int32 × qS) :=
  none
def fX_reach  (S : qS) (a1 : Int32) (a2 : Int32) (a3 : Int32) : Option (Int32 × qS) :=
  if a3 < 0 then
    fX_reach_9 S
  else
    if a3 < 4 then
      (fPg_locate S a1 a2 a3).bind fun q3 =>
      some (q3.1, q3.2)
    else
      fX_reach_9 S
def fX_state_32  (S : qS) : Option (Int32 × qS) :=
  some (S.1 0, S)
def fX_state_37  (S : qS) : Option (Int32 × qS) :=
  some (S.1 1, S)
def fX_state_42  (S : qS) : Option (Int32 × qS) :=
  some (S.1 2, S)
def fX_state_47  (S : qS) : Option (Int32 × qS) :=
  some (S.1 3, S)
def fX_state_52  (S : qS) : Option (Int32 × qS) :=
  some ((-1), S)
def fX_state  (S : qS) (a1 : Int32) : Option (Int32 × qS) :=
  if a1.toInt < 0 ∨ 3 < a1.toInt then
    fX_state_52 S
  else
  if a1 = 0 then
    fX_state_32 S
  else
  if a1 = 1 then
    fX_state_37 S
  else
  if a1 = 2 then
    fX_state_42 S
  else
  if a1 = 3 then
    fX_state_47 S
  else
  none
def fM_thrown  (S : qS) : Option (Int32 × qS) :=
  some (S.1 0, S)
def fM_fill_8 : Nat → qS → Int32 → Int64 → Int32 → Option (qS)
  | 0, _, _, _, _ => none
  | n + 1, S, x1, x2, x4 =>
      if 8 ≤ x4 then
        some S
      else
        chk (inb ((x1 + x4) &&& 2047) 2048) <|
        (fM_fill_8 n) (pA S 0 ((x1 + x4) &&& 2047) (((x2 >>> ((8 * x4).toInt64 &&& 63)) &&& 255).toInt32)) x1 x2 (x4 + 1)
def fM_fill  (S : qS) (a1 : Int32) (a2 : Int64) : Option (qS) :=
  fM_fill_8 300 (pI S 0 0) a1 a2 0
def fM_bare_11 : Nat → qS → Int32 → Int32 → Int32 → Option (Int32 × qS)
  | 0, _, _, _, _ => none
  | n + 1, S, x2, x3, x4 =>
      if x4 < 0 then
        some (x3, S)
      else
        chk (inb ((x2 + x4) &&& 2047) 2048) <|
        (fM_bare_11 n) S x2 ((x3 <<< ((8 : Int32) &&& 31)) ||| (gA S 0 ((x2 + x4) &&& 2047))) (x4 + (-1))
def fM_bare  (S : qS) (a1 : Int32) : Option (Int32 × qS) :=
  fM_bare_11 300 S (a1 &&& 2047) 0 3
def fM_look  (S : qS) (a1 : Int32) : Option (Int32 × qS) :=
  (fM_bare (pI S 0 0) a1).bind fun q1 =>
  some (q1.1, q1.2)
def fM_mode  (S : qS) : Option (Int32 × qS) :=
  some (((S.1 1) >>> ((24 : Int32) &&& 31)) &&& 3, S)
def fM_put_26  (S : qS) : Option (qS) :=
  some S
def fM_put  (S : qS) (a1 : Int32) (a2 : Int32) : Option (qS) :=
  if ¬ a1 = 14 then
    chk (inb a1 16) <|
    fM_put_26 (pA S 1 a1 a2)
  else
    (fM_mode S).bind fun q3 =>
    chk (inb q3.1 57) <|
    fM_put_26 (pA q3.2 2 q3.1 a2)
def fM_set_32  (S : qS) : Option (qS) :=
  some S
def fM_set_16  (S : qS) (x1 : Int32) (x2 : Int32) (y1 : Int32) : Option (qS) :=
  if ¬ ((pI S 0 y1).1 0) = 0 then
    fM_set_32 (pI S 0 y1)
  else
    (fM_put (pI S 0 y1) x1 x2).bind fun S2 =>
    fM_set_32 S2
def fM_set_11  (S : qS) (x1 : Int32) (x2 : Int32) : Option (qS) :=
  fM_set_16 S x1 x2 1
def fM_set  (S : qS) (a1 : Int32) (a2 : Int32) : Option (qS) :=
  if a1 < 0 then
    fM_set_11 S a1 a2
  else
    if a1 ≤ 15 then
      fM_set_16 S a1 a2 0
    else
      fM_set_11 S a1 a2
def fM_fail  (S : qS) (a1 : Int32) : Option (Int32 × qS) :=
  some (0, (pI S 0 a1))
def fM_get_24  (S : qS) (y0 : Int32) : Option (Int32 × qS) :=
  some (y0, S)
def fM_get  (S : qS) (a1 : Int32) : Option (Int32 × qS) :=
  if ¬ a1 = 14 then
    chk (inb a1 16) <|
    fM_get_24 S (gA S 1 a1)
  else
    (fM_mode S).bind fun q3 =>
    chk (inb q3.1 57) <|
    fM_get_24 q3.2 (gA q3.2 2 q3.1)
def fM_register_10  (S : qS) : Option (Int32 × qS) :=
  (fM_fail S 1).bind fun q1 =>
  some (q1.1, q1.2)
def fM_register  (S : qS) (a1 : Int32) : Option (Int32 × qS) :=
  if a1 < 0 then
    fM_register_10 S
  else
    if a1 ≤ 15 then
      (fM_get (pI S 0 0) a1).bind fun q3 =>
      some (q3.1, q3.2)
    else
      fM_register_10 S
def fM_isInner_38  (S : qS) (y0 : Int32) : Option (Int32 × qS) :=
  chk (isB y0) (some (y0, S))
def fM_isInner_33  (S : qS) : Option (Int32 × qS) :=
  fM_isInner_38 S 1
def fM_isInner_21  (S : qS) (x0 : Int32) : Option (Int32 × qS) :=
  if x0 = 17 then
    fM_isInner_33 S
  else
    if ¬ x0 = 56 then
      fM_isInner_38 S 0
    else
      fM_isInner_33 S
def fM_isInner_9  (S : qS) (x0 : Int32) : Option (Int32 × qS) :=
  if x0 ≤ 7 then
    fM_isInner_21 S x0
  else
    if x0 < 14 then
      fM_isInner_33 S
    else
      fM_isInner_21 S x0
def fM_isInner  (S : qS) (a0 : Int32) : Option (Int32 × qS) :=
  if a0 < 0 then
    fM_isInner_9 S a0
  else
    if a0 < 4 then
      fM_isInner_33 S
    else
      fM_isInner_9 S a0
def fM_setInner_44  (S : qS) : Option (qS) :=
  some S
def fM_setInner_43  (S : qS) (y1 : Int32) (y2 : Int32) : Option (qS) :=
  chk (inb y1 57) <|
  fM_setInner_44 (pA S 2 y1 y2)
def fM_setInner_42  (S : qS) (x2 : Int32) (y1 : Int32) : Option (qS) :=
  fM_setInner_43 S y1 x2
def fM_setInner_13  (S : qS) (x1 : Int32) (x2 : Int32) (y1 : Int32) : Option (qS) :=
  if ¬ ((pI S 0 y1).1 0) = 0 then
    fM_setInner_44 (pI S 0 y1)
  else
    if ¬ x1 = 56 then
      fM_setInner_42 (pI S 0 y1) x2 x1
    else
      if x2 = 0 then
        fM_setInner_42 (pI S 0 y1) x2 x1
      else
        fM_setInner_43 (pI S 0 y1) x1 1
def fM_setInner  (S : qS) (a1 : Int32) (a2 : Int32) : Option (qS) :=
  (fM_isInner S a1).bind fun q1 =>
  if q1.1 = 0 then
    fM_setInner_13 q1.2 a1 a2 1
  else
    fM_setInner_13 q1.2 a1 a2 0
def fM_inner  (S : qS) (a1 : Int32) : Option (Int32 × qS) :=
  (fM_isInner S a1).bind fun q1 =>
  if ¬ q1.1 = 0 then
    chk (inb a1 57) <|
    some (gA (pI q1.2 0 0) 2 a1, (pI q1.2 0 0))
  else
    (fM_fail q1.2 1).bind fun q4 =>
    some (q4.1, q4.2)
def fM_begin_40  (S : qS) : Option (qS) :=
  some S
def fM_begin_28  (S : qS) : Option (qS) :=
  if ¬ (S.1 0) = 0 then
    fM_begin_40 S
  else
    fM_begin_40 (pI S 2 0)
def fM_begin_13  (S : qS) (x1 : Int32) (y1 : Int32) : Option (qS) :=
  if ¬ ((pI S 0 y1).1 0) = 0 then
    fM_begin_28 (pI S 0 y1)
  else
    fM_begin_28 (pI (pI S 0 y1) 1 x1)
def fM_begin  (S : qS) (a1 : Int32) : Option (qS) :=
  if (a1 &&& (-62914608)) = 0 then
    fM_begin_13 S a1 0
  else
    fM_begin_13 S a1 1
def fM_status  (S : qS) : Option (Int32 × qS) :=
  some ((pI S 0 0).1 1, (pI S 0 0))
def fM_keep_28 : Nat → qS → Int32 → Option (qS)
  | 0, _, _ => none
  | n + 1, S, x1 =>
      if 4 ≤ x1 then
        some (pI S 6 (S.1 1))
      else
        chk (inb x1 57) <|
        chk (inb x1 4) <|
        (fM_keep_28 n) (pA S 4 x1 (gA S 2 x1)) (x1 + 1)
def fM_keep_2 : Nat → qS → Int32 → Option (qS)
  | 0, _, _ => none
  | n + 1, S, x1 =>
      if 16 ≤ x1 then
        fM_keep_28 300 S 0
      else
        chk (inb x1 16) <|
        chk (inb x1 16) <|
        (fM_keep_2 n) (pA S 3 x1 (gA S 1 x1)) (x1 + 1)
def fM_keep  (S : qS) : Option (qS) :=
  fM_keep_2 300 S 0
def fM_below_16  (S : qS) (y0 : Int32) : Option (Int32 × qS) :=
  chk (isB y0) (some (y0, S))
def fM_below  (S : qS) (a0 : Int32) (a1 : Int32) : Option (Int32 × qS) :=
  if (a1 ^^^ (-2147483648)) ≤ (a0 ^^^ (-2147483648)) then
    fM_below_16 S 0
  else
    fM_below_16 S 1
def fM_find_357  (S : qS) (y0 : Int32) : Option (Int32 × qS) :=
  some (y0, S)
def fM_find_331  (S : qS) (x1 : Int32) (x4 : Int32) (x8 : Int32) : Option (Int32 × qS) :=
  if x8 < 0 then
    fM_find_357 S ((64 * (x8 &&& 31)) + (x1 &&& 63))
  else
    fM_find_357 S ((-60) - x4)
def fM_find_325  (S : qS) (x4 : Int32) : Option (Int32 × qS) :=
  some ((-50) - x4, S)
def fM_find_271  (S : qS) (x1 : Int32) (x2 : Int32) (x3 : Int32) (x4 : Int32) : Option (Int32 × qS) :=
  (fM_bare S (S.1 11)).bind fun q1 =>
  if x2 = 0 then
    if x3 ≤ ((q1.1 >>> ((27 : Int32) &&& 31)) &&& 3) then
      fM_find_331 q1.2 x1 x4 q1.1
    else
      fM_find_325 q1.2 x4
  else
    if ((q1.1 >>> ((27 : Int32) &&& 31)) &&& 3) < ((q1.1 >>> ((29 : Int32) &&& 31)) &&& 3) then
      fM_find_325 q1.2 x4
    else
      if x3 ≤ ((q1.1 >>> ((29 : Int32) &&& 31)) &&& 3) then
        fM_find_331 q1.2 x1 x4 q1.1
      else
        fM_find_325 q1.2 x4
def fM_find_214  (S : qS) (x4 : Int32) : Option (Int32 × qS) :=
  some ((-53) - x4, S)
def fM_find_122  (S : qS) (x1 : Int32) (x2 : Int32) (x3 : Int32) (x4 : Int32) (x5 : Int32) (x6 : Int32) (y0 : Int32) : Option (Int32 × qS) :=
  if ¬ y0 = 0 then
    if 2 ≤ x5 then
      fM_find_271 (pI S 11 (((gA S 2 12) + (4 * x6)) &&& 2047)) x1 x2 x3 x4
    else
      chk (inb (8 + (2 * x5)) 57) <|
      if ¬ (ushr ((gA (pI S 11 (((gA S 2 12) + (4 * x6)) &&& 2047)) 2 (8 + (2 * x5))) + (4 * x6)) 30) = 2 then
        fM_find_214 (pI S 11 (((gA S 2 12) + (4 * x6)) &&& 2047)) x4
      else
        (fM_below (pI S 11 (((gA S 2 12) + (4 * x6)) &&& 2047)) ((ushr ((gA (pI S 11 (((gA S 2 12) + (4 * x6)) &&& 2047)) 2 (8 + (2 * x5))) + (4 * x6)) 6) &&& 16777215) (gA (pI S 11 (((gA S 2 12) + (4 * x6)) &&& 2047)) 2 13)).bind fun q5 =>
        if ¬ q5.1 = 0 then
          (fM_bare q5.2 ((gA q5.2 2 12) + (4 * ((ushr ((gA (pI S 11 (((gA S 2 12) + (4 * x6)) &&& 2047)) 2 (8 + (2 * x5))) + (4 * x6)) 6) &&& 16777215)))).bind fun q7 =>
          if q7.1 < 0 then
            fM_find_271 (pI q7.2 11 (((64 * (q7.1 &&& 31)) + (((gA (pI S 11 (((gA S 2 12) + (4 * x6)) &&& 2047)) 2 (8 + (2 * x5))) + (4 * x6)) &&& 63)) &&& 2047)) x1 x2 x3 x4
          else
            some ((-62) - x4, q7.2)
        else
          fM_find_214 q5.2 x4
  else
    some ((-51) - x4, S)
def fM_find_121  (S : qS) (x1 : Int32) (x2 : Int32) (x3 : Int32) (x4 : Int32) (x5 : Int32) (x6 : Int32) : Option (Int32 × qS) :=
  fM_find_122 S x1 x2 x3 x4 x5 x6 0
def fM_find_30  (S : qS) (x1 : Int32) (x2 : Int32) (x3 : Int32) (y0 : Int32) : Option (Int32 × qS) :=
  if ¬ (ushr x1 30) = 0 then
    if ¬ (ushr x1 30) = 1 then
      if ¬ (ushr x1 30) = 2 then
        fM_find_121 S x1 x2 x3 y0 (ushr x1 30) ((ushr x1 6) &&& 16777215)
      else
        (fM_below S ((ushr x1 6) &&& 16777215) (gA S 2 13)).bind fun q4 =>
        if q4.1 = 0 then
          fM_find_121 q4.2 x1 x2 x3 y0 (ushr x1 30) ((ushr x1 6) &&& 16777215)
        else
          fM_find_122 q4.2 x1 x2 x3 y0 (ushr x1 30) ((ushr x1 6) &&& 16777215) 1
    else
      (fM_below S ((ushr x1 6) &&& 16777215) (gA S 2 11)).bind fun q6 =>
      if ¬ q6.1 = 0 then
        fM_find_122 q6.2 x1 x2 x3 y0 (ushr x1 30) ((ushr x1 6) &&& 16777215) 0
      else
        fM_find_122 q6.2 x1 x2 x3 y0 (ushr x1 30) ((ushr x1 6) &&& 16777215) 1
  else
    (fM_below S ((ushr x1 6) &&& 16777215) (gA S 2 9)).bind fun q8 =>
    fM_find_122 q8.2 x1 x2 x3 y0 (ushr x1 30) ((ushr x1 6) &&& 16777215) q8.1
def fM_find  (S : qS) (a1 : Int32) (a2 : Int32) (a3 : Int32) : Option (Int32 × qS) :=
  if ¬ (gA (pI S 11 (-1)) 2 56) = 0 then
    if a2 = 0 then
      fM_find_30 (pI S 11 (-1)) a1 a2 a3 0
    else
      fM_find_30 (pI S 11 (-1)) a1 a2 a3 4
  else
    some (a1 &&& 2047, (pI S 11 (-1)))
def fM_wrong  (S : qS) (a1 : Int32) (a2 : Int32) (a3 : Int32) : Option (qS) :=
  if (S.1 7) = 0 then
    some (pI (pI (pI S 7 a1) 8 a2) 9 a3)
  else
    some S
def fM_readByte_55  (S : qS) (y0 : Int32) : Option (Int32 × qS) :=
  some (y0, S)
def fM_readByte_45  (S : qS) : Option (Int32 × qS) :=
  fM_readByte_55 S 0
def fM_readByte_34  (S : qS) (x2 : Int32) : Option (Int32 × qS) :=
  if x2 < 0 then
    fM_readByte_45 S
  else
    if (S.1 7) = 0 then
      chk (inb x2 2048) <|
      fM_readByte_55 S (gA S 0 x2)
    else
      fM_readByte_45 S
def fM_readByte  (S : qS) (a1 : Int32) : Option (Int32 × qS) :=
  (fM_mode S).bind fun q1 =>
  (fM_find q1.2 a1 0 q1.1).bind fun q2 =>
  if 0 ≤ q2.1 then
    fM_readByte_34 q2.2 q2.1
  else
    (fM_wrong q2.2 (((-10) - q2.1) / 10) a1 (((-10) - q2.1) - ((-10) - q2.1) / 10 * 10)).bind fun S4 =>
    fM_readByte_34 S4 q2.1
def fM_next  (S : qS) : Option (Int32 × qS) :=
  (fM_readByte S (gA S 1 15)).bind fun q1 =>
  some (q1.1, (pA q1.2 1 15 ((gA q1.2 1 15) + 1)))
def fM_shape_26  (S : qS) : Option (Int32 × qS) :=
  some (9, S)
def fM_shape_41  (S : qS) : Option (Int32 × qS) :=
  some (297, S)
def fM_shape_69  (S : qS) : Option (Int32 × qS) :=
  some (329, S)
def fM_shape_85  (S : qS) : Option (Int32 × qS) :=
  some (10, S)
def fM_shape_109  (S : qS) : Option (Int32 × qS) :=
  some (321, S)
def fM_shape_274  (S : qS) (y0 : Int32) : Option (Int32 × qS) :=
  some (y0, S)
def fM_shape_219  (S : qS) (y0 : Int32) : Option (Int32 × qS) :=
  some (y0, S)
def fM_shape_196  (S : qS) (y0 : Int32) : Option (Int32 × qS) :=
  some (y0 + 320, S)
def fM_shape  (S : qS) (a0 : Int32) : Option (Int32 × qS) :=
  if 6 ≤ a0 then
    if a0 < 10 then
      fM_shape_26 S
    else
      if a0 = 21 then
        fM_shape_26 S
      else
        if ¬ a0 = 44 then
          if a0 = 10 then
            fM_shape_41 S
          else
            if ¬ a0 = 23 then
              if a0 = 11 then
                fM_shape_69 S
              else
                if a0 = 14 then
                  fM_shape_69 S
                else
                  if a0 = 18 then
                    fM_shape_69 S
                  else
                    if ¬ a0 = 19 then
                      if a0 = 12 then
                        fM_shape_85 S
                      else
                        if ¬ a0 = 20 then
                          if ¬ a0 = 13 then
                            if a0 = 15 then
                              fM_shape_109 S
                            else
                              if ¬ a0 = 16 then
                                if ¬ a0 = 17 then
                                  if ¬ a0 = 22 then
                                    if ¬ a0 = 24 then
                                      if 27 ≤ a0 then
                                        if 34 ≤ a0 then
                                          if 41 ≤ a0 then
                                            if ¬ a0 = 41 then
                                              if 44 ≤ a0 then
                                                if 48 ≤ a0 then
                                                  if 62 ≤ a0 then
                                                    if 64 ≤ a0 then
                                                      if 66 ≤ a0 then
                                                        if 68 ≤ a0 then
                                                          if ¬ a0 = 68 then
                                                            fM_shape_274 S 4385
                                                          else
                                                            fM_shape_274 S 137
                                                        else
                                                          some (16745, S)
                                                      else
                                                        some (523, S)
                                                    else
                                                      some (521, S)
                                                  else
                                                    some (16, S)
                                                else
                                                  if ¬ a0 = 45 then
                                                    fM_shape_219 S 4
                                                  else
                                                    fM_shape_219 S 12
                                              else
                                                if ¬ a0 = 42 then
                                                  fM_shape_196 S 4
                                                else
                                                  fM_shape_196 S 12
                                            else
                                              some (10529, S)
                                          else
                                            some (10537, S)
                                        else
                                          some (361, S)
                                      else
                                        some (11, S)
                                    else
                                      some (33, S)
                                  else
                                    some (1, S)
                                else
                                  some (73, S)
                              else
                                fM_shape_109 S
                          else
                            some (65, S)
                        else
                          fM_shape_85 S
                    else
                      fM_shape_69 S
            else
              fM_shape_41 S
        else
          fM_shape_26 S
  else
    some (0, S)
def fM_signed  (S : qS) (a0 : Int32) : Option (Int32 × qS) :=
  some ((a0 <<< ((24 : Int32) &&& 31)) >>> ((24 : Int32) &&& 31), S)
def fM_readLong_4 : Nat → qS → Int32 → Int32 → Int32 → Option (Int32 × qS)
  | 0, _, _, _, _ => none
  | n + 1, S, x1, x2, x3 =>
      if 4 ≤ x3 then
        some (x2, S)
      else
        (fM_readByte S (x1 + x3)).bind fun q2 =>
        (fM_readLong_4 n) q2.2 x1 (x2 ||| (q2.1 <<< ((8 * x3) &&& 31))) (x3 + 1)
def fM_readLong  (S : qS) (a1 : Int32) : Option (Int32 × qS) :=
  fM_readLong_4 300 S a1 0 0
def fM_operand_503  (S : qS) : Option (qS) :=
  some S
def fM_operand_502  (S : qS) (y1 : Int32) (y2 : Int32) : Option (qS) :=
  chk (inb y1 3) <|
  fM_operand_503 (pA S 5 y1 y2)
def fM_operand_476  (S : qS) (x1 : Int32) (x4 : Int32) (x9 : Int32) : Option (qS) :=
  if ¬ x4 = 4 then
    (fM_readByte S x9).bind fun q2 =>
    fM_operand_502 q2.2 x1 q2.1
  else
    (fM_readLong S x9).bind fun q3 =>
    fM_operand_502 q3.2 x1 q3.1
def fM_operand_458  (S : qS) (x1 : Int32) (x3 : Int32) (x4 : Int32) (x9 : Int32) : Option (qS) :=
  chk (inb x1 3) <|
  if x3 = 1 then
    fM_operand_476 (pA S 7 x1 x9) x1 x4 x9
  else
    if ¬ x3 = 3 then
      fM_operand_503 (pA S 7 x1 x9)
    else
      fM_operand_476 (pA S 7 x1 x9) x1 x4 x9
def fM_operand_439  (S : qS) (x1 : Int32) (x3 : Int32) (x4 : Int32) (x6 : Int32) (x9 : Int32) : Option (qS) :=
  if x6 < 0 then
    fM_operand_458 S x1 x3 x4 x9
  else
    (fM_get S x6).bind fun q2 =>
    fM_operand_458 q2.2 x1 x3 x4 (x9 + (x4 * q2.1))
def fM_operand_431  (S : qS) (x1 : Int32) (x3 : Int32) (x4 : Int32) (x6 : Int32) (x9 : Int32) : Option (qS) :=
  (fM_readLong S x9).bind fun q1 =>
  fM_operand_439 q1.2 x1 x3 x4 x6 q1.1
def fM_operand_410  (S : qS) (x1 : Int32) (x3 : Int32) (x4 : Int32) (x6 : Int32) (x7 : Int32) (x9 : Int32) : Option (qS) :=
  if x7 = 9 then
    fM_operand_431 S x1 x3 x4 x6 x9
  else
    if x7 = 11 then
      fM_operand_431 S x1 x3 x4 x6 x9
    else
      if ¬ x7 = 15 then
        fM_operand_439 S x1 x3 x4 x6 x9
      else
        fM_operand_431 S x1 x3 x4 x6 x9
def fM_operand_397  (S : qS) (x1 : Int32) (x3 : Int32) (x4 : Int32) (x6 : Int32) (x7 : Int32) (x8 : Int32) (y0 : Int32) : Option (qS) :=
  (fM_get S x8).bind fun q1 =>
  fM_operand_410 q1.2 x1 x3 x4 x6 x7 (q1.1 + y0)
def fM_operand_345  (S : qS) (x1 : Int32) (x3 : Int32) (x4 : Int32) (x6 : Int32) (x7 : Int32) (x8 : Int32) (x9 : Int32) : Option (qS) :=
  if x7 ≤ 9 then
    fM_operand_410 S x1 x3 x4 x6 x7 x9
  else
    if 12 ≤ x7 then
      (fM_next S).bind fun q3 =>
      (fM_next q3.2).bind fun q4 =>
      (fM_next q4.2).bind fun q5 =>
      (fM_next q5.2).bind fun q6 =>
      fM_operand_397 q6.2 x1 x3 x4 x6 x7 x8 (((q3.1 ||| (q4.1 <<< ((8 : Int32) &&& 31))) ||| (q5.1 <<< ((16 : Int32) &&& 31))) ||| (q6.1 <<< ((24 : Int32) &&& 31)))
    else
      (fM_next S).bind fun q7 =>
      (fM_signed q7.2 q7.1).bind fun q8 =>
      fM_operand_397 q8.2 x1 x3 x4 x6 x7 x8 q8.1
def fM_operand_328  (S : qS) (x1 : Int32) (x3 : Int32) (x4 : Int32) (x6 : Int32) (x7 : Int32) (x8 : Int32) (x9 : Int32) : Option (qS) :=
  if ¬ x7 = 9 then
    fM_operand_345 S x1 x3 x4 x6 x7 x8 x9
  else
    (fM_put S x8 (x9 + 4)).bind fun S2 =>
    fM_operand_345 S2 x1 x3 x4 x6 x7 x8 x9
def fM_operand_325  (S : qS) (x1 : Int32) (x3 : Int32) (x4 : Int32) (x6 : Int32) (x7 : Int32) (x8 : Int32) (x9 : Int32) (y1 : Int32) (y2 : Int32) : Option (qS) :=
  (fM_put S y1 y2).bind fun S1 =>
  fM_operand_328 S1 x1 x3 x4 x6 x7 x8 x9
def fM_operand_305  (S : qS) (x1 : Int32) (x3 : Int32) (x4 : Int32) (x6 : Int32) (x7 : Int32) (x8 : Int32) (x9 : Int32) : Option (qS) :=
  if ¬ x7 = 7 then
    fM_operand_325 S x1 x3 x4 x6 x7 x8 x9 x8 (x9 + x4)
  else
    fM_operand_325 S x1 x3 x4 x6 x7 x8 x9 x8 x9
def fM_operand_291  (S : qS) (x1 : Int32) (x3 : Int32) (x4 : Int32) (x6 : Int32) (x7 : Int32) (x8 : Int32) (x9 : Int32) : Option (qS) :=
  if x7 = 7 then
    fM_operand_305 S x1 x3 x4 x6 x7 x8 x9
  else
    if ¬ x7 = 8 then
      fM_operand_328 S x1 x3 x4 x6 x7 x8 x9
    else
      fM_operand_305 S x1 x3 x4 x6 x7 x8 x9
def fM_operand_275  (S : qS) (x1 : Int32) (x3 : Int32) (x4 : Int32) (x6 : Int32) (x7 : Int32) (x8 : Int32) (y0 : Int32) : Option (qS) :=
  if ¬ x7 = 7 then
    fM_operand_291 S x1 x3 x4 x6 x7 x8 y0
  else
    fM_operand_291 S x1 x3 x4 x6 x7 x8 (y0 - x4)
def fM_operand_249  (S : qS) (x1 : Int32) (x3 : Int32) (x4 : Int32) (x6 : Int32) (x7 : Int32) (x8 : Int32) (y1 : Int32) (y2 : Int32) : Option (qS) :=
  chk (inb y1 3) <|
  if 6 ≤ x7 then
    if 10 ≤ x7 then
      fM_operand_275 (pA S 5 y1 y2) x1 x3 x4 x6 x7 x8 0
    else
      (fM_get (pA S 5 y1 y2) x8).bind fun q4 =>
      fM_operand_275 q4.2 x1 x3 x4 x6 x7 x8 q4.1
  else
    some (pA S 5 y1 y2)
def fM_operand_207  (S : qS) (x1 : Int32) (x3 : Int32) (x4 : Int32) (x5 : Int32) (x6 : Int32) (x7 : Int32) (x8 : Int32) (y1 : Int32) (y2 : Int32) : Option (qS) :=
  chk (inb y1 3) <|
  if 4 ≤ x7 then
    if ¬ x4 = 4 then
      (fM_get (pA S 6 y1 y2) x8).bind fun q4 =>
      fM_operand_249 q4.2 x1 x3 x4 x6 x7 x8 x1 (q4.1 &&& 255)
    else
      (fM_get (pA S 6 y1 y2) x8).bind fun q5 =>
      fM_operand_249 q5.2 x1 x3 x4 x6 x7 x8 x1 q5.1
  else
    fM_operand_249 (pA S 6 y1 y2) x1 x3 x4 x6 x7 x8 x1 x5
def fM_operand_179  (S : qS) (x1 : Int32) (x3 : Int32) (x4 : Int32) (x5 : Int32) (x6 : Int32) (x7 : Int32) (x8 : Int32) : Option (qS) :=
  if 4 ≤ x7 then
    if ¬ x7 = 5 then
      fM_operand_207 S x1 x3 x4 x5 x6 x7 x8 x1 16
    else
      fM_operand_207 S x1 x3 x4 x5 x6 x7 x8 x1 x8
  else
    fM_operand_207 S x1 x3 x4 x5 x6 x7 x8 x1 (-1)
def fM_operand_172  (S : qS) (x1 : Int32) (x3 : Int32) (x4 : Int32) (x5 : Int32) (x6 : Int32) (x7 : Int32) (x8 : Int32) : Option (qS) :=
  (fM_wrong S 3 0 0).bind fun S1 =>
  fM_operand_179 S1 x1 x3 x4 x5 x6 x7 x8
def fM_operand_154  (S : qS) (x1 : Int32) (x3 : Int32) (x4 : Int32) (x5 : Int32) (x6 : Int32) (x7 : Int32) (x8 : Int32) : Option (qS) :=
  if ¬ x5 = 143 then
    fM_operand_179 S x1 x3 x4 x5 x6 x7 x8
  else
    if x3 = 2 then
      fM_operand_172 S x1 x3 x4 x5 x6 x7 x8
    else
      if ¬ x3 = 3 then
        fM_operand_179 S x1 x3 x4 x5 x6 x7 x8
      else
        fM_operand_172 S x1 x3 x4 x5 x6 x7 x8
def fM_operand_143  (S : qS) (x1 : Int32) (x3 : Int32) (x4 : Int32) (x5 : Int32) (x6 : Int32) (x7 : Int32) (x8 : Int32) : Option (qS) :=
  if ¬ x7 = 5 then
    fM_operand_154 S x1 x3 x4 x5 x6 x7 x8
  else
    if x3 = 4 then
      fM_operand_172 S x1 x3 x4 x5 x6 x7 x8
    else
      fM_operand_154 S x1 x3 x4 x5 x6 x7 x8
def fM_operand_132  (S : qS) (x1 : Int32) (x3 : Int32) (x4 : Int32) (x5 : Int32) (x6 : Int32) (x7 : Int32) (x8 : Int32) : Option (qS) :=
  if 4 ≤ x7 then
    fM_operand_143 S x1 x3 x4 x5 x6 x7 x8
  else
    if ¬ x3 = 1 then
      fM_operand_172 S x1 x3 x4 x5 x6 x7 x8
    else
      fM_operand_143 S x1 x3 x4 x5 x6 x7 x8
def fM_operand_85  (S : qS) (x1 : Int32) (x3 : Int32) (x4 : Int32) (x5 : Int32) (x6 : Int32) : Option (qS) :=
  if (x5 >>> ((4 : Int32) &&& 31)) = 12 then
    fM_operand_172 S x1 x3 x4 x5 x6 (x5 >>> ((4 : Int32) &&& 31)) (x5 &&& 15)
  else
    if (x5 >>> ((4 : Int32) &&& 31)) = 13 then
      fM_operand_172 S x1 x3 x4 x5 x6 (x5 >>> ((4 : Int32) &&& 31)) (x5 &&& 15)
    else
      if (x5 >>> ((4 : Int32) &&& 31)) ≤ 4 then
        fM_operand_132 S x1 x3 x4 x5 x6 (x5 >>> ((4 : Int32) &&& 31)) (x5 &&& 15)
      else
        if 8 ≤ (x5 >>> ((4 : Int32) &&& 31)) then
          fM_operand_132 S x1 x3 x4 x5 x6 (x5 >>> ((4 : Int32) &&& 31)) (x5 &&& 15)
        else
          if (x5 &&& 15) = 15 then
            fM_operand_172 S x1 x3 x4 x5 x6 (x5 >>> ((4 : Int32) &&& 31)) (x5 &&& 15)
          else
            fM_operand_132 S x1 x3 x4 x5 x6 (x5 >>> ((4 : Int32) &&& 31)) (x5 &&& 15)
def fM_operand_78  (S : qS) (x1 : Int32) (x3 : Int32) (x4 : Int32) (x5 : Int32) (x6 : Int32) : Option (qS) :=
  (fM_wrong S 3 0 0).bind fun S1 =>
  fM_operand_85 S1 x1 x3 x4 x5 x6
def fM_operand_57  (S : qS) (x1 : Int32) (x3 : Int32) (x4 : Int32) (x6 : Int32) : Option (qS) :=
  (fM_next S).bind fun q1 =>
  if q1.1 < 96 then
    fM_operand_78 q1.2 x1 x3 x4 q1.1 x6
  else
    if ¬ q1.1 = 143 then
      fM_operand_85 q1.2 x1 x3 x4 q1.1 x6
    else
      fM_operand_78 q1.2 x1 x3 x4 q1.1 x6
def fM_operand_17  (S : qS) (x1 : Int32) (x3 : Int32) (y0 : Int32) : Option (qS) :=
  (fM_next S).bind fun q1 =>
  if ¬ (q1.1 >>> ((4 : Int32) &&& 31)) = 4 then
    fM_operand_85 q1.2 x1 x3 y0 q1.1 (-1)
  else
    if ¬ (q1.1 &&& 15) = 15 then
      fM_operand_57 q1.2 x1 x3 y0 (q1.1 &&& 15)
    else
      (fM_wrong q1.2 3 0 0).bind fun S4 =>
      fM_operand_57 S4 x1 x3 y0 (q1.1 &&& 15)
def fM_operand  (S : qS) (a1 : Int32) (a2 : Int32) : Option (qS) :=
  if (a2 &&& 8) = 0 then
    fM_operand_17 S a1 (a2 &&& 7) 1
  else
    fM_operand_17 S a1 (a2 &&& 7) 4
def fM_pop  (S : qS) : Option (Int32 × qS) :=
  (fM_get S 14).bind fun q1 =>
  (fM_readLong q1.2 q1.1).bind fun q2 =>
  (fM_get q2.2 14).bind fun q3 =>
  (fM_put q3.2 14 (q3.1 + 4)).bind fun S4 =>
  some (q2.1, S4)
def fM_endException_49  (S : qS) (x1 : Int32) (x2 : Int32) : Option (qS) :=
  if (S.1 7) = 0 then
    some (pI (pA S 1 15 x1) 1 x2)
  else
    some S
def fM_endException_42  (S : qS) (x1 : Int32) (x2 : Int32) : Option (qS) :=
  (fM_wrong S 2 0 0).bind fun S1 =>
  fM_endException_49 S1 x1 x2
def fM_endException  (S : qS) : Option (qS) :=
  (fM_pop S).bind fun q1 =>
  (fM_pop q1.2).bind fun q2 =>
  if ¬ (q2.1 &&& (-62914608)) = 0 then
    fM_endException_42 q2.2 q1.1 q2.1
  else
    (fM_mode q2.2).bind fun q4 =>
    if ((q2.1 >>> ((24 : Int32) &&& 31)) &&& 3) < q4.1 then
      fM_endException_42 q4.2 q1.1 q2.1
    else
      if ((q2.1 >>> ((24 : Int32) &&& 31)) &&& 3) ≤ ((q2.1 >>> ((22 : Int32) &&& 31)) &&& 3) then
        fM_endException_49 q4.2 q1.1 q2.1
      else
        fM_endException_42 q4.2 q1.1 q2.1
def fM_comeBack_155  (S : qS) (x1 : Int32) : Option (qS) :=
  some (pI S 1 (((S.1 1) &&& (-48)) ||| (x1 &&& 47)))
def fM_comeBack_97 (K69 : qS → Int32 → Int32 → Option (qS)) (S : qS) (x1 : Int32) (x2 : Int32) : Option (qS) :=
  K69 S x1 (x2 + 1)
def fM_comeBack_69 : Nat → qS → Int32 → Int32 → Option (qS)
  | 0, _, _, _ => none
  | n + 1, S, x1, x2 =>
      if 12 ≤ x2 then
        (fM_get S 14).bind fun q2 =>
        (fM_put q2.2 14 (q2.1 + (ushr x1 30))).bind fun S3 =>
        if ¬ ((x1 >>> ((29 : Int32) &&& 31)) &&& 1) = 1 then
          fM_comeBack_155 S3 x1
        else
          (fM_pop S3).bind fun q5 =>
          (fM_get q5.2 14).bind fun q6 =>
          (fM_put q6.2 14 (q6.1 + (4 * (q5.1 &&& 255)))).bind fun S7 =>
          fM_comeBack_155 S7 x1
      else
        if ¬ ((x1 >>> ((16 + x2) &&& 31)) &&& 1) = 1 then
          fM_comeBack_97 (fM_comeBack_69 n) S x1 x2
        else
          (fM_pop S).bind fun q9 =>
          chk (inb x2 16) <|
          fM_comeBack_97 (fM_comeBack_69 n) (pA q9.2 1 x2 q9.1) x1 x2
def fM_comeBack_34  (S : qS) (x1 : Int32) : Option (qS) :=
  (fM_pop S).bind fun q1 =>
  (fM_pop (pA q1.2 1 12 q1.1)).bind fun q2 =>
  (fM_pop (pA q2.2 1 13 q2.1)).bind fun q3 =>
  fM_comeBack_69 300 (pA q3.2 1 15 q3.1) x1 0
def fM_comeBack  (S : qS) : Option (qS) :=
  (fM_put S 14 ((gA S 1 13) + 4)).bind fun S1 =>
  (fM_pop S1).bind fun q2 =>
  if (q2.1 &&& 65488) = 0 then
    fM_comeBack_34 q2.2 q2.1
  else
    (fM_wrong q2.2 2 0 0).bind fun S4 =>
    fM_comeBack_34 S4 q2.1
def fM_mark_48  (S : qS) (y1 : Int32) (y2 : Int32) : Option (qS) :=
  some (pI S 1 (y1 ||| y2))
def fM_mark_38  (S : qS) (x3 : Int32) (y1 : Int32) (y2 : Int32) : Option (qS) :=
  if x3 = 0 then
    fM_mark_48 S (y1 ||| y2) 0
  else
    fM_mark_48 S (y1 ||| y2) 1
def fM_mark_28  (S : qS) (x2 : Int32) (x3 : Int32) (y1 : Int32) (y2 : Int32) : Option (qS) :=
  if x2 = 0 then
    fM_mark_38 S x3 (y1 ||| y2) 0
  else
    fM_mark_38 S x3 (y1 ||| y2) 2
def fM_mark_18  (S : qS) (x1 : Int32) (x2 : Int32) (x3 : Int32) (y1 : Int32) (y2 : Int32) : Option (qS) :=
  if ¬ x1 = 0 then
    fM_mark_28 S x2 x3 (y1 ||| y2) 0
  else
    fM_mark_28 S x2 x3 (y1 ||| y2) 4
def fM_mark  (S : qS) (a1 : Int32) (a2 : Int32) (a3 : Int32) : Option (qS) :=
  if 0 ≤ a1 then
    fM_mark_18 S a1 a2 a3 ((S.1 1) &&& (-16)) 0
  else
    fM_mark_18 S a1 a2 a3 ((S.1 1) &&& (-16)) 8
def fM_write_167  (S : qS) : Option (qS) :=
  some S
def fM_write_138 (K93 : qS → Int32 → Int32 → Int32 → Option (qS)) (S : qS) (x2 : Int32) (x3 : Int32) (x4 : Int32) : Option (qS) :=
  chk (inb x4 4) <|
  chk (inb (gA S 8 x4) 2048) <|
  K93 (pA S 0 (gA S 8 x4) ((x2 >>> ((8 * x4) &&& 31)) &&& 255)) x2 x3 (x4 + 1)
def fM_write_93 : Nat → qS → Int32 → Int32 → Int32 → Option (qS)
  | 0, _, _, _, _ => none
  | n + 1, S, x2, x3, x4 =>
      if x3 ≤ x4 then
        fM_write_167 S
      else
        if ¬ (S.1 7) = 0 then
          fM_write_167 S
        else
          chk (inb x4 4) <|
          if (gA S 9 x4) < 0 then
            fM_write_138 (fM_write_93 n) S x2 x3 x4
          else
            chk (inb x4 4) <|
            chk (inb (((gA S 9 x4) + 3) &&& 2047) 2048) <|
            chk (inb (((gA S 9 x4) + 3) &&& 2047) 2048) <|
            fM_write_138 (fM_write_93 n) (pA S 0 (((gA S 9 x4) + 3) &&& 2047) ((gA S 0 (((gA S 9 x4) + 3) &&& 2047)) ||| 4)) x2 x3 x4
def fM_write_84 (K3 : qS → Int32 → Int32 → Int32 → Int32 → Option (qS)) (S : qS) (x1 : Int32) (x2 : Int32) (x3 : Int32) (x4 : Int32) : Option (qS) :=
  K3 S x1 x2 x3 (x4 + 1)
def fM_write_3 : Nat → qS → Int32 → Int32 → Int32 → Int32 → Option (qS)
  | 0, _, _, _, _, _ => none
  | n + 1, S, x1, x2, x3, x4 =>
      if x3 ≤ x4 then
        fM_write_93 300 S x2 x3 0
      else
        (fM_mode S).bind fun q2 =>
        (fM_find q2.2 (x1 + x4) 1 q2.1).bind fun q3 =>
        chk (inb x4 4) <|
        chk (inb x4 4) <|
        chk (inb x4 4) <|
        if 0 ≤ (gA (pA (pA q3.2 8 x4 q3.1) 9 x4 ((pA q3.2 8 x4 q3.1).1 11)) 8 x4) then
          fM_write_84 (fM_write_3 n) (pA (pA q3.2 8 x4 q3.1) 9 x4 ((pA q3.2 8 x4 q3.1).1 11)) x1 x2 x3 x4
        else
          chk (inb x4 4) <|
          chk (inb x4 4) <|
          (fM_wrong (pA (pA q3.2 8 x4 q3.1) 9 x4 ((pA q3.2 8 x4 q3.1).1 11)) (((-10) - (gA (pA (pA q3.2 8 x4 q3.1) 9 x4 ((pA q3.2 8 x4 q3.1).1 11)) 8 x4)) / 10) (x1 + x4) (((-10) - (gA (pA (pA q3.2 8 x4 q3.1) 9 x4 ((pA q3.2 8 x4 q3.1).1 11)) 8 x4)) - ((-10) - (gA (pA (pA q3.2 8 x4 q3.1) 9 x4 ((pA q3.2 8 x4 q3.1).1 11)) 8 x4)) / 10 * 10)).bind fun S10 =>
          fM_write_84 (fM_write_3 n) S10 x1 x2 x3 x4
def fM_write  (S : qS) (a1 : Int32) (a2 : Int32) (a3 : Int32) : Option (qS) :=
  fM_write_3 300 S a1 a2 a3 0
def fM_give_65  (S : qS) : Option (qS) :=
  some S
def fM_give_62  (S : qS) (y1 : Int32) (y2 : Int32) : Option (qS) :=
  (fM_put S y1 y2).bind fun S1 =>
  fM_give_65 S1
def fM_give  (S : qS) (a1 : Int32) (a2 : Int32) (a3 : Int32) : Option (qS) :=
  chk (inb a1 3) <|
  if ¬ (gA S 6 a1) = 16 then
    chk (inb a1 3) <|
    if ¬ a3 = 4 then
      chk (inb a1 3) <|
      (fM_get S (gA S 6 a1)).bind fun q6 =>
      fM_give_62 q6.2 (gA S 6 a1) ((q6.1 &&& (-256)) ||| (a2 &&& 255))
    else
      fM_give_62 S (gA S 6 a1) a2
  else
    chk (inb a1 3) <|
    (fM_write S (gA S 7 a1) a2 a3).bind fun S8 =>
    fM_give_65 S8
def fM_innerOnes_134  (S : qS) : Option (qS) :=
  some S
def fM_innerOnes_120  (S : qS) (x1 : Int32) (x4 : Int32) : Option (qS) :=
  if ¬ x1 = 11 then
    fM_innerOnes_134 S
  else
    (fM_give S 1 x4 4).bind fun S2 =>
    fM_innerOnes_134 S2
def fM_innerOnes_98  (S : qS) (x1 : Int32) (x2 : Int32) : Option (qS) :=
  chk (inb x2 57) <|
  if ¬ x1 = 11 then
    fM_innerOnes_120 S x1 (gA S 2 x2)
  else
    (fM_mark S (gA S 2 x2) 0 0).bind fun S3 =>
    fM_innerOnes_120 S3 x1 (gA S 2 x2)
def fM_innerOnes_72  (S : qS) (x1 : Int32) (x2 : Int32) : Option (qS) :=
  if (S.1 7) = 0 then
    if ¬ x1 = 10 then
      fM_innerOnes_98 S x1 x2
    else
      chk (inb x2 57) <|
      fM_innerOnes_98 (pA S 2 x2 (gA S 5 0)) x1 x2
  else
    some S
def fM_innerOnes_60  (S : qS) (x1 : Int32) (x2 : Int32) (y0 : Int32) : Option (qS) :=
  if ¬ y0 = 0 then
    fM_innerOnes_72 S x1 x2
  else
    (fM_wrong S 2 0 0).bind fun S2 =>
    fM_innerOnes_72 S2 x1 x2
def fM_innerOnes_59  (S : qS) (x1 : Int32) (x2 : Int32) : Option (qS) :=
  fM_innerOnes_60 S x1 x2 0
def fM_innerOnes_55  (S : qS) (x1 : Int32) (x2 : Int32) : Option (qS) :=
  fM_innerOnes_60 S x1 x2 1
def fM_innerOnes_15  (S : qS) (x1 : Int32) (y1 : Int32) : Option (qS) :=
  chk (inb y1 3) <|
  (fM_isInner S (gA S 5 y1)).bind fun q2 =>
  if q2.1 = 0 then
    fM_innerOnes_59 q2.2 x1 (gA S 5 y1)
  else
    if x1 = 11 then
      fM_innerOnes_55 q2.2 x1 (gA S 5 y1)
    else
      if ¬ (gA S 5 y1) = 56 then
        fM_innerOnes_55 q2.2 x1 (gA S 5 y1)
      else
        if (gA q2.2 5 0) = 0 then
          fM_innerOnes_55 q2.2 x1 (gA S 5 y1)
        else
          if ¬ (gA q2.2 5 0) = 1 then
            fM_innerOnes_59 q2.2 x1 (gA S 5 y1)
          else
            fM_innerOnes_55 q2.2 x1 (gA S 5 y1)
def fM_innerOnes  (S : qS) (a1 : Int32) : Option (qS) :=
  if ¬ a1 = 10 then
    fM_innerOnes_15 S a1 0
  else
    fM_innerOnes_15 S a1 1
def fM_has_17  (S : qS) (y0 : Int32) : Option (Int32 × qS) :=
  chk (isB y0) (some (y0, S))
def fM_has  (S : qS) (a1 : Int32) : Option (Int32 × qS) :=
  if ¬ (((S.1 1) >>> (a1 &&& 31)) &&& 1) = 1 then
    fM_has_17 S 0
  else
    fM_has_17 S 1
def fM_push_35  (S : qS) : Option (qS) :=
  some S
def fM_push  (S : qS) (a1 : Int32) : Option (qS) :=
  (fM_get S 14).bind fun q1 =>
  (fM_write q1.2 (q1.1 - 4) a1 4).bind fun S2 =>
  if ¬ (S2.1 7) = 0 then
    fM_push_35 S2
  else
    (fM_get S2 14).bind fun q4 =>
    (fM_put q4.2 14 (q4.1 - 4)).bind fun S5 =>
    fM_push_35 S5
def fM_move_201  (S : qS) (x2 : Int32) (x3 : Int32) (y1 : Int32) : Option (qS) :=
  (fM_below S x2 x3).bind fun q1 =>
  (fM_mark q1.2 y1 0 q1.1).bind fun S2 =>
  some S2
def fM_move_175  (S : qS) (x2 : Int32) (x3 : Int32) (x7 : Int32) (y0 : Int32) : Option (qS) :=
  if y0 ≤ x7 then
    if ¬ x7 = y0 then
      fM_move_201 S x2 x3 1
    else
      fM_move_201 S x2 x3 0
  else
    fM_move_201 S x2 x3 (-1)
def fM_move_159  (S : qS) (x1 : Int32) (x2 : Int32) (x3 : Int32) (y0 : Int32) : Option (qS) :=
  if ¬ x1 = 23 then
    (fM_signed S x3).bind fun q2 =>
    fM_move_175 q2.2 x2 x3 y0 q2.1
  else
    fM_move_175 S x2 x3 y0 x3
def fM_move_145  (S : qS) (x1 : Int32) (x2 : Int32) (x3 : Int32) : Option (qS) :=
  if ¬ x1 = 23 then
    (fM_signed S x2).bind fun q2 =>
    fM_move_159 q2.2 x1 x2 x3 q2.1
  else
    fM_move_159 S x1 x2 x3 x2
def fM_move_379  (S : qS) : Option (qS) :=
  some S
def fM_move_318  (S : qS) (x5 : Int32) : Option (qS) :=
  (fM_push S x5).bind fun S1 =>
  fM_move_379 S1
def fM_move_376  (S : qS) (y1 : Int32) (y2 : Int32) (y3 : Int32) : Option (qS) :=
  (fM_give S y1 y2 y3).bind fun S1 =>
  fM_move_379 S1
def fM_move_371  (S : qS) (y1 : Int32) (y2 : Int32) : Option (qS) :=
  fM_move_376 S y1 y2 1
def fM_move_357  (S : qS) (x1 : Int32) (x5 : Int32) (y1 : Int32) : Option (qS) :=
  if x1 = 13 then
    fM_move_371 S y1 x5
  else
    if ¬ x1 = 17 then
      fM_move_376 S y1 x5 4
    else
      fM_move_371 S y1 x5
def fM_move_352  (S : qS) (x1 : Int32) (x5 : Int32) : Option (qS) :=
  fM_move_357 S x1 x5 0
def fM_move_306  (S : qS) (x1 : Int32) (x5 : Int32) : Option (qS) :=
  if x1 = 44 then
    fM_move_318 S x5
  else
    if ¬ x1 = 45 then
      if x1 = 21 then
        fM_move_379 S
      else
        if x1 = 22 then
          fM_move_379 S
        else
          if x1 = 12 then
            fM_move_352 S x1 x5
          else
            if ¬ x1 = 20 then
              fM_move_357 S x1 x5 1
            else
              fM_move_352 S x1 x5
    else
      fM_move_318 S x5
def fM_move_303  (S : qS) (x1 : Int32) (x5 : Int32) (y1 : Int32) (y2 : Int32) (y3 : Int32) : Option (qS) :=
  (fM_mark S y1 y2 y3).bind fun S1 =>
  fM_move_306 S1 x1 x5
def fM_move_302  (S : qS) (x1 : Int32) (x5 : Int32) (y1 : Int32) (y2 : Int32) : Option (qS) :=
  fM_move_303 S x1 x5 y1 y2 0
def fM_move_257  (S : qS) (x1 : Int32) (x2 : Int32) (x4 : Int32) (x5 : Int32) (y1 : Int32) (y2 : Int32) : Option (qS) :=
  if ¬ x1 = 18 then
    if x1 = 17 then
      fM_move_302 S x1 x5 y1 y2
    else
      if x1 = 21 then
        fM_move_302 S x1 x5 y1 y2
      else
        if x1 = 22 then
          fM_move_302 S x1 x5 y1 y2
        else
          if x4 = 0 then
            fM_move_302 S x1 x5 y1 y2
          else
            fM_move_303 S x1 x5 y1 y2 1
  else
    if x2 = 0 then
      fM_move_303 S x1 x5 y1 y2 0
    else
      fM_move_303 S x1 x5 y1 y2 1
def fM_move_256  (S : qS) (x1 : Int32) (x2 : Int32) (x4 : Int32) (x5 : Int32) (y1 : Int32) : Option (qS) :=
  fM_move_257 S x1 x2 x4 x5 y1 0
def fM_move_131  (S : qS) (x1 : Int32) (x2 : Int32) (x3 : Int32) (x4 : Int32) (x5 : Int32) (y0 : Int32) : Option (qS) :=
  if x1 = 23 then
    fM_move_145 S x1 x2 x3
  else
    if ¬ x1 = 24 then
      if x1 = 12 then
        fM_move_306 S x1 x5
      else
        if ¬ x1 = 17 then
          if ¬ x1 = 18 then
            fM_move_256 S x1 x2 x4 x5 y0
          else
            if ¬ x2 = (-2147483648) then
              fM_move_256 S x1 x2 x4 x5 y0
            else
              fM_move_257 S x1 x2 x4 x5 y0 1
        else
          if x5 = x2 then
            fM_move_257 S x1 x2 x4 x5 y0 0
          else
            fM_move_257 S x1 x2 x4 x5 y0 1
    else
      fM_move_145 S x1 x2 x3
def fM_move_122  (S : qS) (x1 : Int32) (x2 : Int32) (x3 : Int32) (x4 : Int32) (x5 : Int32) : Option (qS) :=
  (fM_signed S x2).bind fun q1 =>
  fM_move_131 q1.2 x1 x2 x3 x4 x5 q1.1
def fM_move_108  (S : qS) (x1 : Int32) (x2 : Int32) (x3 : Int32) (x4 : Int32) (y0 : Int32) : Option (qS) :=
  if x1 = 13 then
    fM_move_122 S x1 x2 x3 x4 y0
  else
    if ¬ x1 = 22 then
      fM_move_131 S x1 x2 x3 x4 y0 y0
    else
      fM_move_122 S x1 x2 x3 x4 y0
def fM_move_46  (S : qS) (x1 : Int32) (x2 : Int32) (x3 : Int32) (x4 : Int32) : Option (qS) :=
  (fM_signed S x2).bind fun q1 =>
  fM_move_108 q1.2 x1 x2 x3 x4 q1.1
def fM_move_107  (S : qS) (x1 : Int32) (x2 : Int32) (x3 : Int32) (x4 : Int32) : Option (qS) :=
  fM_move_108 S x1 x2 x3 x4 x2
def fM_move  (S : qS) (a1 : Int32) : Option (qS) :=
  (fM_has S 0).bind fun q1 =>
  if ¬ a1 = 12 then
    if a1 = 16 then
      fM_move_46 q1.2 a1 (gA S 5 0) (gA S 5 1) q1.1
    else
      if ¬ a1 = 17 then
        if ¬ a1 = 18 then
          if ¬ a1 = 19 then
            if ¬ a1 = 20 then
              if a1 ≤ 41 then
                fM_move_107 q1.2 a1 (gA S 5 0) (gA S 5 1) q1.1
              else
                if a1 = 44 then
                  fM_move_107 q1.2 a1 (gA S 5 0) (gA S 5 1) q1.1
                else
                  fM_move_108 q1.2 a1 (gA S 5 0) (gA S 5 1) q1.1 (gA q1.2 7 0)
            else
              fM_move_108 q1.2 a1 (gA S 5 0) (gA S 5 1) q1.1 0
          else
            fM_move_108 q1.2 a1 (gA S 5 0) (gA S 5 1) q1.1 ((gA S 5 0) ^^^ (-1))
        else
          fM_move_108 q1.2 a1 (gA S 5 0) (gA S 5 1) q1.1 (-(gA S 5 0))
      else
        fM_move_46 q1.2 a1 (gA S 5 0) (gA S 5 1) q1.1
  else
    fM_move_108 q1.2 a1 (gA S 5 0) (gA S 5 1) q1.1 (q1.2.1 1)
def fM_reckon_216  (S : qS) (x4 : Int32) (x8 : Int32) (x9 : Int32) (x10 : Int32) (y1 : Int32) : Option (qS) :=
  (fM_mark (pI S 10 y1) x8 x9 x10).bind fun S1 =>
  (fM_give S1 x4 x8 4).bind fun S2 =>
  some S2
def fM_reckon_215  (S : qS) (x4 : Int32) (x8 : Int32) (x9 : Int32) (x10 : Int32) : Option (qS) :=
  fM_reckon_216 S x4 x8 x9 x10 0
def fM_reckon_199  (S : qS) (x1 : Int32) (x2 : Int32) (x4 : Int32) (x8 : Int32) (x9 : Int32) (y0 : Int32) : Option (qS) :=
  if ¬ x1 = 3 then
    fM_reckon_215 S x4 x8 x9 y0
  else
    if ¬ x2 = 0 then
      fM_reckon_215 S x4 x8 x9 y0
    else
      fM_reckon_216 S x4 x8 x9 y0 2
def fM_reckon_198  (S : qS) (x1 : Int32) (x2 : Int32) (x4 : Int32) (x8 : Int32) (x9 : Int32) : Option (qS) :=
  fM_reckon_199 S x1 x2 x4 x8 x9 0
def fM_reckon_153  (S : qS) (x1 : Int32) (x2 : Int32) (x3 : Int32) (x4 : Int32) (x8 : Int32) (y0 : Int32) : Option (qS) :=
  if ¬ x1 = 0 then
    if ¬ x1 = 1 then
      if x1 ≤ 3 then
        fM_reckon_198 S x1 x2 x4 x8 y0
      else
        (fM_has S 0).bind fun q4 =>
        if q4.1 = 0 then
          fM_reckon_198 q4.2 x1 x2 x4 x8 y0
        else
          fM_reckon_199 q4.2 x1 x2 x4 x8 y0 1
    else
      (fM_below S x3 x2).bind fun q6 =>
      fM_reckon_199 q6.2 x1 x2 x4 x8 y0 q6.1
  else
    (fM_below S x8 x2).bind fun q7 =>
    fM_reckon_199 q7.2 x1 x2 x4 x8 y0 q7.1
def fM_reckon_152  (S : qS) (x1 : Int32) (x2 : Int32) (x3 : Int32) (x4 : Int32) (x8 : Int32) : Option (qS) :=
  fM_reckon_153 S x1 x2 x3 x4 x8 0
def fM_reckon_148  (S : qS) (x1 : Int32) (x2 : Int32) (x3 : Int32) (x4 : Int32) (x8 : Int32) : Option (qS) :=
  fM_reckon_153 S x1 x2 x3 x4 x8 1
def fM_reckon_112  (S : qS) (x1 : Int32) (x2 : Int32) (x3 : Int32) (x4 : Int32) (x5 : Int32) (x6 : Int64) (x8 : Int32) : Option (qS) :=
  if 3 ≤ x1 then
    if ¬ x1 = 3 then
      fM_reckon_152 S x1 x2 x3 x4 x8
    else
      if x2 = 0 then
        fM_reckon_148 S x1 x2 x3 x4 x8
      else
        if x5 = 0 then
          fM_reckon_152 S x1 x2 x3 x4 x8
        else
          fM_reckon_148 S x1 x2 x3 x4 x8
  else
    if (lg_cmp x6 x8.toInt64) = 0 then
      fM_reckon_153 S x1 x2 x3 x4 x8 0
    else
      fM_reckon_153 S x1 x2 x3 x4 x8 1
def fM_reckon_110  (S : qS) (x1 : Int32) (x2 : Int32) (x3 : Int32) (x4 : Int32) (x5 : Int32) (x6 : Int64) (y0 : Int32) : Option (qS) :=
  fM_reckon_112 S x1 x2 x3 x4 x5 x6 y0
def fM_reckon_78  (S : qS) (x1 : Int32) (x2 : Int32) (x3 : Int32) (x4 : Int32) (x5 : Int32) (x6 : Int64) (x8 : Int32) : Option (qS) :=
  if x1 ≤ 3 then
    fM_reckon_112 S x1 x2 x3 x4 x5 x6 x8
  else
    if ¬ x1 = 4 then
      if ¬ x1 = 5 then
        fM_reckon_110 S x1 x2 x3 x4 x5 x6 (x3 ^^^ x2)
      else
        fM_reckon_110 S x1 x2 x3 x4 x5 x6 (x3 &&& (x2 ^^^ (-1)))
    else
      fM_reckon_110 S x1 x2 x3 x4 x5 x6 (x3 ||| x2)
def fM_reckon_76  (S : qS) (x1 : Int32) (x2 : Int32) (x3 : Int32) (x4 : Int32) (x5 : Int32) (x6 : Int64) (y0 : Int32) : Option (qS) :=
  fM_reckon_78 S x1 x2 x3 x4 x5 x6 y0
def fM_reckon_69  (S : qS) (x1 : Int32) (x2 : Int32) (x3 : Int32) (x4 : Int32) (x5 : Int32) (x6 : Int64) : Option (qS) :=
  fM_reckon_76 S x1 x2 x3 x4 x5 x6 x3
def fM_reckon_48  (S : qS) (x1 : Int32) (x2 : Int32) (x3 : Int32) (x4 : Int32) (x5 : Int32) (y0 : Int64) : Option (qS) :=
  if ¬ x1 = 3 then
    fM_reckon_78 S x1 x2 x3 x4 x5 y0 y0.toInt32
  else
    if x2 = 0 then
      fM_reckon_69 S x1 x2 x3 x4 x5 y0
    else
      if x5 = 0 then
        chk (x2 != 0) <|
        fM_reckon_76 S x1 x2 x3 x4 x5 y0 (x3 / x2)
      else
        fM_reckon_69 S x1 x2 x3 x4 x5 y0
def fM_reckon_16  (S : qS) (x1 : Int32) (x2 : Int32) (x3 : Int32) (x4 : Int32) (y0 : Int32) : Option (qS) :=
  if ¬ x1 = 0 then
    if ¬ x1 = 1 then
      fM_reckon_48 S x1 x2 x3 x4 y0 (x3.toInt64 * x2.toInt64)
    else
      fM_reckon_48 S x1 x2 x3 x4 y0 (x3.toInt64 - x2.toInt64)
  else
    fM_reckon_48 S x1 x2 x3 x4 y0 (x3.toInt64 + x2.toInt64)
def fM_reckon_15  (S : qS) (x1 : Int32) (x2 : Int32) (x3 : Int32) (x4 : Int32) : Option (qS) :=
  fM_reckon_16 S x1 x2 x3 x4 0
def fM_reckon  (S : qS) (a1 : Int32) (a2 : Int32) (a3 : Int32) (a4 : Int32) : Option (qS) :=
  if ¬ a3 = (-2147483648) then
    fM_reckon_15 S a1 a2 a3 a4
  else
    if ¬ a2 = (-1) then
      fM_reckon_15 S a1 a2 a3 a4
    else
      fM_reckon_16 S a1 a2 a3 a4 1
def fM_shift_72  (S : qS) (x3 : Int32) (y0 : Int32) : Option (qS) :=
  (fM_mark S x3 y0 0).bind fun S1 =>
  (fM_give S1 2 x3 4).bind fun S2 =>
  some S2
def fM_shift_71  (S : qS) (x3 : Int32) : Option (qS) :=
  fM_shift_72 S x3 0
def fM_shift_37  (S : qS) (x1 : Int32) (x2 : Int32) (y0 : Int32) : Option (qS) :=
  if x1 ≤ 31 then
    if x1 ≤ 0 then
      fM_shift_71 S y0
    else
      if (y0 >>> (x1 &&& 31)) = x2 then
        fM_shift_71 S y0
      else
        fM_shift_72 S y0 1
  else
    if x2 = 0 then
      fM_shift_72 S y0 0
    else
      fM_shift_72 S y0 1
def fM_shift  (S : qS) (a1 : Int32) (a2 : Int32) : Option (qS) :=
  if a1 ≤ 31 then
    if a1 < 0 then
      if (-31) ≤ a1 then
        fM_shift_37 S a1 a2 (a2 >>> ((-a1) &&& 31))
      else
        fM_shift_37 S a1 a2 (a2 >>> ((31 : Int32) &&& 31))
    else
      fM_shift_37 S a1 a2 (a2 <<< (a1 &&& 31))
  else
    fM_shift_37 S a1 a2 0
def fM_go_63  (S : qS) (x3 : Int32) : Option (qS) :=
  some (pA S 1 15 x3)
def fM_go_52  (S : qS) (x3 : Int32) : Option (qS) :=
  (fM_push S (gA S 1 15)).bind fun S1 =>
  fM_go_63 S1 x3
def fM_go_39  (S : qS) (x1 : Int32) (y0 : Int32) : Option (qS) :=
  if x1 = 47 then
    fM_go_52 S y0
  else
    if ¬ x1 = 49 then
      fM_go_63 S y0
    else
      fM_go_52 S y0
def fM_go_11  (S : qS) (x1 : Int32) (y0 : Int32) : Option (qS) :=
  if y0 = 0 then
    fM_go_39 S x1 (gA S 7 0)
  else
    fM_go_39 S x1 ((gA S 1 15) + (gA S 5 0))
def fM_go  (S : qS) (a1 : Int32) : Option (qS) :=
  if a1 ≤ 47 then
    fM_go_11 S a1 0
  else
    fM_go_11 S a1 1
def fM_isMet_131  (S : qS) (y0 : Int32) : Option (Int32 × qS) :=
  chk (isB y0) (some (y0, S))
def fM_isMet_123  (S : qS) (y0 : Int32) (y1 : Int32) : Option (Int32 × qS) :=
  if ¬ y0 = y1 then
    fM_isMet_131 S 0
  else
    fM_isMet_131 S 1
def fM_isMet_104  (S : qS) (x1 : Int32) (y0 : Int32) : Option (Int32 × qS) :=
  if ¬ ((x1 - 50) - (x1 - 50) / 2 * 2) = 1 then
    fM_isMet_123 S y0 0
  else
    fM_isMet_123 S y0 1
def fM_isMet_78  (S : qS) (x1 : Int32) : Option (Int32 × qS) :=
  fM_isMet_104 S x1 1
def fM_isMet_43  (S : qS) (x1 : Int32) : Option (Int32 × qS) :=
  fM_isMet_104 S x1 1
def fM_isMet  (S : qS) (a1 : Int32) : Option (Int32 × qS) :=
  (fM_has S 3).bind fun q1 =>
  (fM_has q1.2 2).bind fun q2 =>
  if ¬ ((a1 - 50) / 2) = 0 then
    if ¬ ((a1 - 50) / 2) = 1 then
      if ¬ ((a1 - 50) / 2) = 2 then
        if ¬ ((a1 - 50) / 2) = 3 then
          if ¬ ((a1 - 50) / 2) = 4 then
            (fM_has q2.2 0).bind fun q8 =>
            fM_isMet_104 q8.2 a1 q8.1
          else
            (fM_has q2.2 1).bind fun q9 =>
            fM_isMet_104 q9.2 a1 q9.1
        else
          (fM_has q2.2 0).bind fun q10 =>
          if ¬ q10.1 = 0 then
            fM_isMet_78 q10.2 a1
          else
            if q2.1 = 0 then
              fM_isMet_104 q10.2 a1 0
            else
              fM_isMet_78 q10.2 a1
      else
        fM_isMet_104 q2.2 a1 q1.1
    else
      if ¬ q1.1 = 0 then
        fM_isMet_43 q2.2 a1
      else
        if q2.1 = 0 then
          fM_isMet_104 q2.2 a1 0
        else
          fM_isMet_43 q2.2 a1
  else
    fM_isMet_104 q2.2 a1 q2.1
def fM_count_186  (S : qS) : Option (qS) :=
  some S
def fM_count_161  (S : qS) (x2 : Int32) (y0 : Int32) : Option (qS) :=
  if y0 = 0 then
    fM_count_186 S
  else
    chk (inb (x2 + 1) 3) <|
    fM_count_186 (pA S 1 15 ((gA S 1 15) + (gA S 5 (x2 + 1))))
def fM_count_71  (S : qS) (x1 : Int32) (x2 : Int32) (x3 : Int32) (y1 : Int32) (y2 : Int32) : Option (qS) :=
  (fM_has S 0).bind fun q1 =>
  (fM_mark q1.2 y1 y2 q1.1).bind fun S2 =>
  (fM_give S2 x2 x3 4).bind fun S3 =>
  if ¬ x1 = 64 then
    if ¬ x1 = 65 then
      if ¬ x1 = 66 then
        if (gA S3 5 0) < x3 then
          fM_count_161 S3 x2 0
        else
          fM_count_161 S3 x2 1
      else
        if (gA S3 5 0) ≤ x3 then
          fM_count_161 S3 x2 0
        else
          fM_count_161 S3 x2 1
    else
      if x3 < 0 then
        fM_count_161 S3 x2 0
      else
        fM_count_161 S3 x2 1
  else
    if x3 ≤ 0 then
      fM_count_161 S3 x2 0
    else
      fM_count_161 S3 x2 1
def fM_count_37  (S : qS) (x1 : Int32) (x2 : Int32) (y0 : Int32) : Option (qS) :=
  if 66 ≤ x1 then
    if ¬ y0 = (-2147483648) then
      fM_count_71 S x1 x2 y0 y0 0
    else
      fM_count_71 S x1 x2 y0 y0 1
  else
    if ¬ y0 = 2147483647 then
      fM_count_71 S x1 x2 y0 y0 0
    else
      fM_count_71 S x1 x2 y0 y0 1
def fM_count_11  (S : qS) (x1 : Int32) (y0 : Int32) : Option (qS) :=
  if 66 ≤ x1 then
    fM_count_37 S x1 y0 ((gA S 5 1) + 1)
  else
    fM_count_37 S x1 y0 ((gA S 5 0) - 1)
def fM_count  (S : qS) (a1 : Int32) : Option (qS) :=
  if 66 ≤ a1 then
    fM_count_11 S a1 1
  else
    fM_count_11 S a1 0
def fM_callFrame_101 (K75 : qS → Int32 → Int32 → Int32 → Int32 → Option (qS)) (S : qS) (x1 : Int32) (x2 : Int32) (x3 : Int32) (x4 : Int32) : Option (qS) :=
  K75 S x1 x2 x3 (x4 + (-1))
def fM_callFrame_75 : Nat → qS → Int32 → Int32 → Int32 → Int32 → Option (qS)
  | 0, _, _, _, _, _ => none
  | n + 1, S, x1, x2, x3, x4 =>
      if x4 < 0 then
        (fM_push S (gA S 1 15)).bind fun S2 =>
        (fM_push S2 (gA S2 1 13)).bind fun S3 =>
        (fM_push S3 (gA S3 1 12)).bind fun S4 =>
        (fM_push S4 ((((x3 <<< ((30 : Int32) &&& 31)) ||| 536870912) ||| ((x2 &&& 4095) <<< ((16 : Int32) &&& 31))) ||| ((S4.1 1) &&& 65535))).bind fun S5 =>
        (fM_push S5 0).bind fun S6 =>
        (fM_get S6 14).bind fun q7 =>
        some (pA (pI (pA (pA q7.2 1 13 q7.1) 1 12 x1) 1 ((((pA (pA q7.2 1 13 q7.1) 1 12 x1).1 1) &&& (-48)) ||| (((x2 >>> ((14 : Int32) &&& 31)) &&& 1) <<< ((5 : Int32) &&& 31)))) 1 15 ((gA (pI (pA (pA q7.2 1 13 q7.1) 1 12 x1) 1 ((((pA (pA q7.2 1 13 q7.1) 1 12 x1).1 1) &&& (-48)) ||| (((x2 >>> ((14 : Int32) &&& 31)) &&& 1) <<< ((5 : Int32) &&& 31)))) 7 1) + 2))
      else
        if ¬ ((x2 >>> (x4 &&& 31)) &&& 1) = 1 then
          fM_callFrame_101 (fM_callFrame_75 n) S x1 x2 x3 x4
        else
          chk (inb x4 16) <|
          (fM_push S (gA S 1 x4)).bind fun S10 =>
          fM_callFrame_101 (fM_callFrame_75 n) S10 x1 x2 x3 x4
def fM_callFrame_58  (S : qS) (x1 : Int32) (x2 : Int32) : Option (qS) :=
  (fM_put S 14 (x1 - (x1 &&& 3))).bind fun S1 =>
  fM_callFrame_75 300 S1 x1 x2 (x1 &&& 3) 11
def fM_callFrame  (S : qS) : Option (qS) :=
  (fM_push S (gA S 5 0)).bind fun S1 =>
  (fM_get S1 14).bind fun q2 =>
  (fM_readByte q2.2 (gA q2.2 7 1)).bind fun q3 =>
  (fM_readByte q3.2 ((gA q3.2 7 1) + 1)).bind fun q4 =>
  if ((q3.1 ||| (q4.1 <<< ((8 : Int32) &&& 31))) &&& 45056) = 0 then
    fM_callFrame_58 q4.2 q2.1 (q3.1 ||| (q4.1 <<< ((8 : Int32) &&& 31)))
  else
    (fM_wrong q4.2 2 0 0).bind fun S6 =>
    fM_callFrame_58 S6 q2.1 (q3.1 ||| (q4.1 <<< ((8 : Int32) &&& 31)))
def fM_probe_170  (S : qS) (y1 : Int32) : Option (qS) :=
  (fM_mark S y1 0 0).bind fun S1 =>
  some S1
def fM_probe_159  (S : qS) (x4 : Int32) : Option (qS) :=
  if x4 = 0 then
    fM_probe_170 S 1
  else
    fM_probe_170 S 0
def fM_probe_151 (K36 : qS → Int32 → Int32 → Int32 → Int32 → Option (qS)) (S : qS) (x1 : Int32) (x2 : Int32) (x5 : Int32) (y0 : Int32) : Option (qS) :=
  K36 S x1 x2 y0 (x5 + 1)
def fM_probe_146 (K36 : qS → Int32 → Int32 → Int32 → Int32 → Option (qS)) (S : qS) (x1 : Int32) (x2 : Int32) (x5 : Int32) : Option (qS) :=
  fM_probe_151 K36 S x1 x2 x5 1
def fM_probe_134 (K36 : qS → Int32 → Int32 → Int32 → Int32 → Option (qS)) (S : qS) (x1 : Int32) (x2 : Int32) (x5 : Int32) (x8 : Int32) : Option (qS) :=
  if x8 = 0 then
    fM_probe_146 K36 S x1 x2 x5
  else
    if x8 < 50 then
      fM_probe_151 K36 S x1 x2 x5 0
    else
      fM_probe_146 K36 S x1 x2 x5
def fM_probe_102 (K36 : qS → Int32 → Int32 → Int32 → Int32 → Option (qS)) (S : qS) (x1 : Int32) (x2 : Int32) (x5 : Int32) (x6 : Int32) (y0 : Int32) : Option (qS) :=
  if y0 ≤ 51 then
    fM_probe_134 K36 S x1 x2 x5 y0
  else
    if ¬ ((y0 - y0 / 10 * 10) - (y0 - y0 / 10 * 10) / 4 * 4) = 2 then
      fM_probe_134 K36 S x1 x2 x5 y0
    else
      (fM_wrong S 5 x6 (y0 - y0 / 10 * 10)).bind fun S3 =>
      fM_probe_134 K36 S3 x1 x2 x5 y0
def fM_probe_76 (K36 : qS → Int32 → Int32 → Int32 → Int32 → Option (qS)) (S : qS) (x1 : Int32) (x2 : Int32) (x5 : Int32) (y0 : Int32) : Option (qS) :=
  (fM_find S y0 x1 x2).bind fun q1 =>
  if 0 ≤ q1.1 then
    fM_probe_102 K36 q1.2 x1 x2 x5 y0 0
  else
    fM_probe_102 K36 q1.2 x1 x2 x5 y0 ((-10) - q1.1)
def fM_probe_36 : Nat → qS → Int32 → Int32 → Int32 → Int32 → Option (qS)
  | 0, _, _, _, _, _ => none
  | n + 1, S, x1, x2, x4, x5 =>
      if 2 ≤ x5 then
        fM_probe_159 S x4
      else
        if x4 = 0 then
          fM_probe_159 S x4
        else
          if ¬ x5 = 0 then
            fM_probe_76 (fM_probe_36 n) S x1 x2 x5 (((gA S 7 2) + (gA S 5 1)) - 1)
          else
            fM_probe_76 (fM_probe_36 n) S x1 x2 x5 (gA S 7 2)
def fM_probe_29  (S : qS) (x1 : Int32) (y0 : Int32) : Option (qS) :=
  fM_probe_36 300 S x1 y0 1 0
def fM_probe  (S : qS) (a1 : Int32) : Option (qS) :=
  if (((S.1 1) >>> ((22 : Int32) &&& 31)) &&& 3) ≤ ((gA S 5 0) &&& 3) then
    fM_probe_29 S a1 ((gA S 5 0) &&& 3)
  else
    fM_probe_29 S a1 (((S.1 1) >>> ((22 : Int32) &&& 31)) &&& 3)
def fM_work_379  (S : qS) : Option (qS) :=
  some S
def fM_work_88  (S : qS) (x1 : Int32) : Option (qS) :=
  (fM_innerOnes S x1).bind fun S1 =>
  fM_work_379 S1
def fM_work_140  (S : qS) (x1 : Int32) : Option (qS) :=
  (fM_reckon S (x1 - 25) 1 (gA S 5 0) 0).bind fun S1 =>
  fM_work_379 S1
def fM_work_376  (S : qS) (y1 : Int32) : Option (qS) :=
  (fM_probe S y1).bind fun S1 =>
  fM_work_379 S1
def fM_work_345  (S : qS) (x1 : Int32) : Option (qS) :=
  if ¬ x1 = 68 then
    if x1 ≤ 68 then
      fM_work_379 S
    else
      if ¬ x1 = 70 then
        fM_work_376 S 0
      else
        fM_work_376 S 1
  else
    (fM_callFrame S).bind fun S4 =>
    fM_work_379 S4
def fM_work_325  (S : qS) (x1 : Int32) : Option (qS) :=
  if x1 ≤ 63 then
    fM_work_345 S x1
  else
    if 68 ≤ x1 then
      fM_work_345 S x1
    else
      (fM_count S x1).bind fun S3 =>
      fM_work_379 S3
def fM_work_320  (S : qS) (y1 : Int32) (y2 : Int32) (y3 : Int32) : Option (qS) :=
  chk (inb y1 16) <|
  fM_work_379 (pA S 1 y1 (y2 + y3))
def fM_work_319  (S : qS) (y1 : Int32) (y2 : Int32) : Option (qS) :=
  fM_work_320 S y1 y2 0
def fM_work_315  (S : qS) (x2 : Int32) (y1 : Int32) (y2 : Int32) : Option (qS) :=
  fM_work_320 S y1 y2 x2
def fM_work_312  (S : qS) (x2 : Int32) (y1 : Int32) (y2 : Int32) (y3 : Int32) (y4 : Int32) : Option (qS) :=
  if ¬ y3 = y4 then
    fM_work_319 S y1 y2
  else
    fM_work_315 S x2 y1 y2
def fM_work_256  (S : qS) (x1 : Int32) (x2 : Int32) : Option (qS) :=
  if x1 ≤ 49 then
    fM_work_325 S x1
  else
    if 64 ≤ x1 then
      fM_work_325 S x1
    else
      if 62 ≤ x1 then
        if ¬ x1 = 62 then
          fM_work_312 S x2 15 (gA S 1 15) ((gA S 5 0) &&& 1) 0
        else
          fM_work_312 S x2 15 (gA S 1 15) ((gA S 5 0) &&& 1) 1
      else
        (fM_isMet S x1).bind fun q5 =>
        if q5.1 = 0 then
          fM_work_319 q5.2 15 (gA S 1 15)
        else
          fM_work_315 q5.2 x2 15 (gA S 1 15)
def fM_work_208  (S : qS) (x1 : Int32) (x2 : Int32) : Option (qS) :=
  if ¬ x1 = 41 then
    if x1 ≤ 45 then
      fM_work_256 S x1 x2
    else
      if 50 ≤ x1 then
        fM_work_256 S x1 x2
      else
        (fM_go S x1).bind fun S4 =>
        fM_work_379 S4
  else
    (fM_signed S (gA S 5 0)).bind fun q5 =>
    (fM_shift q5.2 q5.1 (gA q5.2 5 1)).bind fun S6 =>
    fM_work_379 S6
def fM_work_202  (S : qS) (y1 : Int32) (y2 : Int32) (y3 : Int32) (y4 : Int32) : Option (qS) :=
  (fM_reckon S y1 y2 y3 y4).bind fun S1 =>
  fM_work_379 S1
def fM_work_128  (S : qS) (x1 : Int32) (x2 : Int32) : Option (qS) :=
  if x1 = 25 then
    fM_work_140 S x1
  else
    if ¬ x1 = 26 then
      if x1 ≤ 26 then
        fM_work_208 S x1 x2
      else
        if 41 ≤ x1 then
          fM_work_208 S x1 x2
        else
          if 34 ≤ x1 then
            fM_work_202 S ((x1 - 27) - (x1 - 27) / 7 * 7) (gA S 5 0) (gA S 5 1) 2
          else
            fM_work_202 S ((x1 - 27) - (x1 - 27) / 7 * 7) (gA S 5 0) (gA S 5 1) 1
    else
      fM_work_140 S x1
def fM_work_120  (S : qS) (x1 : Int32) : Option (qS) :=
  (fM_move S x1).bind fun S1 =>
  fM_work_379 S1
def fM_work_108  (S : qS) (x1 : Int32) (x2 : Int32) : Option (qS) :=
  if x1 ≤ 41 then
    fM_work_128 S x1 x2
  else
    if 46 ≤ x1 then
      fM_work_128 S x1 x2
    else
      fM_work_120 S x1
def fM_work_15  (S : qS) (x1 : Int32) (y1 : Int32) : Option (qS) :=
  chk (inb y1 3) <|
  if ¬ x1 = 2 then
    if ¬ x1 = 3 then
      if ¬ x1 = 4 then
        if ¬ x1 = 5 then
          if x1 = 10 then
            fM_work_88 S x1
          else
            if ¬ x1 = 11 then
              if x1 ≤ 11 then
                fM_work_108 S x1 (gA S 5 y1)
              else
                if x1 < 25 then
                  fM_work_120 S x1
                else
                  fM_work_108 S x1 (gA S 5 y1)
            else
              fM_work_88 S x1
        else
          (fM_pop S).bind fun q10 =>
          fM_work_379 (pA q10.2 1 15 q10.1)
      else
        (fM_comeBack S).bind fun S11 =>
        fM_work_379 S11
    else
      (fM_wrong S 6 0 0).bind fun S12 =>
      fM_work_379 S12
  else
    (fM_endException S).bind fun S13 =>
    fM_work_379 S13
def fM_work  (S : qS) (a1 : Int32) : Option (qS) :=
  if 62 ≤ a1 then
    fM_work_15 S a1 1
  else
    fM_work_15 S a1 0
def fM_bringBack_28 : Nat → qS → Int32 → Option (qS)
  | 0, _, _ => none
  | n + 1, S, x1 =>
      if 4 ≤ x1 then
        some (pI S 1 (S.1 6))
      else
        chk (inb x1 4) <|
        chk (inb x1 57) <|
        (fM_bringBack_28 n) (pA S 2 x1 (gA S 4 x1)) (x1 + 1)
def fM_bringBack_2 : Nat → qS → Int32 → Option (qS)
  | 0, _, _ => none
  | n + 1, S, x1 =>
      if 16 ≤ x1 then
        fM_bringBack_28 300 S 0
      else
        chk (inb x1 16) <|
        chk (inb x1 16) <|
        (fM_bringBack_2 n) (pA S 1 x1 (gA S 3 x1)) (x1 + 1)
def fM_bringBack  (S : qS) : Option (qS) :=
  fM_bringBack_2 300 S 0
def fM_raise_106  (S : qS) (x1 : Int32) : Option (qS) :=
  if (S.1 7) = 0 then
    (fM_bare S ((gA S 2 17) + (4 * x1))).bind fun q2 =>
    some (pI (pI (pA q2.2 1 15 q2.1) 4 x1) 5 (((pI (pA q2.2 1 15 q2.1) 4 x1).1 5) + 1))
  else
    (fM_bringBack S).bind fun S3 =>
    some (pI S3 2 2)
def fM_raise_95  (S : qS) (x1 : Int32) (x3 : Int32) : Option (qS) :=
  if x1 ≤ 6 then
    fM_raise_106 S x1
  else
    (fM_push S x3).bind fun S2 =>
    fM_raise_106 S2 x1
def fM_raise_89  (S : qS) (x1 : Int32) (x3 : Int32) (x7 : Int32) : Option (qS) :=
  (fM_push S x7).bind fun S1 =>
  fM_raise_95 S1 x1 x3
def fM_raise_79  (S : qS) (x1 : Int32) (x3 : Int32) (x7 : Int32) : Option (qS) :=
  if x1 = 4 then
    fM_raise_89 S x1 x3 x7
  else
    if ¬ x1 = 5 then
      fM_raise_95 S x1 x3
    else
      fM_raise_89 S x1 x3 x7
def fM_raise_73  (S : qS) (x1 : Int32) (x3 : Int32) (x6 : Int32) (x7 : Int32) : Option (qS) :=
  (fM_push S x6).bind fun S1 =>
  fM_raise_79 S1 x1 x3 x7
def fM_raise  (S : qS) (a1 : Int32) (a2 : Int32) (a3 : Int32) : Option (qS) :=
  (fM_push (pI (pI S 7 0) 1 ((a2 <<< ((24 : Int32) &&& 31)) ||| ((((S.1 1) >>> ((24 : Int32) &&& 31)) &&& 3) <<< ((22 : Int32) &&& 31)))) (S.1 1)).bind fun S1 =>
  (fM_push S1 (gA S 1 15)).bind fun S2 =>
  if a1 = 4 then
    fM_raise_73 S2 a1 a3 (S.1 8) (S.1 9)
  else
    if ¬ a1 = 5 then
      fM_raise_79 S2 a1 a3 (S.1 9)
    else
      fM_raise_73 S2 a1 a3 (S.1 8) (S.1 9)
def fM_instruction_336  (S : qS) : Option (qS) :=
  some S
def fM_instruction_319  (S : qS) (x1 : Int32) (y0 : Int32) : Option (qS) :=
  (fM_raise S (x1 + 2) y0 (gA S 5 0)).bind fun S1 =>
  fM_instruction_336 S1
def fM_instruction_265  (S : qS) (x1 : Int32) : Option (qS) :=
  if (S.1 10) ≤ 0 then
    if x1 ≤ 5 then
      fM_instruction_336 S
    else
      if 10 ≤ x1 then
        fM_instruction_336 S
      else
        (fM_mode S).bind fun q4 =>
        if q4.1 ≤ (x1 - 6) then
          (fM_mode q4.2).bind fun q6 =>
          fM_instruction_319 q6.2 x1 q6.1
        else
          fM_instruction_319 q4.2 x1 (x1 - 6)
  else
    (fM_raise S 7 0 (S.1 10)).bind fun S7 =>
    fM_instruction_336 S7
def fM_instruction_254  (S : qS) : Option (qS) :=
  (fM_raise S 7 0 1).bind fun S1 =>
  fM_instruction_336 S1
def fM_instruction_242  (S : qS) (x1 : Int32) : Option (qS) :=
  if x1 ≤ 63 then
    fM_instruction_265 S x1
  else
    if 68 ≤ x1 then
      fM_instruction_265 S x1
    else
      fM_instruction_254 S
def fM_instruction_173  (S : qS) (x1 : Int32) : Option (qS) :=
  if ((pI S 3 ((S.1 3) + 1)).1 7) = 0 then
    if ¬ ((pI S 3 ((S.1 3) + 1)).1 10) = 0 then
      fM_instruction_265 (pI S 3 ((S.1 3) + 1)) x1
    else
      (fM_has (pI S 3 ((S.1 3) + 1)) 5).bind fun q3 =>
      if q3.1 = 0 then
        fM_instruction_265 q3.2 x1
      else
        (fM_has q3.2 1).bind fun q5 =>
        if q5.1 = 0 then
          fM_instruction_265 q5.2 x1
        else
          if x1 ≤ 16 then
            fM_instruction_242 q5.2 x1
          else
            if x1 < 42 then
              fM_instruction_254 q5.2
            else
              fM_instruction_242 q5.2 x1
  else
    (fM_bringBack (pI S 3 ((S.1 3) + 1))).bind fun S9 =>
    (fM_raise S9 (S9.1 7) 0 0).bind fun S10 =>
    fM_instruction_336 S10
def fM_instruction_157  (S : qS) (x1 : Int32) : Option (qS) :=
  if ¬ x1 = 0 then
    fM_instruction_173 S x1
  else
    if ¬ (S.1 7) = 0 then
      fM_instruction_173 S x1
    else
      fM_instruction_173 (pI S 2 1) x1
def fM_instruction_145  (S : qS) (x1 : Int32) : Option (qS) :=
  if ¬ (S.1 7) = 0 then
    fM_instruction_157 S x1
  else
    (fM_work S x1).bind fun S2 =>
    fM_instruction_157 S2 x1
def fM_instruction_134 (K81 : qS → Int32 → Int32 → Int32 → Option (qS)) (S : qS) (x1 : Int32) (x3 : Int32) (x4 : Int32) : Option (qS) :=
  K81 S x1 (x3 / 32) (x4 + 1)
def fM_instruction_81 : Nat → qS → Int32 → Int32 → Int32 → Option (qS)
  | 0, _, _, _, _ => none
  | n + 1, S, x1, x3, x4 =>
      if 3 ≤ x4 then
        fM_instruction_145 S x1
      else
        if ¬ (S.1 7) = 0 then
          fM_instruction_145 S x1
        else
          if x3 ≤ 0 then
            fM_instruction_145 S x1
          else
            if ¬ (x3 - x3 / 32 * 32) = 16 then
              (fM_operand S x4 (x3 - x3 / 32 * 32)).bind fun S5 =>
              fM_instruction_134 (fM_instruction_81 n) S5 x1 x3 x4
            else
              (fM_next S).bind fun q6 =>
              (fM_signed q6.2 q6.1).bind fun q7 =>
              chk (inb x4 3) <|
              fM_instruction_134 (fM_instruction_81 n) (pA q7.2 5 x4 q7.1) x1 x3 x4
def fM_instruction_77  (S : qS) (x1 : Int32) (y0 : Int32) : Option (qS) :=
  fM_instruction_81 300 S x1 y0 0
def fM_instruction_65  (S : qS) (x1 : Int32) (x2 : Int32) : Option (qS) :=
  if x2 = 0 then
    (fM_shape S x1).bind fun q2 =>
    fM_instruction_77 q2.2 x1 q2.1
  else
    fM_instruction_77 S x1 0
def fM_instruction_53  (S : qS) (x1 : Int32) (y0 : Int32) : Option (qS) :=
  if y0 = 0 then
    fM_instruction_65 S x1 y0
  else
    (fM_wrong S 1 0 0).bind fun S2 =>
    fM_instruction_65 S2 x1 y0
def fM_instruction_48  (S : qS) (x1 : Int32) : Option (qS) :=
  fM_instruction_53 S x1 1
def fM_instruction_52  (S : qS) (x1 : Int32) : Option (qS) :=
  fM_instruction_53 S x1 0
def fM_instruction_41  (S : qS) (x1 : Int32) : Option (qS) :=
  (fM_mode S).bind fun q1 =>
  if q1.1 = 0 then
    fM_instruction_52 q1.2 x1
  else
    fM_instruction_48 q1.2 x1
def fM_instruction  (S : qS) : Option (qS) :=
  (fM_keep S).bind fun S1 =>
  (fM_next (pI (pI S1 7 0) 10 0)).bind fun q2 =>
  if 70 < q2.1 then
    fM_instruction_48 q2.2 q2.1
  else
    if q2.1 = 0 then
      fM_instruction_41 q2.2 q2.1
    else
      if q2.1 = 10 then
        fM_instruction_41 q2.2 q2.1
      else
        if ¬ q2.1 = 11 then
          fM_instruction_52 q2.2 q2.1
        else
          fM_instruction_41 q2.2 q2.1
def fM_run_12  (S : qS) : Option (Int32 × qS) :=
  (fM_fail S 1).bind fun q1 =>
  some (q1.1, q1.2)
def fM_run_60  (S : qS) (x2 : Int32) : Option (Int32 × qS) :=
  some (x2, S)
def fM_run_38 : Nat → qS → Int32 → Int32 → Option (Int32 × qS)
  | 0, _, _, _ => none
  | n + 1, S, x1, x2 =>
      if x1 ≤ x2 then
        fM_run_60 S x2
      else
        if ¬ (S.1 2) = 0 then
          fM_run_60 S x2
        else
          (fM_instruction S).bind fun S3 =>
          (fM_run_38 n) S3 x1 (x2 + 1)
def fM_run  (S : qS) (a1 : Int32) : Option (Int32 × qS) :=
  if a1 < 1 then
    fM_run_12 S
  else
    if a1 ≤ 200 then
      if (S.1 2) = 0 then
        fM_run_38 300 (pI S 0 0) a1 0
      else
        (fM_fail S 2).bind fun q4 =>
        some (q4.1, q4.2)
    else
      fM_run_12 S
def fM_reach_9  (S : qS) : Option (Int32 × qS) :=
  (fM_fail S 1).bind fun q1 =>
  some (q1.1, q1.2)
def fM_reach  (S : qS) (a1 : Int32) (a2 : Int32) (a3 : Int32) : Option (Int32 × qS) :=
  if a3 < 0 then
    fM_reach_9 S
  else
    if a3 ≤ 3 then
      (fM_find (pI S 0 0) a1 a2 a3).bind fun q3 =>
      some (q3.1, q3.2)
    else
      fM_reach_9 S
def fM_state_53  (S : qS) (y0 : Int32) : Option (Int32 × qS) :=
  some (y0, S)
def fM_state  (S : qS) (a1 : Int32) : Option (Int32 × qS) :=
  if ¬ a1 = 0 then
    if ¬ a1 = 1 then
      if ¬ a1 = 2 then
        if ¬ a1 = 3 then
          fM_state_53 (pI S 0 0) (-1)
        else
          fM_state_53 (pI S 0 0) ((pI S 0 0).1 5)
      else
        fM_state_53 (pI S 0 0) ((pI S 0 0).1 4)
    else
      fM_state_53 (pI S 0 0) ((pI S 0 0).1 3)
  else
    fM_state_53 (pI S 0 0) ((pI S 0 0).1 2)
