def fC_Ch_add (w : CS) (a1 : Int32) : Option (CS) :=
  if a1 = (-1 : Int32) then
    some w
  else
    if (144 : Int32) ≤ (w.1 2) then
      some w
    else
      g_ck (w.1 2) 144 <|
      g_let (cP w (w.1 2).toNatClampNeg a1) fun w26 =>
      g_let (cI w26 2 ((w26.1 2) + (1 : Int32))) fun w34 =>
      some w34
def fC_S_trait (w : CS) (a1 : Int32) (a2 : Int32) : Option (Int32 × CS) :=
  if (((17 : Int32) + (a1 * (23 : Int32))) + a2) < (17 : Int32) then
    some ((0 : Int32), w)
  else
    if (1397 : Int32) ≤ (((17 : Int32) + (a1 * (23 : Int32))) + a2) then
      some ((0 : Int32), w)
    else
      g_ck (((17 : Int32) + (a1 * (23 : Int32))) + a2) 1397 <|
      g_let (w.2.1 2 (((17 : Int32) + (a1 * (23 : Int32))) + a2).toNatClampNeg) fun v30 =>
      some (v30.toInt32, w)
def fC_K_isUnderAny (w : CS) (a0 : Int32) (a1 : Int32) : Option (Int32 × CS) :=
  if a0 < 0 then
    some ((0 : Int32), w)
  else
    if (25 : Int32) ≤ a0 then
      some ((0 : Int32), w)
    else
      g_ck a0 25 <|
      g_let (g_above a0.toNatClampNeg) fun v16 =>
      if (v16 &&& a1) = 0 then
        some ((0 : Int32), w)
      else
        some ((1 : Int32), w)
def fC_S_isIn (w : CS) (a1 : Int32) (a2 : Int32) : Option (Int32 × CS) :=
  if a1 = (-1 : Int32) then
    some ((0 : Int32), w)
  else
    Option.bind (fC_S_trait w a1 (0 : Int32)) fun q8 =>
    Option.bind (fC_K_isUnderAny q8.2 q8.1 a2) fun q12 =>
    if q12.1 = 0 then
      some ((0 : Int32), q12.2)
    else
      some ((1 : Int32), q12.2)
def fC_S_places (w : CS) (a1 : Int32) : Option (Int32 × CS) :=
  Option.bind (fC_S_trait w a1 (10 : Int32)) fun q4 =>
  some (q4.1, q4.2)
def fC_S_placeCell (w : CS) (a0 : Int32) (a1 : Int32) : Option (Int32 × CS) :=
  some ((((17 : Int32) + (a0 * (23 : Int32))) + (11 : Int32)) + a1, w)
def fC_S_atPlace (w : CS) (a1 : Int32) (a2 : Int32) : Option (Int64 × CS) :=
  if a2 < 0 then
    some ((-1 : Int64), w)
  else
    Option.bind (fC_S_trait w a1 (10 : Int32)) fun q9 =>
    if q9.1 ≤ a2 then
      some ((-1 : Int64), q9.2)
    else
      Option.bind (fC_S_placeCell q9.2 a1 a2) fun q21 =>
      g_ck q21.1 1397 <|
      g_let (q21.2.2.1 2 q21.1.toNatClampNeg) fun v24 =>
      some (v24, q21.2)
def fC_Ch_addPartsOf_17 : Nat → CS → Int32 → Int32 → Option (CS)
  | 0, _, _, _ => none
  | n + 1, w, x2, x3 =>
    Option.bind (fC_S_places w x2) fun q20 =>
    if q20.1 ≤ x3 then
      some q20.2
    else
      Option.bind (fC_S_atPlace q20.2 x2 x3) fun q30 =>
      Option.bind (fC_Ch_add q30.2 q30.1.toInt32) fun q34 =>
      (fC_Ch_addPartsOf_17 n) q34 x2 (x3 + (1 : Int32))
def fC_Ch_addPartsOf (w : CS) (a2 : Int32) : Option (CS) :=
  Option.bind (fC_S_isIn w a2 (1 : Int32)) fun q3 =>
  if q3.1 = 0 then
    fC_Ch_addPartsOf_17 g_fuel q3.2 a2 (0 : Int32)
  else
    Option.bind (fC_Ch_add q3.2 a2) fun q11 =>
    some q11
def fC_Ch_lineUp_24 : Nat → CS → Int32 → Int32 → Option (CS)
  | 0, _, _, _ => none
  | n + 1, w, x2, x3 =>
    Option.bind (fC_S_places w x2) fun q27 =>
    if q27.1 ≤ x3 then
      some q27.2
    else
      Option.bind (fC_S_atPlace q27.2 x2 x3) fun q38 =>
      Option.bind (fC_Ch_addPartsOf q38.2 q38.1.toInt32) fun q42 =>
      (fC_Ch_lineUp_24 n) q42 x2 (x3 + (1 : Int32))
def fC_Ch_lineUp (w : CS) (a2 : Int32) : Option (CS) :=
  g_let (cI w 2 (0 : Int32)) fun w2 =>
  Option.bind (fC_S_isIn w2 a2 (8388608 : Int32)) fun q9 =>
  if q9.1 = 0 then
    Option.bind (fC_Ch_addPartsOf q9.2 a2) fun q18 =>
    some q18
  else
    fC_Ch_lineUp_24 g_fuel q9.2 a2 (0 : Int32)
def fC_Ch_partAt (w : CS) (a1 : Int32) : Option (Int32 × CS) :=
  if a1 < 0 then
    some ((-1 : Int32), w)
  else
    if (w.1 2) ≤ a1 then
      some ((-1 : Int32), w)
    else
      if (144 : Int32) ≤ a1 then
        some ((-1 : Int32), w)
      else
        g_ck a1 144 <|
        g_let (w.2.2.1 a1.toNatClampNeg) fun v26 =>
        some (v26, w)
def fC_K_asHeldIn (w : CS) (a0 : Int32) (a1 : Int64) : Option (Int64 × CS) :=
  if a0 = (13 : Int32) then
    some (a1.toInt32.toInt64, w)
  else
  if a0 = (14 : Int32) then
    some (a1.toInt32.toInt8.toInt32.toInt64, w)
  else
    some (a1, w)
def fC_K_fittingIn (w : CS) (a0 : Int32) : Option (Int32 × CS) :=
  if a0 < (16 : Int32) then
    some ((0 : Int32), w)
  else
    if (9 : Int32) ≤ (a0 - (16 : Int32)) then
      some ((0 : Int32), w)
    else
      g_ck (a0 - (16 : Int32)) 9 <|
      g_let (g_wanted (a0 - (16 : Int32)).toNatClampNeg) fun v25 =>
      some ((1 : Int32) <<< (v25 &&& 31), w)
def fC_K_isCopied (w : CS) (a0 : Int32) (a1 : Int32) : Option (Int32 × CS) :=
  Option.bind (fC_K_isUnderAny w a0 (57344 : Int32)) fun q3 =>
  if q3.1 = 0 then
    Option.bind (fC_K_isUnderAny q3.2 a0 (10682368 : Int32)) fun q23 =>
    if q23.1 = 0 then
      some ((0 : Int32), q23.2)
    else
      Option.bind (fC_K_isUnderAny q23.2 a1 (10682368 : Int32)) fun q32 =>
      if q32.1 = 0 then
        some ((0 : Int32), q32.2)
      else
        some ((1 : Int32), q32.2)
  else
    if a0 = a1 then
      some ((1 : Int32), q3.2)
    else
      some ((0 : Int32), q3.2)
def fC_K_isKind (w : CS) (a0 : Int32) : Option (Int32 × CS) :=
  if a0 < 0 then
    some ((0 : Int32), w)
  else
    if (25 : Int32) ≤ a0 then
      some ((0 : Int32), w)
    else
      some ((1 : Int32), w)
def fC_K_isMade (w : CS) (a0 : Int32) : Option (Int32 × CS) :=
  Option.bind (fC_K_isKind w a0) fun q1 =>
  if q1.1 = 0 then
    some ((0 : Int32), q1.2)
  else
    if a0 = (12 : Int32) then
      some ((0 : Int32), q1.2)
    else
      some ((1 : Int32), q1.2)
def fC_S_grow (w : CS) (a1 : Int32) (a2 : Int32) (a3 : Int32) : Option (CS) :=
  if (((17 : Int32) + (a1 * (23 : Int32))) + a2) < (17 : Int32) then
    some w
  else
    if (1397 : Int32) ≤ (((17 : Int32) + (a1 * (23 : Int32))) + a2) then
      some w
    else
      g_ck (((17 : Int32) + (a1 * (23 : Int32))) + a2) 1397 <|
      g_let (w.2.1 2 (((17 : Int32) + (a1 * (23 : Int32))) + a2).toNatClampNeg) fun v40 =>
      g_ck (((17 : Int32) + (a1 * (23 : Int32))) + a2) 1397 <|
      g_let (cL w 2 (((17 : Int32) + (a1 * (23 : Int32))) + a2).toNatClampNeg ((v40.toInt32 + a3).toInt64)) fun w45 =>
      some w45
def fC_Ru_bend_12 (w : CS) (x2 : Int32) (x3 : Int32) : Option (Int32 × CS) :=
  some (x3 + ((x2 - x3) >>> ((2 : Int32) &&& 31)), w)
def fC_Ru_bend (w : CS) (a1 : Int32) (a2 : Int32) (a3 : Int32) : Option (Int32 × CS) :=
  if a3 = a2 then
    fC_Ru_bend_12 w a2 a3
  else
    Option.bind (fC_S_grow w a1 (4 : Int32) (1 : Int32)) fun q9 =>
    fC_Ru_bend_12 q9 a2 a3
def fC_Ru_clip (w : CS) (a1 : Int32) (a2 : Int32) : Option (Int32 × CS) :=
  Option.bind (fC_S_trait w a1 (2 : Int32)) fun q3 =>
  g_let (g_abs q3.1) fun v6 =>
  g_let (g_min v6 a2) fun v14 =>
  g_let (g_max (-v6) v14) fun v17 =>
  some (v17, q3.2)
def fC_Ru_countIn (w : CS) (a1 : Int32) (a2 : Int32) : Option (Int32 × CS) :=
  Option.bind (fC_S_grow w a1 (6 : Int32) (1 : Int32)) fun q5 =>
  Option.bind (fC_S_trait q5 a1 (6 : Int32)) fun q13 =>
  some (a2 + q13.1, q13.2)
def fC_S_setTrait (w : CS) (a1 : Int32) (a2 : Int32) (a3 : Int32) : Option (CS) :=
  if (((17 : Int32) + (a1 * (23 : Int32))) + a2) < (17 : Int32) then
    some w
  else
    if (1397 : Int32) ≤ (((17 : Int32) + (a1 * (23 : Int32))) + a2) then
      some w
    else
      g_ck (((17 : Int32) + (a1 * (23 : Int32))) + a2) 1397 <|
      g_let (cL w 2 (((17 : Int32) + (a1 * (23 : Int32))) + a2).toNatClampNeg a3.toInt64) fun w36 =>
      some w36
def fC_Ru_echo (w : CS) (a1 : Int32) (a2 : Int32) : Option (Int32 × CS) :=
  Option.bind (fC_S_trait w a1 (5 : Int32)) fun q3 =>
  Option.bind (fC_S_setTrait q3.2 a1 (5 : Int32) a2) fun q11 =>
  Option.bind (fC_S_trait q11 a1 (2 : Int32)) fun q19 =>
  some (a2 + ((q3.1 * q19.1) >>> ((4 : Int32) &&& 31)), q19.2)
def fC_Ru_load_101 (w : CS) (x1 : Int32) (x2 : Int32) : Option (Int32 × CS) :=
  Option.bind (fC_S_isIn w x1 (512 : Int32)) fun q106 =>
  if q106.1 = 0 then
    some (x2, q106.2)
  else
    Option.bind (fC_S_trait q106.2 x1 (6 : Int32)) fun q117 =>
    some (x2 + q117.1, q117.2)
def fC_Ru_load_78 (w : CS) (x1 : Int32) (x2 : Int32) : Option (Int32 × CS) :=
  Option.bind (fC_S_isIn w x1 (256 : Int32)) fun q83 =>
  if q83.1 = 0 then
    fC_Ru_load_101 q83.2 x1 x2
  else
    Option.bind (fC_S_trait q83.2 x1 (5 : Int32)) fun q93 =>
    fC_Ru_load_101 q93.2 x1 (x2 + (q93.1 &&& (7 : Int32)))
def fC_Ru_load_65 (w : CS) (x1 : Int32) (x2 : Int32) : Option (Int32 × CS) :=
  Option.bind (fC_S_isIn w x1 (64 : Int32)) fun q69 =>
  if q69.1 = 0 then
    fC_Ru_load_78 q69.2 x1 x2
  else
    fC_Ru_load_78 q69.2 x1 (x2 + (4 : Int32))
def fC_Ru_load_46 (w : CS) (x1 : Int32) (x2 : Int32) : Option (Int32 × CS) :=
  Option.bind (fC_S_isIn w x1 (16 : Int32)) fun q50 =>
  if q50.1 = 0 then
    fC_Ru_load_65 q50.2 x1 x2
  else
    Option.bind (fC_S_trait q50.2 x1 (4 : Int32)) fun q60 =>
    fC_Ru_load_65 q60.2 x1 (x2 + q60.1)
def fC_Ru_load_25 (w : CS) (x1 : Int32) (x2 : Int32) : Option (Int32 × CS) :=
  Option.bind (fC_S_isIn w x1 (4 : Int32)) fun q28 =>
  if q28.1 = 0 then
    fC_Ru_load_46 q28.2 x1 x2
  else
    Option.bind (fC_S_trait q28.2 x1 (2 : Int32)) fun q38 =>
    g_let (g_abs q38.1) fun v41 =>
    fC_Ru_load_46 q38.2 x1 (x2 + v41)
def fC_Ru_load (w : CS) (a1 : Int32) : Option (Int32 × CS) :=
  Option.bind (fC_S_isIn w a1 (1 : Int32)) fun q3 =>
  if q3.1 = 0 then
    some ((0 : Int32), q3.2)
  else
    Option.bind (fC_S_isIn q3.2 a1 (2 : Int32)) fun q16 =>
    if q16.1 = 0 then
      fC_Ru_load_25 q16.2 a1 (2 : Int32)
    else
      fC_Ru_load_25 q16.2 a1 ((2 : Int32) + (3 : Int32))
def fC_Ru_putToRest_85 (w : CS) (x1 : Int32) : Option (CS) :=
  Option.bind (fC_S_isIn w x1 (1024 : Int32)) fun q90 =>
  if q90.1 = 0 then
    some q90.2
  else
    Option.bind (fC_S_setTrait q90.2 x1 (6 : Int32) (100 : Int32)) fun q102 =>
    some q102
def fC_Ru_putToRest_66 (w : CS) (x1 : Int32) : Option (CS) :=
  Option.bind (fC_S_isIn w x1 (512 : Int32)) fun q71 =>
  if q71.1 = 0 then
    fC_Ru_putToRest_85 q71.2 x1
  else
    Option.bind (fC_S_setTrait q71.2 x1 (6 : Int32) (0 : Int32)) fun q82 =>
    fC_Ru_putToRest_85 q82 x1
def fC_Ru_putToRest_41 (w : CS) (x1 : Int32) : Option (CS) :=
  Option.bind (fC_S_isIn w x1 (128 : Int32)) fun q46 =>
  if q46.1 = 0 then
    fC_Ru_putToRest_66 q46.2 x1
  else
    Option.bind (fC_S_trait q46.2 x1 (2 : Int32)) fun q58 =>
    Option.bind (fC_S_setTrait q58.2 x1 (2 : Int32) (q58.1 >>> ((1 : Int32) &&& 31))) fun q63 =>
    fC_Ru_putToRest_66 q63 x1
def fC_Ru_putToRest_24 (w : CS) (x1 : Int32) : Option (CS) :=
  Option.bind (fC_S_isIn w x1 (32 : Int32)) fun q28 =>
  if q28.1 = 0 then
    fC_Ru_putToRest_41 q28.2 x1
  else
    Option.bind (fC_S_setTrait q28.2 x1 (5 : Int32) (0 : Int32)) fun q38 =>
    fC_Ru_putToRest_41 q38 x1
def fC_Ru_putToRest (w : CS) (a1 : Int32) : Option (CS) :=
  Option.bind (fC_S_setTrait w a1 (3 : Int32) (0 : Int32)) fun q4 =>
  Option.bind (fC_S_isIn q4 a1 (16 : Int32)) fun q11 =>
  if q11.1 = 0 then
    fC_Ru_putToRest_24 q11.2 a1
  else
    Option.bind (fC_S_setTrait q11.2 a1 (4 : Int32) (0 : Int32)) fun q21 =>
    fC_Ru_putToRest_24 q21 a1
def fC_Ru_resound (w : CS) (a1 : Int32) (a2 : Int32) : Option (Int32 × CS) :=
  Option.bind (fC_S_grow w a1 (5 : Int32) (a2 >>> ((3 : Int32) &&& 31))) fun q6 =>
  Option.bind (fC_S_trait q6 a1 (8 : Int32)) fun q14 =>
  if a2 ≤ q14.1 then
    some (a2, q14.2)
  else
    Option.bind (fC_S_setTrait q14.2 a1 (8 : Int32) a2) fun q25 =>
    some (a2, q25)
def fC_Ru_tick (w : CS) (a1 : Int32) (a2 : Int32) : Option (Int32 × CS) :=
  Option.bind (fC_S_isIn w a1 (1024 : Int32)) fun q5 =>
  if q5.1 = 0 then
    Option.bind (fC_S_trait q5.2 a1 (9 : Int32)) fun q38 =>
    Option.bind (fC_S_setTrait q38.2 a1 (9 : Int32) (((3 : Int32) * q38.1) + a2)) fun q44 =>
    Option.bind (fC_S_trait q44 a1 (9 : Int32)) fun q51 =>
    some (q51.1, q51.2)
  else
    Option.bind (fC_S_grow q5.2 a1 (6 : Int32) (a2 + (1 : Int32))) fun q18 =>
    Option.bind (fC_S_trait q18 a1 (6 : Int32)) fun q25 =>
    some (q25.1, q25.2)
def fC_Ru_ticksBy_12 : Nat → CS → Int32 → Int32 → Int32 → Int32 → Option (Int32 × CS)
  | 0, _, _, _, _, _ => none
  | n + 1, w, x1, x2, x3, x4 =>
    if x2 ≤ x4 then
      some (x3, w)
    else
      Option.bind (fC_Ru_tick w x1 x4) fun q23 =>
      (fC_Ru_ticksBy_12 n) q23.2 x1 x2 (x3 + q23.1) (x4 + (1 : Int32))
def fC_Ru_ticksBy (w : CS) (a1 : Int32) (a2 : Int32) : Option (Int32 × CS) :=
  if a1 = (-1 : Int32) then
    some ((0 : Int32), w)
  else
    fC_Ru_ticksBy_12 g_fuel w a1 a2 (0 : Int32) (0 : Int32)
def fC_Ru_turn (w : CS) (a1 : Int32) (a2 : Int32) : Option (Int32 × CS) :=
  Option.bind (fC_S_grow w a1 (3 : Int32) (1 : Int32)) fun q4 =>
  Option.bind (fC_S_trait q4 a1 (0 : Int32)) fun q10 =>
  if q10.1 = (2 : Int32) then
    Option.bind (fC_Ru_clip q10.2 a1 a2) fun q67 =>
    some (q67.1, q67.2)
  else
  if q10.1 = (3 : Int32) then
    Option.bind (fC_Ru_clip q10.2 a1 a2) fun q67 =>
    some (q67.1, q67.2)
  else
  if q10.1 = (4 : Int32) then
    Option.bind (fC_Ru_clip q10.2 a1 a2) fun q77 =>
    Option.bind (fC_Ru_bend q77.2 a1 a2 q77.1) fun q80 =>
    some (q80.1, q80.2)
  else
  if q10.1 = (5 : Int32) then
    some (a2, q10.2)
  else
  if q10.1 = (6 : Int32) then
    some (a2, q10.2)
  else
  if q10.1 = (7 : Int32) then
    Option.bind (fC_Ru_echo q10.2 a1 a2) fun q87 =>
    some (q87.1, q87.2)
  else
  if q10.1 = (8 : Int32) then
    Option.bind (fC_Ru_echo q10.2 a1 a2) fun q96 =>
    Option.bind (fC_Ru_resound q96.2 a1 q96.1) fun q99 =>
    some (q99.1, q99.2)
  else
  if q10.1 = (9 : Int32) then
    Option.bind (fC_Ru_countIn q10.2 a1 a2) fun q106 =>
    some (q106.1, q106.2)
  else
  if q10.1 = (10 : Int32) then
    Option.bind (fC_Ru_countIn q10.2 a1 a2) fun q106 =>
    some (q106.1, q106.2)
  else
    some (a2, q10.2)
def fC_Sh_isFull (w : CS)  : Option (Int32 × CS) :=
  if (w.1 3) < (16 : Int32) then
    some ((0 : Int32), w)
  else
    some ((1 : Int32), w)
def fC_Sh_startAnew (w : CS)  : Option (CS) :=
  g_let (cI w 3 (0 : Int32)) fun w2 =>
  g_let (cI w2 4 (1 : Int32)) fun w7 =>
  some w7
def fC_S_thingsMade (w : CS)  : Option (Int32 × CS) :=
  g_ck (16 : Int32) 1397 <|
  g_let (w.2.1 2 (16 : Int32).toNatClampNeg) fun v6 =>
  some (v6.toInt32, w)
def fC_S_hasPlace (w : CS) (a1 : Int32) (a2 : Int32) : Option (Int32 × CS) :=
  if a2 < 0 then
    some ((0 : Int32), w)
  else
    Option.bind (fC_S_trait w a1 (10 : Int32)) fun q9 =>
    if q9.1 ≤ a2 then
      some ((0 : Int32), q9.2)
    else
      some ((1 : Int32), q9.2)
def fC_S_setPlace (w : CS) (a1 : Int32) (a2 : Int32) (a3 : Int64) : Option (CS) :=
  Option.bind (fC_S_hasPlace w a1 a2) fun q3 =>
  if q3.1 = 0 then
    some q3.2
  else
    Option.bind (fC_S_placeCell q3.2 a1 a2) fun q15 =>
    g_ck q15.1 1397 <|
    g_let (cL q15.2 2 q15.1.toNatClampNeg a3) fun w19 =>
    some w19
def fC_S_add_75 : Nat → CS → Int32 → Int32 → Int32 → Option (Int32 × CS)
  | 0, _, _, _, _ => none
  | n + 1, w, x2, x3, x4 =>
    if x2 ≤ x4 then
      some (x3, w)
    else
      Option.bind (fC_S_setPlace w x3 x4 (-1 : Int64)) fun q88 =>
      (fC_S_add_75 n) q88 x2 x3 (x4 + (1 : Int32))
def fC_S_add_63 (w : CS) (x1 : Int32) (x2 : Int32) (x3 : Int32) : Option (Int32 × CS) :=
  Option.bind (fC_K_isUnderAny w x1 (10682368 : Int32)) fun q66 =>
  if q66.1 = 0 then
    some (x3, q66.2)
  else
    fC_S_add_75 g_fuel q66.2 x2 x3 (0 : Int32)
def fC_S_add_46 (w : CS) (x1 : Int32) (x2 : Int32) (x3 : Int32) : Option (Int32 × CS) :=
  Option.bind (fC_K_isUnderAny w x1 (10739712 : Int32)) fun q49 =>
  if q49.1 = 0 then
    fC_S_add_63 q49.2 x1 x2 x3
  else
    Option.bind (fC_S_setTrait q49.2 x3 (10 : Int32) x2) fun q60 =>
    fC_S_add_63 q60 x1 x2 x3
def fC_S_add (w : CS) (a1 : Int32) (a2 : Int32) : Option (Int32 × CS) :=
  Option.bind (fC_S_thingsMade w ) fun q1 =>
  g_ck (16 : Int32) 1397 <|
  g_let (cL q1.2 2 (16 : Int32).toNatClampNeg ((q1.1 + (1 : Int32)).toInt64)) fun w15 =>
  Option.bind (fC_S_setTrait w15 q1.1 (0 : Int32) a1) fun q20 =>
  Option.bind (fC_S_setTrait q20 q1.1 (1 : Int32) q1.1) fun q27 =>
  Option.bind (fC_K_isUnderAny q27 a1 (1 : Int32)) fun q32 =>
  if q32.1 = 0 then
    fC_S_add_46 q32.2 a1 a2 q1.1
  else
    Option.bind (fC_S_setTrait q32.2 q1.1 (2 : Int32) (8 : Int32)) fun q43 =>
    fC_S_add_46 q43 a1 a2 q1.1
def fC_S_cellsInUse (w : CS)  : Option (Int32 × CS) :=
  Option.bind (fC_S_thingsMade w ) fun q3 =>
  g_let (g_min ((17 : Int32) + (q3.1 * (23 : Int32))) (1397 : Int32)) fun v13 =>
  some (v13, q3.2)
def fC_S_countChanges_28 (k4 : CS → Int32 → Int32 → Int32 → Option (Int32 × CS)) (w : CS) (x1 : Int32) (x2 : Int32) (x3 : Int32) : Option (Int32 × CS) :=
  k4 w x1 x2 (x3 + (1 : Int32))
def fC_S_countChanges_4 : Nat → CS → Int32 → Int32 → Int32 → Option (Int32 × CS)
  | 0, _, _, _, _ => none
  | n + 1, w, x1, x2, x3 =>
    if x1 ≤ x3 then
      some (x2, w)
    else
      g_ck x3 1397 <|
      g_let (w.2.1 2 x3.toNatClampNeg) fun v14 =>
      g_ck x3 1397 <|
      g_let (w.2.1 3 x3.toNatClampNeg) fun v20 =>
      if (lg_cmp v14 v20) = 0 then
        fC_S_countChanges_28 (fC_S_countChanges_4 n) w x1 x2 x3
      else
        fC_S_countChanges_28 (fC_S_countChanges_4 n) w x1 (x2 + (1 : Int32)) x3
def fC_S_countChanges (w : CS) (a1 : Int32) : Option (Int32 × CS) :=
  fC_S_countChanges_4 g_fuel w a1 (0 : Int32) (0 : Int32)
def fC_S_dropChanges (w : CS)  : Option (CS) :=
  g_cpk (0 : Int32) (0 : Int32) (1397 : Int32) 1397 1397 <|
  g_let (cC w 3 2 (0 : Int32).toNatClampNeg (0 : Int32).toNatClampNeg (1397 : Int32).toNatClampNeg) fun w13 =>
  some w13
def fC_S_fits (w : CS) (a1 : Int32) (a2 : Int32) : Option (Int32 × CS) :=
  if a1 = (-1 : Int32) then
    some ((1 : Int32), w)
  else
    Option.bind (fC_S_trait w a2 (0 : Int32)) fun q10 =>
    Option.bind (fC_K_fittingIn q10.2 q10.1) fun q13 =>
    Option.bind (fC_S_isIn q13.2 a1 q13.1) fun q16 =>
    if q16.1 = 0 then
      some ((0 : Int32), q16.2)
    else
      some ((1 : Int32), q16.2)
def fC_S_hasPlaces (w : CS) (a1 : Int32) (a2 : Int32) (a3 : Int32) : Option (Int32 × CS) :=
  if a2 < 0 then
    some ((0 : Int32), w)
  else
    if a3 < 0 then
      some ((0 : Int32), w)
    else
      Option.bind (fC_S_trait w a1 (10 : Int32)) fun q17 =>
      if 0 < (lg_cmp (a2.toInt64 + a3.toInt64) q17.1.toInt64) then
        some ((0 : Int32), q17.2)
      else
        some ((1 : Int32), q17.2)
def fC_S_howManyFit_16 : Nat → CS → Int32 → Int32 → Int32 → Int32 → Int32 → Option (Int32 × CS)
  | 0, _, _, _, _, _, _ => none
  | n + 1, w, x1, x2, x3, x4, x5 =>
    if x4 ≤ x5 then
      some (x5, w)
    else
      Option.bind (fC_S_atPlace w x1 (x2 + x5)) fun q30 =>
      Option.bind (fC_S_fits q30.2 q30.1.toInt32 x3) fun q35 =>
      if q35.1 = 0 then
        some (x5, q35.2)
      else
        (fC_S_howManyFit_16 n) q35.2 x1 x2 x3 x4 (x5 + (1 : Int32))
def fC_S_howManyFit (w : CS) (a1 : Int32) (a2 : Int32) (a3 : Int32) (a4 : Int32) : Option (Int32 × CS) :=
  Option.bind (fC_S_isIn w a1 (57344 : Int32)) fun q4 =>
  if q4.1 = 0 then
    fC_S_howManyFit_16 g_fuel q4.2 a1 a2 a3 a4 (0 : Int32)
  else
    some (a4, q4.2)
def fC_S_isHistoryFull (w : CS)  : Option (Int32 × CS) :=
  if (w.1 1) < (512 : Int32) then
    some ((0 : Int32), w)
  else
    some ((1 : Int32), w)
def fC_S_movePlaces (w : CS) (a1 : Int32) (a2 : Int32) (a3 : Int32) (a4 : Int32) (a5 : Int32) : Option (CS) :=
  Option.bind (fC_S_hasPlaces w a1 a2 a5) fun q5 =>
  if q5.1 = 0 then
    some q5.2
  else
    Option.bind (fC_S_hasPlaces q5.2 a3 a4 a5) fun q17 =>
    if q17.1 = 0 then
      some q17.2
    else
      Option.bind (fC_S_placeCell q17.2 a1 a2) fun q29 =>
      Option.bind (fC_S_placeCell q29.2 a3 a4) fun q39 =>
      g_cpk q29.1 q39.1 a5 1397 1397 <|
      g_let (cC q39.2 2 2 q29.1.toNatClampNeg q39.1.toNatClampNeg a5.toNatClampNeg) fun w44 =>
      some w44
def fC__isShelf (w : CS) (a0 : Int32) : Option (Int32 × CS) :=
  if a0 < 0 then
    some ((0 : Int32), w)
  else
    if (16 : Int32) ≤ a0 then
      some ((0 : Int32), w)
    else
      some ((1 : Int32), w)
def fC_S_onShelf (w : CS) (a1 : Int32) : Option (Int32 × CS) :=
  Option.bind (fC__isShelf w a1) fun q1 =>
  if q1.1 = 0 then
    some ((-1 : Int32), q1.2)
  else
    g_ck a1 1397 <|
    g_let (q1.2.2.1 2 a1.toNatClampNeg) fun v12 =>
    some (v12.toInt32, q1.2)
def fC_S_setShelf (w : CS) (a1 : Int32) (a2 : Int32) : Option (CS) :=
  Option.bind (fC__isShelf w a1) fun q1 =>
  if q1.1 = 0 then
    some q1.2
  else
    g_ck a1 1397 <|
    g_let (cL q1.2 2 a1.toNatClampNeg a2.toInt64) fun w14 =>
    some w14
def fC__acts (w : CS)  : Option (Int32 × CS) :=
  g_let (cI w 0 (0 : Int32)) fun w2 =>
  some (w2.1 1, w2)
def fC__refuse (w : CS) (a1 : Int32) : Option (Int32 × CS) :=
  g_let (cI w 0 a1) fun w2 =>
  some ((0 : Int32), w2)
def fC__askWhether (w : CS) (a1 : Int32) (a2 : Int32) : Option (Int32 × CS) :=
  g_let (cI w 0 (0 : Int32)) fun w2 =>
  Option.bind (fC__isShelf w2 a1) fun q6 =>
  if q6.1 = 0 then
    Option.bind (fC__refuse q6.2 (1 : Int32)) fun q21 =>
    some (q21.1, q21.2)
  else
    Option.bind (fC_K_isKind q6.2 a2) fun q13 =>
    if q13.1 = 0 then
      Option.bind (fC__refuse q13.2 (1 : Int32)) fun q21 =>
      some (q21.1, q21.2)
    else
      Option.bind (fC_S_onShelf q13.2 a1) fun q34 =>
      Option.bind (fC_S_isIn q34.2 q34.1 ((1 : Int32) <<< (a2 &&& 31))) fun q40 =>
      if q40.1 = 0 then
        some ((0 : Int32), q40.2)
      else
        some ((1 : Int32), q40.2)
def fC__ask (w : CS) (a1 : Int32) (a2 : Int32) : Option (Int32 × CS) :=
  Option.bind (fC__askWhether w a1 a2) fun q3 =>
  some (q3.1, q3.2)
def fC__holdsNone_64 (w : CS)  : Option (Int32 × CS) :=
  if (w.1 0) = 0 then
    some ((0 : Int32), w)
  else
    some ((1 : Int32), w)
def fC__holdsNone (w : CS) (a1 : Int32) (a2 : Int32) : Option (Int32 × CS) :=
  g_let (cI w 0 (0 : Int32)) fun w2 =>
  Option.bind (fC__isShelf w2 a1) fun q6 =>
  if q6.1 = 0 then
    g_let (cI q6.2 0 (1 : Int32)) fun w14 =>
    fC__holdsNone_64 w14 
  else
    Option.bind (fC_S_onShelf q6.2 a1) fun q25 =>
    if q25.1 = (-1 : Int32) then
      g_let (cI q25.2 0 (2 : Int32)) fun w34 =>
      fC__holdsNone_64 w34 
    else
      Option.bind (fC_S_onShelf q25.2 a1) fun q49 =>
      Option.bind (fC_S_isIn q49.2 q49.1 a2) fun q53 =>
      if q53.1 = 0 then
        g_let (cI q53.2 0 (3 : Int32)) fun w61 =>
        fC__holdsNone_64 w61 
      else
        fC__holdsNone_64 q53.2 
def fC__hasNoPlace_33 (w : CS)  : Option (Int32 × CS) :=
  if (w.1 0) = 0 then
    some ((0 : Int32), w)
  else
    some ((1 : Int32), w)
def fC__hasNoPlace (w : CS) (a1 : Int32) (a2 : Int32) (a3 : Int32) : Option (Int32 × CS) :=
  Option.bind (fC__holdsNone w a1 a2) fun q3 =>
  if q3.1 = 0 then
    Option.bind (fC_S_onShelf q3.2 a1) fun q18 =>
    Option.bind (fC_S_hasPlace q18.2 q18.1 a3) fun q22 =>
    if q22.1 = 0 then
      g_let (cI q22.2 0 (4 : Int32)) fun w30 =>
      fC__hasNoPlace_33 w30 
    else
      fC__hasNoPlace_33 q22.2 
  else
    fC__hasNoPlace_33 q3.2 
def fC__at (w : CS) (a1 : Int32) (a2 : Int32) (a3 : Int32) : Option (Int32 × CS) :=
  Option.bind (fC__hasNoPlace w a1 (8454144 : Int32) a2) fun q5 =>
  if q5.1 = 0 then
    Option.bind (fC_S_onShelf q5.2 a1) fun q22 =>
    Option.bind (fC_S_atPlace q22.2 q22.1 a2) fun q26 =>
    if q26.1.toInt32 = (-1 : Int32) then
      Option.bind (fC__refuse q26.2 (2 : Int32)) fun q40 =>
      some (q40.1, q40.2)
    else
      Option.bind (fC_S_hasPlace q26.2 q26.1.toInt32 a3) fun q51 =>
      if q51.1 = 0 then
        Option.bind (fC__refuse q51.2 (4 : Int32)) fun q59 =>
        some (q59.1, q59.2)
      else
        Option.bind (fC_S_atPlace q51.2 q26.1.toInt32 a3) fun q70 =>
        if q70.1.toInt32 = (-1 : Int32) then
          Option.bind (fC_S_isIn q70.2 q26.1.toInt32 (10682368 : Int32)) fun q90 =>
          if q90.1 = 0 then
            some (q70.1.toInt32, q90.2)
          else
            Option.bind (fC__refuse q90.2 (2 : Int32)) fun q98 =>
            some (q98.1, q98.2)
        else
          some (q70.1.toInt32, q70.2)
  else
    some ((0 : Int32), q5.2)
def fC__begin (w : CS)  : Option (Int32 × CS) :=
  if (w.1 4) = 0 then
    g_let (cI w 0 (0 : Int32)) fun w19 =>
    Option.bind (fC_Sh_startAnew w19 ) fun q26 =>
    some ((1 : Int32), q26)
  else
    Option.bind (fC__refuse w (7 : Int32)) fun q13 =>
    some (q13.1, q13.2)
def fC__makeThing (w : CS) (a1 : Int32) (a2 : Int32) (a3 : Int32) : Option (Int32 × CS) :=
  g_let (cI w 0 (0 : Int32)) fun w2 =>
  Option.bind (fC__isShelf w2 a1) fun q6 =>
  if q6.1 = 0 then
    Option.bind (fC__refuse q6.2 (1 : Int32)) fun q31 =>
    some (q31.1, q31.2)
  else
    Option.bind (fC_K_isMade q6.2 a2) fun q13 =>
    if q13.1 = 0 then
      Option.bind (fC__refuse q13.2 (1 : Int32)) fun q31 =>
      some (q31.1, q31.2)
    else
      if a3 < 0 then
        Option.bind (fC__refuse q13.2 (1 : Int32)) fun q31 =>
        some (q31.1, q31.2)
      else
        if a3 ≤ (12 : Int32) then
          Option.bind (fC_S_thingsMade q13.2 ) fun q39 =>
          if q39.1 < (60 : Int32) then
            Option.bind (fC_S_add q39.2 a2 a3) fun q60 =>
            Option.bind (fC_S_setShelf q60.2 a1 q60.1) fun q72 =>
            some (q60.1, q72)
          else
            Option.bind (fC__refuse q39.2 (6 : Int32)) fun q50 =>
            some (q50.1, q50.2)
        else
          Option.bind (fC__refuse q13.2 (1 : Int32)) fun q31 =>
          some (q31.1, q31.2)
def fC__putOnShelf (w : CS) (a1 : Int32) (a2 : Int32) : Option (Int32 × CS) :=
  Option.bind (fC_S_setShelf w a1 a2) fun q6 =>
  if a2 = (-1 : Int32) then
    some ((0 : Int32), q6)
  else
    some ((1 : Int32), q6)
def fC__layOver (w : CS) (a1 : Int32) (a2 : Int32) : Option (Int32 × CS) :=
  g_let (cI w 0 (0 : Int32)) fun w2 =>
  Option.bind (fC__isShelf w2 a1) fun q6 =>
  if q6.1 = 0 then
    Option.bind (fC__refuse q6.2 (1 : Int32)) fun q21 =>
    some (q21.1, q21.2)
  else
    Option.bind (fC__isShelf q6.2 a2) fun q13 =>
    if q13.1 = 0 then
      Option.bind (fC__refuse q13.2 (1 : Int32)) fun q21 =>
      some (q21.1, q21.2)
    else
      Option.bind (fC_S_onShelf q13.2 a1) fun q32 =>
      Option.bind (fC__putOnShelf q32.2 a2 q32.1) fun q35 =>
      some (q35.1, q35.2)
def fC__plugIn (w : CS) (a1 : Int32) (a2 : Int32) (a3 : Int32) : Option (Int32 × CS) :=
  Option.bind (fC__isShelf w a3) fun q1 =>
  if q1.1 = 0 then
    Option.bind (fC__refuse q1.2 (1 : Int32)) fun q9 =>
    some (q9.1, q9.2)
  else
    Option.bind (fC__hasNoPlace q1.2 a1 (10682368 : Int32) a2) fun q18 =>
    if q18.1 = 0 then
      Option.bind (fC_S_onShelf q18.2 a1) fun q31 =>
      Option.bind (fC_S_onShelf q31.2 a3) fun q41 =>
      Option.bind (fC_S_fits q41.2 q41.1 q31.1) fun q54 =>
      if q54.1 = 0 then
        Option.bind (fC__refuse q54.2 (5 : Int32)) fun q62 =>
        some (q62.1, q62.2)
      else
        Option.bind (fC_S_atPlace q54.2 q31.1 a2) fun q73 =>
        Option.bind (fC_S_setPlace q73.2 q31.1 a2 q41.1.toInt64) fun q88 =>
        if (lg_cmp q73.1 (-1 : Int64)) = 0 then
          some ((0 : Int32), q88)
        else
          some ((1 : Int32), q88)
    else
      some ((0 : Int32), q18.2)
def fC__pullOut (w : CS) (a1 : Int32) (a2 : Int32) (a3 : Int32) : Option (Int32 × CS) :=
  Option.bind (fC__isShelf w a3) fun q1 =>
  if q1.1 = 0 then
    Option.bind (fC__refuse q1.2 (1 : Int32)) fun q9 =>
    some (q9.1, q9.2)
  else
    Option.bind (fC__hasNoPlace q1.2 a1 (10682368 : Int32) a2) fun q18 =>
    if q18.1 = 0 then
      Option.bind (fC_S_onShelf q18.2 a1) fun q37 =>
      Option.bind (fC_S_atPlace q37.2 q37.1 a2) fun q41 =>
      Option.bind (fC__putOnShelf q41.2 a3 q41.1.toInt32) fun q45 =>
      some (q45.1, q45.2)
    else
      some ((0 : Int32), q18.2)
def fC__isEitherEmpty_56 (w : CS)  : Option (Int32 × CS) :=
  if (w.1 0) = 0 then
    some ((0 : Int32), w)
  else
    some ((1 : Int32), w)
def fC__isEitherEmpty_19 (w : CS)  : Option (Int32 × CS) :=
  g_let (cI w 0 (1 : Int32)) fun w21 =>
  fC__isEitherEmpty_56 w21 
def fC__isEitherEmpty_51 (w : CS)  : Option (Int32 × CS) :=
  g_let (cI w 0 (2 : Int32)) fun w53 =>
  fC__isEitherEmpty_56 w53 
def fC__isEitherEmpty (w : CS) (a1 : Int32) (a2 : Int32) : Option (Int32 × CS) :=
  g_let (cI w 0 (0 : Int32)) fun w2 =>
  Option.bind (fC__isShelf w2 a1) fun q6 =>
  if q6.1 = 0 then
    fC__isEitherEmpty_19 q6.2 
  else
    Option.bind (fC__isShelf q6.2 a2) fun q13 =>
    if q13.1 = 0 then
      fC__isEitherEmpty_19 q13.2 
    else
      Option.bind (fC_S_onShelf q13.2 a1) fun q32 =>
      if q32.1 = (-1 : Int32) then
        fC__isEitherEmpty_51 q32.2 
      else
        Option.bind (fC_S_onShelf q32.2 a2) fun q44 =>
        if q44.1 = (-1 : Int32) then
          fC__isEitherEmpty_51 q44.2 
        else
          fC__isEitherEmpty_56 q44.2 
def fC__copyPlaces (w : CS) (a1 : Int32) (a2 : Int32) (a3 : Int32) (a4 : Int32) (a5 : Int32) : Option (Int32 × CS) :=
  Option.bind (fC__isEitherEmpty w a1 a3) fun q3 =>
  if q3.1 = 0 then
    Option.bind (fC_S_onShelf q3.2 a1) fun q16 =>
    Option.bind (fC_S_onShelf q16.2 a3) fun q26 =>
    Option.bind (fC_S_trait q26.2 q16.1 (0 : Int32)) fun q38 =>
    Option.bind (fC_S_trait q38.2 q26.1 (0 : Int32)) fun q48 =>
    Option.bind (fC_K_isCopied q48.2 q38.1 q48.1) fun q51 =>
    if q51.1 = 0 then
      Option.bind (fC__refuse q51.2 (3 : Int32)) fun q59 =>
      some (q59.1, q59.2)
    else
      Option.bind (fC_S_hasPlaces q51.2 q16.1 a2 a5) fun q72 =>
      if q72.1 = 0 then
        Option.bind (fC__refuse q72.2 (4 : Int32)) fun q96 =>
        some (q96.1, q96.2)
      else
        Option.bind (fC_S_hasPlaces q72.2 q26.1 a4 a5) fun q88 =>
        if q88.1 = 0 then
          Option.bind (fC__refuse q88.2 (4 : Int32)) fun q96 =>
          some (q96.1, q96.2)
        else
          Option.bind (fC_S_howManyFit q88.2 q16.1 a2 q26.1 a5) fun q111 =>
          Option.bind (fC_S_movePlaces q111.2 q16.1 a2 q26.1 a4 q111.1) fun q129 =>
          if a5 ≤ q111.1 then
            some (q111.1, q129)
          else
            g_let (cI q129 0 (5 : Int32)) fun w141 =>
            some (q111.1, w141)
  else
    some ((0 : Int32), q3.2)
def fC__writeNumber (w : CS) (a1 : Int32) (a2 : Int32) (a3 : Int64) : Option (Int32 × CS) :=
  Option.bind (fC__hasNoPlace w a1 (57344 : Int32) a2) fun q5 =>
  if q5.1 = 0 then
    Option.bind (fC_S_onShelf q5.2 a1) fun q18 =>
    Option.bind (fC_S_trait q18.2 q18.1 (0 : Int32)) fun q37 =>
    Option.bind (fC_K_asHeldIn q37.2 q37.1 a3) fun q41 =>
    Option.bind (fC_S_setPlace q41.2 q18.1 a2 q41.1) fun q44 =>
    some ((1 : Int32), q44)
  else
    some ((0 : Int32), q5.2)
def fC__setKnob (w : CS) (a1 : Int32) (a2 : Int32) : Option (Int32 × CS) :=
  if a2 < (-1000 : Int32) then
    Option.bind (fC__refuse w (1 : Int32)) fun q16 =>
    some (q16.1, q16.2)
  else
    if a2 ≤ (1000 : Int32) then
      Option.bind (fC__holdsNone w a1 (1 : Int32)) fun q23 =>
      if q23.1 = 0 then
        Option.bind (fC_S_onShelf q23.2 a1) fun q36 =>
        Option.bind (fC_S_trait q36.2 q36.1 (2 : Int32)) fun q46 =>
        Option.bind (fC_S_setTrait q46.2 q36.1 (2 : Int32) a2) fun q58 =>
        some (q46.1, q58)
      else
        some ((0 : Int32), q23.2)
    else
      Option.bind (fC__refuse w (1 : Int32)) fun q16 =>
      some (q16.1, q16.2)
def fC__playChain_4 : Nat → CS → Int32 → Int32 → Option (Int32 × CS)
  | 0, _, _, _ => none
  | n + 1, w, x2, x3 =>
    if (w.1 2) ≤ x3 then
      some (x2, w)
    else
      Option.bind (fC_Ch_partAt w x3) fun q24 =>
      Option.bind (fC_Ru_turn q24.2 q24.1 x2) fun q28 =>
      (fC__playChain_4 n) q28.2 q28.1 (x3 + (1 : Int32))
def fC__playChain (w : CS) (a1 : Int32) : Option (Int32 × CS) :=
  fC__playChain_4 g_fuel w a1 (0 : Int32)
def fC__playOnce (w : CS) (a1 : Int32) (a2 : Int32) : Option (Int32 × CS) :=
  Option.bind (fC__holdsNone w a1 (8519681 : Int32)) fun q5 =>
  if q5.1 = 0 then
    Option.bind (fC_S_onShelf q5.2 a1) fun q26 =>
    Option.bind (fC_Ch_lineUp q26.2 q26.1) fun q29 =>
    Option.bind (fC__playChain q29 a2) fun q34 =>
    some (q34.1, q34.2)
  else
    some ((0 : Int32), q5.2)
def fC__runOver_91 : Nat → CS → Int32 → Int32 → Int32 → Option (Int32 × CS)
  | 0, _, _, _, _ => none
  | n + 1, w, x4, x5, x6 =>
    if x5 ≤ x6 then
      some (x5, w)
    else
      Option.bind (fC_S_atPlace w x4 x6) fun q115 =>
      Option.bind (fC__playChain q115.2 q115.1.toInt32) fun q119 =>
      Option.bind (fC_S_setPlace q119.2 x4 x6 q119.1.toInt64) fun q123 =>
      (fC__runOver_91 n) q123 x4 x5 (x6 + (1 : Int32))
def fC__runOver (w : CS) (a1 : Int32) (a2 : Int32) : Option (Int32 × CS) :=
  Option.bind (fC__isEitherEmpty w a1 a2) fun q3 =>
  if q3.1 = 0 then
    Option.bind (fC_S_onShelf q3.2 a1) fun q16 =>
    Option.bind (fC_S_onShelf q16.2 a2) fun q25 =>
    Option.bind (fC_S_isIn q25.2 q16.1 (8519681 : Int32)) fun q38 =>
    if q38.1 = 0 then
      Option.bind (fC__refuse q38.2 (3 : Int32)) fun q61 =>
      some (q61.1, q61.2)
    else
      Option.bind (fC_S_isIn q38.2 q25.1 (8192 : Int32)) fun q53 =>
      if q53.1 = 0 then
        Option.bind (fC__refuse q53.2 (3 : Int32)) fun q61 =>
        some (q61.1, q61.2)
      else
        Option.bind (fC_Ch_lineUp q53.2 q16.1) fun q74 =>
        Option.bind (fC_S_places q74 q25.1) fun q83 =>
        fC__runOver_91 g_fuel q83.2 q25.1 q83.1 (0 : Int32)
  else
    some ((0 : Int32), q3.2)
def fC__tickOn_68 : Nat → CS → Int32 → Int32 → Int32 → Int32 → Option (Int32 × CS)
  | 0, _, _, _, _, _ => none
  | n + 1, w, x2, x3, x4, x5 =>
    Option.bind (fC_S_places w x3) fun q75 =>
    if q75.1 ≤ x5 then
      some (x4, q75.2)
    else
      Option.bind (fC_S_atPlace q75.2 x3 x5) fun q94 =>
      Option.bind (fC_Ru_ticksBy q94.2 q94.1.toInt32 x2) fun q99 =>
      (fC__tickOn_68 n) q99.2 x2 x3 (x4 + q99.1) (x5 + (1 : Int32))
def fC__tickOn (w : CS) (a1 : Int32) (a2 : Int32) : Option (Int32 × CS) :=
  if a2 < 0 then
    Option.bind (fC__refuse w (1 : Int32)) fun q12 =>
    some (q12.1, q12.2)
  else
    if a2 ≤ (8 : Int32) then
      Option.bind (fC__holdsNone w a1 (2101248 : Int32)) fun q21 =>
      if q21.1 = 0 then
        Option.bind (fC_S_onShelf q21.2 a1) fun q34 =>
        Option.bind (fC_S_isIn q34.2 q34.1 (4096 : Int32)) fun q46 =>
        if q46.1 = 0 then
          fC__tickOn_68 g_fuel q46.2 a2 q34.1 (0 : Int32) (0 : Int32)
        else
          Option.bind (fC_Ru_ticksBy q46.2 q34.1 a2) fun q58 =>
          some (q58.1, q58.2)
      else
        some ((0 : Int32), q21.2)
    else
      Option.bind (fC__refuse w (1 : Int32)) fun q12 =>
      some (q12.1, q12.2)
def fC__restAll_34 : Nat → CS → Int32 → Option (Int32 × CS)
  | 0, _, _ => none
  | n + 1, w, x2 =>
    if (w.1 2) ≤ x2 then
      some (w.1 2, w)
    else
      Option.bind (fC_Ch_partAt w x2) fun q54 =>
      Option.bind (fC_Ru_putToRest q54.2 q54.1) fun q57 =>
      (fC__restAll_34 n) q57 (x2 + (1 : Int32))
def fC__restAll (w : CS) (a1 : Int32) : Option (Int32 × CS) :=
  Option.bind (fC__holdsNone w a1 (8519681 : Int32)) fun q5 =>
  if q5.1 = 0 then
    Option.bind (fC_S_onShelf q5.2 a1) fun q26 =>
    Option.bind (fC_Ch_lineUp q26.2 q26.1) fun q29 =>
    fC__restAll_34 g_fuel q29 (0 : Int32)
  else
    some ((0 : Int32), q5.2)
def fC__end (w : CS)  : Option (Int32 × CS) :=
  if (w.1 4) = 0 then
    Option.bind (fC__refuse w (7 : Int32)) fun q13 =>
    some (q13.1, q13.2)
  else
    g_let (cI w 0 (0 : Int32)) fun w19 =>
    g_let (cI w19 4 (0 : Int32)) fun w27 =>
    some (w27.1 3, w27)
def fC__read (w : CS) (a1 : Int32) (a2 : Int32) : Option (Int64 × CS) :=
  Option.bind (fC__hasNoPlace w a1 (57344 : Int32) a2) fun q5 =>
  if q5.1 = 0 then
    Option.bind (fC_S_onShelf q5.2 a1) fun q24 =>
    Option.bind (fC_S_atPlace q24.2 q24.1 a2) fun q28 =>
    some (q28.1, q28.2)
  else
    some ((0 : Int64), q5.2)
def fC__size (w : CS) (a1 : Int32) : Option (Int32 × CS) :=
  Option.bind (fC__holdsNone w a1 (10739712 : Int32)) fun q4 =>
  if q4.1 = 0 then
    Option.bind (fC_S_onShelf q4.2 a1) fun q23 =>
    Option.bind (fC_S_places q23.2 q23.1) fun q26 =>
    some (q26.1, q26.2)
  else
    some ((0 : Int32), q4.2)
def fC__takeFromRow (w : CS) (a1 : Int32) (a2 : Int32) (a3 : Int32) : Option (Int64 × CS) :=
  Option.bind (fC_S_hasPlace w a1 a3) fun q6 =>
  if q6.1 = 0 then
    Option.bind (fC__refuse q6.2 (4 : Int32)) fun q14 =>
    some (q14.1.toInt64, q14.2)
  else
    Option.bind (fC_S_atPlace q6.2 a1 a3) fun q25 =>
    Option.bind (fC_K_isUnderAny q25.2 a2 (57344 : Int32)) fun q33 =>
    if q33.1 = 0 then
      if (lg_cmp q25.1 (-1 : Int64)) = 0 then
        Option.bind (fC__refuse q33.2 (2 : Int32)) fun q53 =>
        some (q53.1.toInt64, q53.2)
      else
        Option.bind (fC_K_isUnderAny q33.2 a2 (8454144 : Int32)) fun q61 =>
        if q61.1 = 0 then
          some (q25.1, q61.2)
        else
          Option.bind (fC_S_places q61.2 q25.1.toInt32) fun q74 =>
          some (q74.1.toInt64, q74.2)
    else
      some (q25.1, q33.2)
def fC__takeFromOther (w : CS) (a1 : Int32) (a2 : Int32) : Option (Int32 × CS) :=
  if a2 = (0 : Int32) then
    Option.bind (fC_S_trait w a1 (3 : Int32)) fun q74 =>
    some (q74.1, q74.2)
  else
  if a2 = (1 : Int32) then
    Option.bind (fC_Ru_load w a1) fun q83 =>
    some (q83.1, q83.2)
  else
  if a2 = (2 : Int32) then
    Option.bind (fC_S_trait w a1 (2 : Int32)) fun q93 =>
    g_let (g_abs q93.1) fun v96 =>
    some (v96, q93.2)
  else
  if a2 = (3 : Int32) then
    Option.bind (fC_S_trait w a1 (4 : Int32)) fun q106 =>
    some (q106.1, q106.2)
  else
  if a2 = (4 : Int32) then
    Option.bind (fC_S_trait w a1 (4 : Int32)) fun q106 =>
    some (q106.1, q106.2)
  else
  if a2 = (5 : Int32) then
    Option.bind (fC_S_trait w a1 (5 : Int32)) fun q148 =>
    some (q148.1, q148.2)
  else
  if a2 = (6 : Int32) then
    Option.bind (fC_S_trait w a1 (5 : Int32)) fun q148 =>
    some (q148.1, q148.2)
  else
  if a2 = (7 : Int32) then
    Option.bind (fC_S_trait w a1 (5 : Int32)) fun q148 =>
    some (q148.1, q148.2)
  else
  if a2 = (8 : Int32) then
    Option.bind (fC_S_trait w a1 (5 : Int32)) fun q148 =>
    some (q148.1, q148.2)
  else
  if a2 = (9 : Int32) then
    Option.bind (fC_S_trait w a1 (6 : Int32)) fun q117 =>
    some (q117.1, q117.2)
  else
  if a2 = (10 : Int32) then
    Option.bind (fC_S_trait w a1 (6 : Int32)) fun q117 =>
    some (q117.1, q117.2)
  else
  if a2 = (11 : Int32) then
    Option.bind (fC_S_trait w a1 (9 : Int32)) fun q128 =>
    some (q128.1, q128.2)
  else
  if a2 = (12 : Int32) then
    Option.bind (fC_S_trait w a1 (0 : Int32)) fun q138 =>
    some (q138.1, q138.2)
  else
    Option.bind (fC_S_trait w a1 (5 : Int32)) fun q148 =>
    some (q148.1, q148.2)
def fC__take (w : CS) (a1 : Int32) (a2 : Int32) (a3 : Int32) : Option (Int64 × CS) :=
  Option.bind (fC__isShelf w a1) fun q1 =>
  if q1.1 = 0 then
    Option.bind (fC__refuse q1.2 (1 : Int32)) fun q16 =>
    some (q16.1.toInt64, q16.2)
  else
    Option.bind (fC_K_isKind q1.2 a2) fun q8 =>
    if q8.1 = 0 then
      Option.bind (fC__refuse q8.2 (1 : Int32)) fun q16 =>
      some (q16.1.toInt64, q16.2)
    else
      Option.bind (fC__holdsNone q8.2 a1 ((1 : Int32) <<< (a2 &&& 31))) fun q26 =>
      if q26.1 = 0 then
        Option.bind (fC_S_onShelf q26.2 a1) fun q39 =>
        Option.bind (fC_K_isUnderAny q39.2 a2 (10739712 : Int32)) fun q47 =>
        if q47.1 = 0 then
          Option.bind (fC__takeFromOther q47.2 q39.1 a2) fun q68 =>
          some (q68.1.toInt64, q68.2)
        else
          Option.bind (fC__takeFromRow q47.2 q39.1 a2 a3) fun q58 =>
          some (q58.1, q58.2)
      else
        some ((0 : Int64), q26.2)
def fC__tell (w : CS) (a1 : Int32) (a2 : Int32) : Option (Int32 × CS) :=
  if a2 < 0 then
    Option.bind (fC__refuse w (1 : Int32)) fun q12 =>
    some (q12.1, q12.2)
  else
    if a2 ≤ (9 : Int32) then
      Option.bind (fC__holdsNone w a1 (-1 : Int32)) fun q19 =>
      if q19.1 = 0 then
        Option.bind (fC_S_onShelf q19.2 a1) fun q32 =>
        if a2 = (7 : Int32) then
          Option.bind (fC_Ru_load q32.2 q32.1) fun q47 =>
          some (q47.1, q47.2)
        else
          Option.bind (fC_S_trait q32.2 q32.1 a2) fun q59 =>
          some (q59.1, q59.2)
      else
        some ((0 : Int32), q19.2)
    else
      Option.bind (fC__refuse w (1 : Int32)) fun q12 =>
      some (q12.1, q12.2)
def fC__why (w : CS)  : Option (Int32 × CS) :=
  some (w.1 0, w)
