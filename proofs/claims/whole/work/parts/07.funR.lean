def fR_isPartUnder_19 : Nat → RS → Int32 → Int32 → Int32 → Option (Int32 × RS)
  | 0, _, _, _, _ => none
  | n + 1, w, x2, x3, x4 =>
    if (6 : Int32) ≤ x4 then
      some ((0 : Int32), w)
    else
      if x3 < 0 then
        some ((0 : Int32), w)
      else
        if x3 = x2 then
          some ((1 : Int32), w)
        else
          g_ck x3 13 <|
          g_let (rAbove x3.toNatClampNeg) fun v42 =>
          (fR_isPartUnder_19 n) w x2 v42 (x4 + (1 : Int32))
def fR_isPartUnder_14 (w : RS) (x1 : Int32) (x2 : Int32) : Option (Int32 × RS) :=
  fR_isPartUnder_19 g_fuel w x2 x1 (0 : Int32)
def fR_isPartUnder (w : RS) (a1 : Int32) (a2 : Int32) : Option (Int32 × RS) :=
  if a1 = (10 : Int32) then
    if a2 = (12 : Int32) then
      some ((1 : Int32), w)
    else
      fR_isPartUnder_14 w a1 a2
  else
    fR_isPartUnder_14 w a1 a2
def fR_isRowOf (w : RS) (a0 : Int32) : Option (Int32 × RS) :=
  if a0 < (17 : Int32) then
    some ((0 : Int32), w)
  else
    if (22 : Int32) < a0 then
      some ((0 : Int32), w)
    else
      some ((1 : Int32), w)
def fR_isBoard (w : RS) (a0 : Int32) : Option (Int32 × RS) :=
  if a0 = (23 : Int32) then
    some ((1 : Int32), w)
  else
    if a0 = (24 : Int32) then
      some ((1 : Int32), w)
    else
      some ((0 : Int32), w)
def fR_isNumberRow (w : RS) (a0 : Int32) : Option (Int32 × RS) :=
  if a0 < (13 : Int32) then
    some ((0 : Int32), w)
  else
    if (15 : Int32) < a0 then
      some ((0 : Int32), w)
    else
      some ((1 : Int32), w)
def fR_isRowOfThings (w : RS) (a0 : Int32) : Option (Int32 × RS) :=
  if a0 < (16 : Int32) then
    some ((0 : Int32), w)
  else
    if (24 : Int32) < a0 then
      some ((0 : Int32), w)
    else
      some ((1 : Int32), w)
def fR_memberOf (w : RS) (a1 : Int32) : Option (Int32 × RS) :=
  g_ck (a1 - (17 : Int32)) 8 <|
  g_let (rMembers (a1 - (17 : Int32)).toNatClampNeg) fun v8 =>
  some (v8, w)
def fR_isUnder_54 (w : RS) (x1 : Int32) (x2 : Int32) : Option (Int32 × RS) :=
  Option.bind (fR_memberOf w x1) fun q57 =>
  Option.bind (fR_memberOf q57.2 x2) fun q62 =>
  Option.bind (fR_isPartUnder q62.2 q57.1 q62.1) fun q65 =>
  g_bool q65.1 (some (q65.1, q65.2))
def fR_isUnder_40 (w : RS) (x1 : Int32) (x2 : Int32) : Option (Int32 × RS) :=
  Option.bind (fR_isBoard w x1) fun q41 =>
  if q41.1 = 0 then
    some ((0 : Int32), q41.2)
  else
    Option.bind (fR_isBoard q41.2 x2) fun q48 =>
    if q48.1 = 0 then
      some ((0 : Int32), q48.2)
    else
      fR_isUnder_54 q48.2 x1 x2
def fR_isUnder_26 (w : RS) (x1 : Int32) (x2 : Int32) : Option (Int32 × RS) :=
  Option.bind (fR_isRowOf w x1) fun q27 =>
  if q27.1 = 0 then
    fR_isUnder_40 q27.2 x1 x2
  else
    Option.bind (fR_isRowOf q27.2 x2) fun q34 =>
    if q34.1 = 0 then
      fR_isUnder_40 q34.2 x1 x2
    else
      fR_isUnder_54 q34.2 x1 x2
def fR_isUnder (w : RS) (a1 : Int32) (a2 : Int32) : Option (Int32 × RS) :=
  if a1 = a2 then
    some ((1 : Int32), w)
  else
    if (12 : Int32) < a1 then
      fR_isUnder_26 w a1 a2
    else
      if (12 : Int32) < a2 then
        fR_isUnder_26 w a1 a2
      else
        Option.bind (fR_isPartUnder w a1 a2) fun q22 =>
        g_bool q22.1 (some (q22.1, q22.2))
def fR_isPart (w : RS) (a1 : Int32) : Option (Int32 × RS) :=
  Option.bind (fR_isUnder w a1 (0 : Int32)) fun q3 =>
  g_bool q3.1 (some (q3.1, q3.2))
def fR_isPlayed (w : RS) (a1 : Int32) : Option (Int32 × RS) :=
  Option.bind (fR_isPart w a1) fun q2 =>
  if q2.1 = 0 then
    Option.bind (fR_isUnder q2.2 a1 (17 : Int32)) fun q12 =>
    if q12.1 = 0 then
      Option.bind (fR_isUnder q12.2 a1 (23 : Int32)) fun q22 =>
      if q22.1 = 0 then
        some ((0 : Int32), q22.2)
      else
        some ((1 : Int32), q22.2)
    else
      some ((1 : Int32), q12.2)
  else
    some ((1 : Int32), q2.2)
def fR_fits (w : RS) (a1 : Int32) (a2 : Int64) : Option (Int32 × RS) :=
  if (lg_cmp a2 (0 : Int64)) = 0 then
    some ((1 : Int32), w)
  else
    g_ck (((0 : Int32) + a2.toInt32) - (1 : Int32)) 557 <|
    g_let (w.2.1 2 (((0 : Int32) + a2.toInt32) - (1 : Int32)).toNatClampNeg) fun v18 =>
    if a1 = (16 : Int32) then
      if v18 = (13 : Int32) then
        some ((1 : Int32), w)
      else
        some ((0 : Int32), w)
    else
      Option.bind (fR_isRowOf w a1) fun q41 =>
      if q41.1 = 0 then
        if a1 = (23 : Int32) then
          Option.bind (fR_isUnder q41.2 v18 (17 : Int32)) fun q75 =>
          g_bool q75.1 (some (q75.1, q75.2))
        else
          Option.bind (fR_isUnder q41.2 v18 (19 : Int32)) fun q75 =>
          g_bool q75.1 (some (q75.1, q75.2))
      else
        Option.bind (fR_memberOf q41.2 a1) fun q52 =>
        Option.bind (fR_isUnder q52.2 v18 q52.1) fun q55 =>
        g_bool q55.1 (some (q55.1, q55.2))
def fR_isShelf (w : RS) (a0 : Int32) : Option (Int32 × RS) :=
  if a0 < 0 then
    some ((0 : Int32), w)
  else
    if (15 : Int32) < a0 then
      some ((0 : Int32), w)
    else
      some ((1 : Int32), w)
def fR_on (w : RS) (a1 : Int32) : Option (Int32 × RS) :=
  g_ck ((540 : Int32) + a1) 557 <|
  g_let (w.2.1 2 ((540 : Int32) + a1).toNatClampNeg) fun v9 =>
  some (v9 - (1 : Int32), w)
def fR_kindOf (w : RS) (a1 : Int32) : Option (Int32 × RS) :=
  g_ck ((0 : Int32) + a1) 557 <|
  g_let (w.2.1 2 ((0 : Int32) + a1).toNatClampNeg) fun v7 =>
  some (v7, w)
def fR_lengthOf (w : RS) (a1 : Int32) : Option (Int32 × RS) :=
  g_ck ((60 : Int32) + a1) 557 <|
  g_let (w.2.1 2 ((60 : Int32) + a1).toNatClampNeg) fun v8 =>
  some (v8, w)
def fR_hasPlace (w : RS) (a1 : Int32) (a2 : Int32) : Option (Int32 × RS) :=
  if a2 < 0 then
    some ((0 : Int32), w)
  else
    Option.bind (fR_lengthOf w a1) fun q7 =>
    if q7.1 ≤ a2 then
      some ((0 : Int32), q7.2)
    else
      some ((1 : Int32), q7.2)
def fR_refuse (w : RS) (a1 : Int32) : Option (Int32 × RS) :=
  g_let (sI w 15 a1) fun w2 =>
  some ((0 : Int32), w2)
def fR_sizeOf (w : RS) (a0 : Int32) : Option (Int32 × RS) :=
  if 0 ≤ a0 then
    some (a0, w)
  else
    some (-a0, w)
def fR_clipped (w : RS) (a1 : Int32) (a2 : Int32) : Option (Int32 × RS) :=
  g_ck ((120 : Int32) + a1) 557 <|
  g_let (w.2.1 2 ((120 : Int32) + a1).toNatClampNeg) fun v8 =>
  Option.bind (fR_sizeOf w v8) fun q9 =>
  if a2 ≤ q9.1 then
    if (-q9.1) ≤ a2 then
      some (a2, q9.2)
    else
      some (-q9.1, q9.2)
  else
    some (q9.1, q9.2)
def fR_turn_96 (w : RS) (x1 : Int32) (x2 : Int32) (x3 : Int32) : Option (Int32 × RS) :=
  g_ck ((300 : Int32) + x1) 557 <|
  g_let (w.2.1 2 ((300 : Int32) + x1).toNatClampNeg) fun v106 =>
  g_ck ((120 : Int32) + x1) 557 <|
  g_let (w.2.1 2 ((120 : Int32) + x1).toNatClampNeg) fun v115 =>
  g_ck ((300 : Int32) + x1) 557 <|
  g_let (sA w 2 ((300 : Int32) + x1).toNatClampNeg x2) fun w132 =>
  if x3 = (8 : Int32) then
    g_ck ((300 : Int32) + x1) 557 <|
    g_let (w132.2.1 2 ((300 : Int32) + x1).toNatClampNeg) fun v149 =>
    g_ck ((300 : Int32) + x1) 557 <|
    g_let (sA w132 2 ((300 : Int32) + x1).toNatClampNeg (v149 + ((x2 + ((v106 * v115) >>> ((4 : Int32) &&& 31))) >>> ((3 : Int32) &&& 31)))) fun w155 =>
    g_ck ((420 : Int32) + x1) 557 <|
    g_let (w155.2.1 2 ((420 : Int32) + x1).toNatClampNeg) fun v176 =>
    if (x2 + ((v106 * v115) >>> ((4 : Int32) &&& 31))) ≤ v176 then
      g_ck ((420 : Int32) + x1) 557 <|
      g_let (w155.2.1 2 ((420 : Int32) + x1).toNatClampNeg) fun v194 =>
      g_ck ((420 : Int32) + x1) 557 <|
      g_let (sA w155 2 ((420 : Int32) + x1).toNatClampNeg v194) fun w195 =>
      some (x2 + ((v106 * v115) >>> ((4 : Int32) &&& 31)), w195)
    else
      g_ck ((420 : Int32) + x1) 557 <|
      g_let (sA w155 2 ((420 : Int32) + x1).toNatClampNeg (x2 + ((v106 * v115) >>> ((4 : Int32) &&& 31)))) fun w195 =>
      some (x2 + ((v106 * v115) >>> ((4 : Int32) &&& 31)), w195)
  else
    some (x2 + ((v106 * v115) >>> ((4 : Int32) &&& 31)), w132)
def fR_turn_211 (w : RS) (x1 : Int32) (x2 : Int32) : Option (Int32 × RS) :=
  g_ck ((360 : Int32) + x1) 557 <|
  g_let (w.2.1 2 ((360 : Int32) + x1).toNatClampNeg) fun v221 =>
  g_ck ((360 : Int32) + x1) 557 <|
  g_let (sA w 2 ((360 : Int32) + x1).toNatClampNeg (v221 + (1 : Int32))) fun w224 =>
  g_ck ((360 : Int32) + x1) 557 <|
  g_let (w224.2.1 2 ((360 : Int32) + x1).toNatClampNeg) fun v235 =>
  some (x2 + v235, w224)
def fR_turn_72 (w : RS) (x2 : Int32) (x4 : Int32) (t3 : Int32) (t2 : Int32) (t1 : Int32) : Option (Int32 × RS) :=
  g_ck t1 557 <|
  g_let (sA w 2 t1.toNatClampNeg (t2 + t3)) fun w73 =>
  some (x4 + ((x2 - x4) >>> ((2 : Int32) &&& 31)), w73)
def fR_turn (w : RS) (a1 : Int32) (a2 : Int32) : Option (Int32 × RS) :=
  Option.bind (fR_kindOf w a1) fun q2 =>
  g_ck ((180 : Int32) + a1) 557 <|
  g_let (q2.2.2.1 2 ((180 : Int32) + a1).toNatClampNeg) fun v16 =>
  g_ck ((180 : Int32) + a1) 557 <|
  g_let (sA q2.2 2 ((180 : Int32) + a1).toNatClampNeg (v16 + (1 : Int32))) fun w19 =>
  if q2.1 = (2 : Int32) then
    Option.bind (fR_clipped w19 a1 a2) fun q33 =>
    some (q33.1, q33.2)
  else
    if q2.1 = (3 : Int32) then
      Option.bind (fR_clipped w19 a1 a2) fun q33 =>
      some (q33.1, q33.2)
    else
      if q2.1 = (4 : Int32) then
        Option.bind (fR_clipped w19 a1 a2) fun q45 =>
        g_ck ((240 : Int32) + a1) 557 <|
        g_let (q45.2.2.1 2 ((240 : Int32) + a1).toNatClampNeg) fun v60 =>
        if q45.1 = a2 then
          fR_turn_72 q45.2 a2 q45.1 (0 : Int32) v60 ((240 : Int32) + a1)
        else
          fR_turn_72 q45.2 a2 q45.1 (1 : Int32) v60 ((240 : Int32) + a1)
      else
        if q2.1 = (7 : Int32) then
          fR_turn_96 w19 a1 a2 q2.1
        else
          if q2.1 = (8 : Int32) then
            fR_turn_96 w19 a1 a2 q2.1
          else
            if q2.1 = (9 : Int32) then
              fR_turn_211 w19 a1 a2
            else
              if q2.1 = (10 : Int32) then
                fR_turn_211 w19 a1 a2
              else
                some (a2, w19)
def fR_load (w : RS) (a1 : Int32) : Option (Int32 × RS) :=
  Option.bind (fR_kindOf w a1) fun q2 =>
  Option.bind (fR_isUnder q2.2 q2.1 (2 : Int32)) fun q9 =>
  if q9.1 = 0 then
    if q2.1 = (1 : Int32) then
      some ((5 : Int32), q9.2)
    else
      if q2.1 = (8 : Int32) then
        g_ck ((300 : Int32) + a1) 557 <|
        g_let (q9.2.2.1 2 ((300 : Int32) + a1).toNatClampNeg) fun v74 =>
        some ((6 : Int32) + (v74 &&& (7 : Int32)), q9.2)
      else
        Option.bind (fR_isUnder q9.2 q2.1 (6 : Int32)) fun q84 =>
        if q84.1 = 0 then
          Option.bind (fR_isUnder q84.2 q2.1 (9 : Int32)) fun q97 =>
          if q97.1 = 0 then
            some ((2 : Int32), q97.2)
          else
            g_ck ((360 : Int32) + a1) 557 <|
            g_let (q97.2.2.1 2 ((360 : Int32) + a1).toNatClampNeg) fun v113 =>
            some ((2 : Int32) + v113, q97.2)
        else
          some ((6 : Int32), q84.2)
  else
    g_ck ((120 : Int32) + a1) 557 <|
    g_let (q9.2.2.1 2 ((120 : Int32) + a1).toNatClampNeg) fun v24 =>
    Option.bind (fR_sizeOf q9.2 v24) fun q25 =>
    if q2.1 = (4 : Int32) then
      g_ck ((240 : Int32) + a1) 557 <|
      g_let (q25.2.2.1 2 ((240 : Int32) + a1).toNatClampNeg) fun v43 =>
      some (((5 : Int32) + q25.1) + v43, q25.2)
    else
      some (((5 : Int32) + q25.1) + (0 : Int32), q25.2)
def fR_calm_100 (w : RS) (x1 : Int32) (x2 : Int32) : Option (RS) :=
  if x2 = (10 : Int32) then
    g_ck ((360 : Int32) + x1) 557 <|
    g_let (sA w 2 ((360 : Int32) + x1).toNatClampNeg (100 : Int32)) fun w117 =>
    some w117
  else
    some w
def fR_calm_83 (w : RS) (x1 : Int32) (x2 : Int32) : Option (RS) :=
  if x2 = (9 : Int32) then
    g_ck ((360 : Int32) + x1) 557 <|
    g_let (sA w 2 ((360 : Int32) + x1).toNatClampNeg (0 : Int32)) fun w99 =>
    fR_calm_100 w99 x1 x2
  else
    fR_calm_100 w x1 x2
def fR_calm_53 (w : RS) (x1 : Int32) (x2 : Int32) : Option (RS) :=
  Option.bind (fR_isUnder w x2 (7 : Int32)) fun q57 =>
  if q57.1 = 0 then
    fR_calm_83 q57.2 x1 x2
  else
    g_ck ((120 : Int32) + x1) 557 <|
    g_let (q57.2.2.1 2 ((120 : Int32) + x1).toNatClampNeg) fun v79 =>
    g_ck ((120 : Int32) + x1) 557 <|
    g_let (sA q57.2 2 ((120 : Int32) + x1).toNatClampNeg (v79 >>> ((1 : Int32) &&& 31))) fun w82 =>
    fR_calm_83 w82 x1 x2
def fR_calm_33 (w : RS) (x1 : Int32) (x2 : Int32) : Option (RS) :=
  Option.bind (fR_isUnder w x2 (5 : Int32)) fun q36 =>
  if q36.1 = 0 then
    fR_calm_53 q36.2 x1 x2
  else
    g_ck ((300 : Int32) + x1) 557 <|
    g_let (sA q36.2 2 ((300 : Int32) + x1).toNatClampNeg (0 : Int32)) fun w52 =>
    fR_calm_53 w52 x1 x2
def fR_calm (w : RS) (a1 : Int32) : Option (RS) :=
  Option.bind (fR_kindOf w a1) fun q2 =>
  g_ck ((180 : Int32) + a1) 557 <|
  g_let (sA q2.2 2 ((180 : Int32) + a1).toNatClampNeg (0 : Int32)) fun w16 =>
  if q2.1 = (4 : Int32) then
    g_ck ((240 : Int32) + a1) 557 <|
    g_let (sA w16 2 ((240 : Int32) + a1).toNatClampNeg (0 : Int32)) fun w32 =>
    fR_calm_33 w32 a1 q2.1
  else
    fR_calm_33 w16 a1 q2.1
def fR_ticksOf_92 (k5 : RS → Int32 → Int32 → Int32 → Int32 → Option (Int32 × RS)) (w : RS) (x1 : Int32) (x2 : Int32) (x3 : Int32) (x4 : Int32) : Option (Int32 × RS) :=
  k5 w x1 x2 x3 (x4 + (1 : Int32))
def fR_ticksOf_5 : Nat → RS → Int32 → Int32 → Int32 → Int32 → Option (Int32 × RS)
  | 0, _, _, _, _, _ => none
  | n + 1, w, x1, x2, x3, x4 =>
    if x2 ≤ x4 then
      some (x3, w)
    else
      Option.bind (fR_kindOf w x1) fun q13 =>
      if q13.1 = (10 : Int32) then
        g_ck ((360 : Int32) + x1) 557 <|
        g_let (q13.2.2.1 2 ((360 : Int32) + x1).toNatClampNeg) fun v31 =>
        g_ck ((360 : Int32) + x1) 557 <|
        g_let (sA q13.2 2 ((360 : Int32) + x1).toNatClampNeg (v31 + (x4 + (1 : Int32)))) fun w37 =>
        g_ck ((360 : Int32) + x1) 557 <|
        g_let (w37.2.1 2 ((360 : Int32) + x1).toNatClampNeg) fun v48 =>
        fR_ticksOf_92 (fR_ticksOf_5 n) w37 x1 x2 (x3 + v48) x4
      else
        g_ck ((480 : Int32) + x1) 557 <|
        g_let (q13.2.2.1 2 ((480 : Int32) + x1).toNatClampNeg) fun v73 =>
        g_ck ((480 : Int32) + x1) 557 <|
        g_let (sA q13.2 2 ((480 : Int32) + x1).toNatClampNeg (((3 : Int32) * v73) + x4)) fun w78 =>
        g_ck ((480 : Int32) + x1) 557 <|
        g_let (w78.2.1 2 ((480 : Int32) + x1).toNatClampNeg) fun v89 =>
        fR_ticksOf_92 (fR_ticksOf_5 n) w78 x1 x2 (x3 + v89) x4
def fR_ticksOf (w : RS) (a1 : Int32) (a2 : Int32) : Option (Int32 × RS) :=
  fR_ticksOf_5 g_fuel w a1 a2 (0 : Int32) (0 : Int32)
def fR_thingAt (w : RS) (a1 : Int32) (a2 : Int32) : Option (Int32 × RS) :=
  g_ck (((12 : Int32) * a1) + a2) 720 <|
  g_let (w.2.2 3 (((12 : Int32) * a1) + a2).toNatClampNeg) fun v10 =>
  some (v10.toInt32 - (1 : Int32), w)
def fR_playRow_37 (k5 : RS → Int32 → Int32 → Int32 → Option (Int32 × RS)) (w : RS) (x1 : Int32) (x3 : Int32) (x4 : Int32) : Option (Int32 × RS) :=
  k5 w x1 x3 (x4 + (1 : Int32))
def fR_playRow_5 : Nat → RS → Int32 → Int32 → Int32 → Option (Int32 × RS)
  | 0, _, _, _, _ => none
  | n + 1, w, x1, x3, x4 =>
    Option.bind (fR_lengthOf w x1) fun q9 =>
    if q9.1 ≤ x4 then
      some (x3, q9.2)
    else
      Option.bind (fR_thingAt q9.2 x1 x4) fun q19 =>
      if q19.1 < 0 then
        fR_playRow_37 (fR_playRow_5 n) q19.2 x1 x3 x4
      else
        Option.bind (fR_turn q19.2 q19.1 x3) fun q33 =>
        fR_playRow_37 (fR_playRow_5 n) q33.2 x1 q33.1 x4
def fR_playRow (w : RS) (a1 : Int32) (a2 : Int32) : Option (Int32 × RS) :=
  fR_playRow_5 g_fuel w a1 a2 (0 : Int32)
def fR_playThing_74 (k42 : RS → Int32 → Int32 → Int32 → Option (Int32 × RS)) (w : RS) (x1 : Int32) (x3 : Int32) (x4 : Int32) : Option (Int32 × RS) :=
  k42 w x1 x3 (x4 + (1 : Int32))
def fR_playThing_42 : Nat → RS → Int32 → Int32 → Int32 → Option (Int32 × RS)
  | 0, _, _, _, _ => none
  | n + 1, w, x1, x3, x4 =>
    Option.bind (fR_lengthOf w x1) fun q46 =>
    if q46.1 ≤ x4 then
      some (x3, q46.2)
    else
      Option.bind (fR_thingAt q46.2 x1 x4) fun q56 =>
      if q56.1 < 0 then
        fR_playThing_74 (fR_playThing_42 n) q56.2 x1 x3 x4
      else
        Option.bind (fR_playRow q56.2 q56.1 x3) fun q70 =>
        fR_playThing_74 (fR_playThing_42 n) q70.2 x1 q70.1 x4
def fR_playThing (w : RS) (a1 : Int32) (a2 : Int32) : Option (Int32 × RS) :=
  Option.bind (fR_kindOf w a1) fun q3 =>
  Option.bind (fR_isPart q3.2 q3.1) fun q6 =>
  if q6.1 = 0 then
    Option.bind (fR_kindOf q6.2 a1) fun q21 =>
    Option.bind (fR_isBoard q21.2 q21.1) fun q24 =>
    if q24.1 = 0 then
      Option.bind (fR_playRow q24.2 a1 a2) fun q33 =>
      some (q33.1, q33.2)
    else
      fR_playThing_42 g_fuel q24.2 a1 a2 (0 : Int32)
  else
    Option.bind (fR_turn q6.2 a1 a2) fun q15 =>
    some (q15.1, q15.2)
def fR_calmRow_35 (k4 : RS → Int32 → Int32 → Int32 → Option (Int32 × RS)) (w : RS) (x1 : Int32) (x2 : Int32) (x3 : Int32) : Option (Int32 × RS) :=
  k4 w x1 x2 (x3 + (1 : Int32))
def fR_calmRow_4 : Nat → RS → Int32 → Int32 → Int32 → Option (Int32 × RS)
  | 0, _, _, _, _ => none
  | n + 1, w, x1, x2, x3 =>
    Option.bind (fR_lengthOf w x1) fun q7 =>
    if q7.1 ≤ x3 then
      some (x2, q7.2)
    else
      Option.bind (fR_thingAt q7.2 x1 x3) fun q16 =>
      if q16.1 < 0 then
        fR_calmRow_35 (fR_calmRow_4 n) q16.2 x1 x2 x3
      else
        Option.bind (fR_calm q16.2 q16.1) fun q29 =>
        fR_calmRow_35 (fR_calmRow_4 n) q29 x1 (x2 + (1 : Int32)) x3
def fR_calmRow (w : RS) (a1 : Int32) : Option (Int32 × RS) :=
  fR_calmRow_4 g_fuel w a1 (0 : Int32) (0 : Int32)
def fR_makeNew_181 (w : RS) (x1 : Int32) (x4 : Int32) (t2 : Int32) (t1 : Int32) : Option (Int32 × RS) :=
  g_ck t1 557 <|
  g_let (sA w 2 t1.toNatClampNeg t2) fun w181 =>
  g_ck ((540 : Int32) + x1) 557 <|
  g_let (sA w181 2 ((540 : Int32) + x1).toNatClampNeg (x4 + (1 : Int32))) fun w195 =>
  g_ck (556 : Int32) 557 <|
  g_let (w195.2.1 2 (556 : Int32).toNatClampNeg) fun v204 =>
  g_ck (556 : Int32) 557 <|
  g_let (sA w195 2 (556 : Int32).toNatClampNeg (v204 + (1 : Int32))) fun w207 =>
  some (x4, w207)
def fR_makeNew_157 (w : RS) (x1 : Int32) (x2 : Int32) (x4 : Int32) (t2 : Int32) (t1 : Int32) : Option (Int32 × RS) :=
  g_ck t1 557 <|
  g_let (sA w 2 t1.toNatClampNeg t2) fun w157 =>
  Option.bind (fR_isPart w157 x2) fun q169 =>
  if q169.1 = 0 then
    fR_makeNew_181 q169.2 x1 x4 (0 : Int32) ((120 : Int32) + x4)
  else
    fR_makeNew_181 q169.2 x1 x4 (8 : Int32) ((120 : Int32) + x4)
def fR_makeNew_100 : Nat → RS → Int32 → Int32 → Int32 → Int32 → Int32 → Option (Int32 × RS)
  | 0, _, _, _, _, _, _ => none
  | n + 1, w, x1, x2, x3, x4, x5 =>
    if (12 : Int32) ≤ x5 then
      g_ck ((0 : Int32) + x4) 557 <|
      g_let (sA w 2 ((0 : Int32) + x4).toNatClampNeg x2) fun w136 =>
      if x2 < (13 : Int32) then
        fR_makeNew_157 w136 x1 x2 x4 (0 : Int32) ((60 : Int32) + x4)
      else
        fR_makeNew_157 w136 x1 x2 x4 x3 ((60 : Int32) + x4)
    else
      g_ck (((12 : Int32) * x4) + x5) 720 <|
      g_let (sL w 3 (((12 : Int32) * x4) + x5).toNatClampNeg (0 : Int64)) fun w120 =>
      (fR_makeNew_100 n) w120 x1 x2 x3 x4 (x5 + (1 : Int32))
def fR_makeNew_72 : Nat → RS → Int32 → Int32 → Int32 → Int32 → Int32 → Option (Int32 × RS)
  | 0, _, _, _, _, _, _ => none
  | n + 1, w, x1, x2, x3, x4, x5 =>
    if (540 : Int32) ≤ x5 then
      fR_makeNew_100 g_fuel w x1 x2 x3 x4 (0 : Int32)
    else
      g_ck (x5 + x4) 557 <|
      g_let (sA w 2 (x5 + x4).toNatClampNeg (0 : Int32)) fun w90 =>
      (fR_makeNew_72 n) w90 x1 x2 x3 x4 (x5 + (60 : Int32))
def fR_makeNew (w : RS) (a1 : Int32) (a2 : Int32) (a3 : Int32) : Option (Int32 × RS) :=
  Option.bind (fR_isShelf w a1) fun q1 =>
  if q1.1 = 0 then
    Option.bind (fR_refuse q1.2 (1 : Int32)) fun q35 =>
    some (q35.1, q35.2)
  else
    if a2 < 0 then
      Option.bind (fR_refuse q1.2 (1 : Int32)) fun q35 =>
      some (q35.1, q35.2)
    else
      if (24 : Int32) < a2 then
        Option.bind (fR_refuse q1.2 (1 : Int32)) fun q35 =>
        some (q35.1, q35.2)
      else
        if a2 = (12 : Int32) then
          Option.bind (fR_refuse q1.2 (1 : Int32)) fun q35 =>
          some (q35.1, q35.2)
        else
          if a3 < 0 then
            Option.bind (fR_refuse q1.2 (1 : Int32)) fun q35 =>
            some (q35.1, q35.2)
          else
            if a3 ≤ (12 : Int32) then
              g_ck (556 : Int32) 557 <|
              g_let (q1.2.2.1 2 (556 : Int32).toNatClampNeg) fun v46 =>
              if v46 = (60 : Int32) then
                Option.bind (fR_refuse q1.2 (6 : Int32)) fun q55 =>
                some (q55.1, q55.2)
              else
                g_ck (556 : Int32) 557 <|
                g_let (q1.2.2.1 2 (556 : Int32).toNatClampNeg) fun v66 =>
                fR_makeNew_72 g_fuel q1.2 a1 a2 a3 v66 (0 : Int32)
            else
              Option.bind (fR_refuse q1.2 (1 : Int32)) fun q35 =>
              some (q35.1, q35.2)
def fR_layOn (w : RS) (a1 : Int32) (a2 : Int32) : Option (Int32 × RS) :=
  Option.bind (fR_isShelf w a1) fun q1 =>
  if q1.1 = 0 then
    Option.bind (fR_refuse q1.2 (1 : Int32)) fun q16 =>
    some (q16.1, q16.2)
  else
    Option.bind (fR_isShelf q1.2 a2) fun q8 =>
    if q8.1 = 0 then
      Option.bind (fR_refuse q8.2 (1 : Int32)) fun q16 =>
      some (q16.1, q16.2)
    else
      g_ck ((540 : Int32) + a1) 557 <|
      g_let (q8.2.2.1 2 ((540 : Int32) + a1).toNatClampNeg) fun v38 =>
      g_ck ((540 : Int32) + a2) 557 <|
      g_let (sA q8.2 2 ((540 : Int32) + a2).toNatClampNeg v38) fun w39 =>
      g_ck ((540 : Int32) + a2) 557 <|
      g_let (w39.2.1 2 ((540 : Int32) + a2).toNatClampNeg) fun v49 =>
      if v49 ≤ 0 then
        some ((0 : Int32), w39)
      else
        some ((1 : Int32), w39)
def fR_reasonOfPlace (w : RS) (a1 : Int32) (a2 : Int32) : Option (Int32 × RS) :=
  Option.bind (fR_on w a1) fun q2 =>
  if 0 ≤ q2.1 then
    Option.bind (fR_on q2.2 a1) fun q13 =>
    Option.bind (fR_kindOf q13.2 q13.1) fun q16 =>
    Option.bind (fR_isRowOfThings q16.2 q16.1) fun q19 =>
    if q19.1 = 0 then
      some ((3 : Int32), q19.2)
    else
      Option.bind (fR_on q19.2 a1) fun q30 =>
      Option.bind (fR_hasPlace q30.2 q30.1 a2) fun q34 =>
      if q34.1 = 0 then
        some ((4 : Int32), q34.2)
      else
        some ((0 : Int32), q34.2)
  else
    some ((2 : Int32), q2.2)
def fR_plugIn_95 (w : RS) (x1 : Int32) (x2 : Int32) (x5 : Int64) (t0 : Int32) : Option (Int32 × RS) :=
  Option.bind (fR_on w x1) fun q105 =>
  g_ck (((12 : Int32) * q105.1) + x2) 720 <|
  g_let (sL q105.2 3 (((12 : Int32) * q105.1) + x2).toNatClampNeg x5) fun w113 =>
  some (t0, w113)
def fR_plugIn (w : RS) (a1 : Int32) (a2 : Int32) (a3 : Int32) : Option (Int32 × RS) :=
  Option.bind (fR_isShelf w a1) fun q1 =>
  if q1.1 = 0 then
    Option.bind (fR_refuse q1.2 (1 : Int32)) fun q16 =>
    some (q16.1, q16.2)
  else
    Option.bind (fR_isShelf q1.2 a3) fun q8 =>
    if q8.1 = 0 then
      Option.bind (fR_refuse q8.2 (1 : Int32)) fun q16 =>
      some (q16.1, q16.2)
    else
      Option.bind (fR_reasonOfPlace q8.2 a1 a2) fun q23 =>
      if q23.1 ≤ 0 then
        g_ck ((540 : Int32) + a3) 557 <|
        g_let (q23.2.2.1 2 ((540 : Int32) + a3).toNatClampNeg) fun v49 =>
        Option.bind (fR_on q23.2 a1) fun q57 =>
        Option.bind (fR_kindOf q57.2 q57.1) fun q60 =>
        Option.bind (fR_fits q60.2 q60.1 v49.toInt64) fun q65 =>
        if q65.1 = 0 then
          Option.bind (fR_refuse q65.2 (5 : Int32)) fun q73 =>
          some (q73.1, q73.2)
        else
          Option.bind (fR_on q65.2 a1) fun q80 =>
          Option.bind (fR_thingAt q80.2 q80.1 a2) fun q84 =>
          if q84.1 < 0 then
            fR_plugIn_95 q84.2 a1 a2 v49.toInt64 (0 : Int32)
          else
            fR_plugIn_95 q84.2 a1 a2 v49.toInt64 (1 : Int32)
      else
        Option.bind (fR_refuse q23.2 q23.1) fun q36 =>
        some (q36.1, q36.2)
def fR_pullOut (w : RS) (a1 : Int32) (a2 : Int32) (a3 : Int32) : Option (Int32 × RS) :=
  Option.bind (fR_isShelf w a1) fun q1 =>
  if q1.1 = 0 then
    Option.bind (fR_refuse q1.2 (1 : Int32)) fun q16 =>
    some (q16.1, q16.2)
  else
    Option.bind (fR_isShelf q1.2 a3) fun q8 =>
    if q8.1 = 0 then
      Option.bind (fR_refuse q8.2 (1 : Int32)) fun q16 =>
      some (q16.1, q16.2)
    else
      Option.bind (fR_reasonOfPlace q8.2 a1 a2) fun q23 =>
      if q23.1 ≤ 0 then
        Option.bind (fR_on q23.2 a1) fun q57 =>
        g_ck (((12 : Int32) * q57.1) + a2) 720 <|
        g_let (q57.2.2.2 3 (((12 : Int32) * q57.1) + a2).toNatClampNeg) fun v63 =>
        g_ck ((540 : Int32) + a3) 557 <|
        g_let (sA q57.2 2 ((540 : Int32) + a3).toNatClampNeg v63.toInt32) fun w65 =>
        g_ck ((540 : Int32) + a3) 557 <|
        g_let (w65.2.1 2 ((540 : Int32) + a3).toNatClampNeg) fun v75 =>
        if v75 ≤ 0 then
          some ((0 : Int32), w65)
        else
          some ((1 : Int32), w65)
      else
        Option.bind (fR_refuse q23.2 q23.1) fun q36 =>
        some (q36.1, q36.2)
def fR_reasonOfCopy_81 (w : RS) (x1 : Int32) (x2 : Int32) (x3 : Int32) (x4 : Int32) (x5 : Int32) : Option (Int32 × RS) :=
  if x2 < 0 then
    some ((4 : Int32), w)
  else
    if x4 < 0 then
      some ((4 : Int32), w)
    else
      if 0 ≤ x5 then
        Option.bind (fR_on w x1) fun q106 =>
        Option.bind (fR_lengthOf q106.2 q106.1) fun q109 =>
        if 0 < (lg_cmp (x2.toInt64 + x5.toInt64) q109.1.toInt64) then
          some ((4 : Int32), q109.2)
        else
          Option.bind (fR_on q109.2 x3) fun q127 =>
          Option.bind (fR_lengthOf q127.2 q127.1) fun q130 =>
          if (lg_cmp (x4.toInt64 + x5.toInt64) q130.1.toInt64) ≤ 0 then
            some ((0 : Int32), q130.2)
          else
            some ((4 : Int32), q130.2)
      else
        some ((4 : Int32), w)
def fR_reasonOfCopy_72 (w : RS) (x1 : Int32) (x2 : Int32) (x3 : Int32) (x4 : Int32) (x5 : Int32) (x6 : Int32) (x7 : Int32) : Option (Int32 × RS) :=
  if x6 = x7 then
    fR_reasonOfCopy_81 w x1 x2 x3 x4 x5
  else
    some ((3 : Int32), w)
def fR_reasonOfCopy (w : RS) (a1 : Int32) (a2 : Int32) (a3 : Int32) (a4 : Int32) (a5 : Int32) : Option (Int32 × RS) :=
  Option.bind (fR_on w a1) fun q2 =>
  if q2.1 < 0 then
    some ((2 : Int32), q2.2)
  else
    Option.bind (fR_on q2.2 a3) fun q10 =>
    if 0 ≤ q10.1 then
      Option.bind (fR_on q10.2 a1) fun q21 =>
      Option.bind (fR_kindOf q21.2 q21.1) fun q24 =>
      Option.bind (fR_on q24.2 a3) fun q32 =>
      Option.bind (fR_kindOf q32.2 q32.1) fun q35 =>
      if q24.1 < (13 : Int32) then
        some ((3 : Int32), q35.2)
      else
        if (13 : Int32) ≤ q35.1 then
          Option.bind (fR_isNumberRow q35.2 q24.1) fun q58 =>
          if q58.1 = 0 then
            Option.bind (fR_isNumberRow q58.2 q35.1) fun q66 =>
            if q66.1 = 0 then
              fR_reasonOfCopy_81 q66.2 a1 a2 a3 a4 a5
            else
              fR_reasonOfCopy_72 q66.2 a1 a2 a3 a4 a5 q24.1 q35.1
          else
            fR_reasonOfCopy_72 q58.2 a1 a2 a3 a4 a5 q24.1 q35.1
        else
          some ((3 : Int32), q35.2)
    else
      some ((2 : Int32), q10.2)
def fR_copyOver_143 (k96 : RS → Int32 → Int32 → Int32 → Int32 → Option (Int32 × RS)) (w : RS) (x4 : Int32) (x5 : Int32) (x7 : Int32) (x8 : Int32) : Option (Int32 × RS) :=
  g_ck x8 12 <|
  g_let (w.2.2 16 x8.toNatClampNeg) fun v164 =>
  g_ck ((((12 : Int32) * x7) + x4) + x8) 720 <|
  g_let (sL w 3 ((((12 : Int32) * x7) + x4) + x8).toNatClampNeg v164) fun w165 =>
  k96 w165 x4 x5 x7 (x8 + (1 : Int32))
def fR_copyOver_96 : Nat → RS → Int32 → Int32 → Int32 → Int32 → Option (Int32 × RS)
  | 0, _, _, _, _, _ => none
  | n + 1, w, x4, x5, x7, x8 =>
    if x5 ≤ x8 then
      some (x5, w)
    else
      Option.bind (fR_kindOf w x7) fun q106 =>
      Option.bind (fR_isNumberRow q106.2 q106.1) fun q109 =>
      if q109.1 = 0 then
        Option.bind (fR_kindOf q109.2 x7) fun q119 =>
        g_ck x8 12 <|
        g_let (q119.2.2.2 16 x8.toNatClampNeg) fun v128 =>
        Option.bind (fR_fits q119.2 q119.1 v128) fun q129 =>
        if q129.1 = 0 then
          g_let (sI q129.2 15 (5 : Int32)) fun w137 =>
          some (x8, w137)
        else
          fR_copyOver_143 (fR_copyOver_96 n) q129.2 x4 x5 x7 x8
      else
        fR_copyOver_143 (fR_copyOver_96 n) q109.2 x4 x5 x7 x8
def fR_copyOver_55 : Nat → RS → Int32 → Int32 → Int32 → Int32 → Int32 → Int32 → Option (Int32 × RS)
  | 0, _, _, _, _, _, _, _ => none
  | n + 1, w, x1, x2, x4, x5, x7, x8 =>
    if x5 ≤ x8 then
      fR_copyOver_96 g_fuel w x4 x5 x7 (0 : Int32)
    else
      Option.bind (fR_on w x1) fun q76 =>
      g_ck ((((12 : Int32) * q76.1) + x2) + x8) 720 <|
      g_let (q76.2.2.2 3 ((((12 : Int32) * q76.1) + x2) + x8).toNatClampNeg) fun v85 =>
      g_ck x8 12 <|
      g_let (sL q76.2 16 x8.toNatClampNeg v85) fun w86 =>
      (fR_copyOver_55 n) w86 x1 x2 x4 x5 x7 (x8 + (1 : Int32))
def fR_copyOver (w : RS) (a1 : Int32) (a2 : Int32) (a3 : Int32) (a4 : Int32) (a5 : Int32) : Option (Int32 × RS) :=
  Option.bind (fR_isShelf w a1) fun q1 =>
  if q1.1 = 0 then
    Option.bind (fR_refuse q1.2 (1 : Int32)) fun q16 =>
    some (q16.1, q16.2)
  else
    Option.bind (fR_isShelf q1.2 a3) fun q8 =>
    if q8.1 = 0 then
      Option.bind (fR_refuse q8.2 (1 : Int32)) fun q16 =>
      some (q16.1, q16.2)
    else
      Option.bind (fR_reasonOfCopy q8.2 a1 a2 a3 a4 a5) fun q28 =>
      if q28.1 ≤ 0 then
        Option.bind (fR_on q28.2 a3) fun q47 =>
        fR_copyOver_55 g_fuel q47.2 a1 a2 a4 a5 q47.1 (0 : Int32)
      else
        Option.bind (fR_refuse q28.2 q28.1) fun q41 =>
        some (q41.1, q41.2)
def fR_writeIn (w : RS) (a1 : Int32) (a2 : Int32) (a3 : Int64) : Option (Int32 × RS) :=
  Option.bind (fR_isShelf w a1) fun q1 =>
  if q1.1 = 0 then
    Option.bind (fR_refuse q1.2 (1 : Int32)) fun q9 =>
    some (q9.1, q9.2)
  else
    Option.bind (fR_on q1.2 a1) fun q15 =>
    if 0 ≤ q15.1 then
      Option.bind (fR_on q15.2 a1) fun q30 =>
      Option.bind (fR_kindOf q30.2 q30.1) fun q33 =>
      Option.bind (fR_isNumberRow q33.2 q33.1) fun q40 =>
      if q40.1 = 0 then
        Option.bind (fR_refuse q40.2 (3 : Int32)) fun q48 =>
        some (q48.1, q48.2)
      else
        Option.bind (fR_on q40.2 a1) fun q55 =>
        Option.bind (fR_hasPlace q55.2 q55.1 a2) fun q59 =>
        if q59.1 = 0 then
          Option.bind (fR_refuse q59.2 (4 : Int32)) fun q67 =>
          some (q67.1, q67.2)
        else
          Option.bind (fR_on q59.2 a1) fun q79 =>
          if q33.1 = (13 : Int32) then
            g_ck (((12 : Int32) * q79.1) + a2) 720 <|
            g_let (sL q79.2 3 (((12 : Int32) * q79.1) + a2).toNatClampNeg a3.toInt32.toInt64) fun w113 =>
            some ((1 : Int32), w113)
          else
            if q33.1 = (14 : Int32) then
              g_ck (((12 : Int32) * q79.1) + a2) 720 <|
              g_let (sL q79.2 3 (((12 : Int32) * q79.1) + a2).toNatClampNeg a3.toInt32.toInt8.toInt32.toInt64) fun w113 =>
              some ((1 : Int32), w113)
            else
              g_ck (((12 : Int32) * q79.1) + a2) 720 <|
              g_let (sL q79.2 3 (((12 : Int32) * q79.1) + a2).toNatClampNeg a3) fun w113 =>
              some ((1 : Int32), w113)
    else
      Option.bind (fR_refuse q15.2 (2 : Int32)) fun q23 =>
      some (q23.1, q23.2)
def fR_knobTo (w : RS) (a1 : Int32) (a2 : Int32) : Option (Int32 × RS) :=
  Option.bind (fR_isShelf w a1) fun q1 =>
  if q1.1 = 0 then
    Option.bind (fR_refuse q1.2 (1 : Int32)) fun q23 =>
    some (q23.1, q23.2)
  else
    if a2 < (-1000 : Int32) then
      Option.bind (fR_refuse q1.2 (1 : Int32)) fun q23 =>
      some (q23.1, q23.2)
    else
      if a2 ≤ (1000 : Int32) then
        Option.bind (fR_on q1.2 a1) fun q29 =>
        if 0 ≤ q29.1 then
          Option.bind (fR_on q29.2 a1) fun q45 =>
          Option.bind (fR_kindOf q45.2 q45.1) fun q48 =>
          Option.bind (fR_isPart q48.2 q48.1) fun q51 =>
          if q51.1 = 0 then
            Option.bind (fR_refuse q51.2 (3 : Int32)) fun q59 =>
            some (q59.1, q59.2)
          else
            Option.bind (fR_on q51.2 a1) fun q71 =>
            g_ck ((120 : Int32) + q71.1) 557 <|
            g_let (q71.2.2.1 2 ((120 : Int32) + q71.1).toNatClampNeg) fun v75 =>
            Option.bind (fR_on q71.2 a1) fun q85 =>
            g_ck ((120 : Int32) + q85.1) 557 <|
            g_let (sA q85.2 2 ((120 : Int32) + q85.1).toNatClampNeg a2) fun w90 =>
            some (v75, w90)
        else
          Option.bind (fR_refuse q29.2 (2 : Int32)) fun q37 =>
          some (q37.1, q37.2)
      else
        Option.bind (fR_refuse q1.2 (1 : Int32)) fun q23 =>
        some (q23.1, q23.2)
def fR_reasonOfPlay (w : RS) (a1 : Int32) : Option (Int32 × RS) :=
  Option.bind (fR_isShelf w a1) fun q1 =>
  if q1.1 = 0 then
    some ((1 : Int32), q1.2)
  else
    Option.bind (fR_on q1.2 a1) fun q11 =>
    if 0 ≤ q11.1 then
      Option.bind (fR_on q11.2 a1) fun q23 =>
      Option.bind (fR_kindOf q23.2 q23.1) fun q26 =>
      Option.bind (fR_isPlayed q26.2 q26.1) fun q29 =>
      if q29.1 = 0 then
        some ((3 : Int32), q29.2)
      else
        some ((0 : Int32), q29.2)
    else
      some ((2 : Int32), q11.2)
def fR_playBy (w : RS) (a1 : Int32) (a2 : Int32) : Option (Int32 × RS) :=
  Option.bind (fR_reasonOfPlay w a1) fun q2 =>
  if q2.1 ≤ 0 then
    Option.bind (fR_on q2.2 a1) fun q19 =>
    Option.bind (fR_playThing q19.2 q19.1 a2) fun q23 =>
    some (q23.1, q23.2)
  else
    Option.bind (fR_refuse q2.2 q2.1) fun q12 =>
    some (q12.1, q12.2)
def fR_runOver_87 : Nat → RS → Int32 → Int32 → Int32 → Option (Int32 × RS)
  | 0, _, _, _, _ => none
  | n + 1, w, x1, x3, x4 =>
    Option.bind (fR_lengthOf w x3) fun q91 =>
    if q91.1 ≤ x4 then
      Option.bind (fR_lengthOf q91.2 x3) fun q140 =>
      some (q140.1, q140.2)
    else
      Option.bind (fR_on q91.2 x1) fun q111 =>
      g_ck (((12 : Int32) * x3) + x4) 720 <|
      g_let (q111.2.2.2 3 (((12 : Int32) * x3) + x4).toNatClampNeg) fun v125 =>
      Option.bind (fR_playThing q111.2 q111.1 v125.toInt32) fun q127 =>
      g_ck (((12 : Int32) * x3) + x4) 720 <|
      g_let (sL q127.2 3 (((12 : Int32) * x3) + x4).toNatClampNeg q127.1.toInt64) fun w131 =>
      (fR_runOver_87 n) w131 x1 x3 (x4 + (1 : Int32))
def fR_runOver (w : RS) (a1 : Int32) (a2 : Int32) : Option (Int32 × RS) :=
  Option.bind (fR_isShelf w a1) fun q1 =>
  if q1.1 = 0 then
    Option.bind (fR_refuse q1.2 (1 : Int32)) fun q16 =>
    some (q16.1, q16.2)
  else
    Option.bind (fR_isShelf q1.2 a2) fun q8 =>
    if q8.1 = 0 then
      Option.bind (fR_refuse q8.2 (1 : Int32)) fun q16 =>
      some (q16.1, q16.2)
    else
      Option.bind (fR_on q8.2 a1) fun q22 =>
      if q22.1 < 0 then
        Option.bind (fR_refuse q22.2 (2 : Int32)) fun q38 =>
        some (q38.1, q38.2)
      else
        Option.bind (fR_on q22.2 a2) fun q30 =>
        if 0 ≤ q30.1 then
          Option.bind (fR_on q30.2 a1) fun q46 =>
          Option.bind (fR_kindOf q46.2 q46.1) fun q49 =>
          Option.bind (fR_isPlayed q49.2 q49.1) fun q52 =>
          if q52.1 = 0 then
            Option.bind (fR_refuse q52.2 (3 : Int32)) fun q74 =>
            some (q74.1, q74.2)
          else
            Option.bind (fR_on q52.2 a2) fun q61 =>
            Option.bind (fR_kindOf q61.2 q61.1) fun q64 =>
            if q64.1 = (13 : Int32) then
              Option.bind (fR_on q64.2 a2) fun q80 =>
              fR_runOver_87 g_fuel q80.2 a1 q80.1 (0 : Int32)
            else
              Option.bind (fR_refuse q64.2 (3 : Int32)) fun q74 =>
              some (q74.1, q74.2)
        else
          Option.bind (fR_refuse q30.2 (2 : Int32)) fun q38 =>
          some (q38.1, q38.2)
def fR_ticksBy_126 (k90 : RS → Int32 → Int32 → Int32 → Int32 → Option (Int32 × RS)) (w : RS) (x2 : Int32) (x3 : Int32) (x4 : Int32) (x5 : Int32) : Option (Int32 × RS) :=
  k90 w x2 x3 x4 (x5 + (1 : Int32))
def fR_ticksBy_90 : Nat → RS → Int32 → Int32 → Int32 → Int32 → Option (Int32 × RS)
  | 0, _, _, _, _, _ => none
  | n + 1, w, x2, x3, x4, x5 =>
    Option.bind (fR_lengthOf w x3) fun q94 =>
    if q94.1 ≤ x5 then
      some (x4, q94.2)
    else
      Option.bind (fR_thingAt q94.2 x3 x5) fun q104 =>
      if q104.1 < 0 then
        fR_ticksBy_126 (fR_ticksBy_90 n) q104.2 x2 x3 x4 x5
      else
        Option.bind (fR_ticksOf q104.2 q104.1 x2) fun q120 =>
        fR_ticksBy_126 (fR_ticksBy_90 n) q120.2 x2 x3 (x4 + q120.1) x5
def fR_ticksBy (w : RS) (a1 : Int32) (a2 : Int32) : Option (Int32 × RS) :=
  Option.bind (fR_isShelf w a1) fun q1 =>
  if q1.1 = 0 then
    Option.bind (fR_refuse q1.2 (1 : Int32)) fun q19 =>
    some (q19.1, q19.2)
  else
    if a2 < 0 then
      Option.bind (fR_refuse q1.2 (1 : Int32)) fun q19 =>
      some (q19.1, q19.2)
    else
      if a2 ≤ (8 : Int32) then
        Option.bind (fR_on q1.2 a1) fun q25 =>
        if 0 ≤ q25.1 then
          Option.bind (fR_on q25.2 a1) fun q39 =>
          Option.bind (fR_kindOf q39.2 q39.1) fun q46 =>
          Option.bind (fR_isUnder q46.2 q46.1 (12 : Int32)) fun q51 =>
          if q51.1 = 0 then
            Option.bind (fR_kindOf q51.2 q39.1) fun q67 =>
            Option.bind (fR_isUnder q67.2 q67.1 (21 : Int32)) fun q72 =>
            if q72.1 = 0 then
              Option.bind (fR_refuse q72.2 (3 : Int32)) fun q80 =>
              some (q80.1, q80.2)
            else
              fR_ticksBy_90 g_fuel q72.2 a2 q39.1 (0 : Int32) (0 : Int32)
          else
            Option.bind (fR_ticksOf q51.2 q39.1 a2) fun q60 =>
            some (q60.1, q60.2)
        else
          Option.bind (fR_refuse q25.2 (2 : Int32)) fun q33 =>
          some (q33.1, q33.2)
      else
        Option.bind (fR_refuse q1.2 (1 : Int32)) fun q19 =>
        some (q19.1, q19.2)
def fR_restOf_99 (k64 : RS → Int32 → Int32 → Int32 → Option (Int32 × RS)) (w : RS) (x3 : Int32) (x4 : Int32) (x5 : Int32) : Option (Int32 × RS) :=
  k64 w x3 x4 (x5 + (1 : Int32))
def fR_restOf_64 : Nat → RS → Int32 → Int32 → Int32 → Option (Int32 × RS)
  | 0, _, _, _, _ => none
  | n + 1, w, x3, x4, x5 =>
    Option.bind (fR_lengthOf w x3) fun q68 =>
    if q68.1 ≤ x5 then
      some (x4, q68.2)
    else
      Option.bind (fR_thingAt q68.2 x3 x5) fun q78 =>
      if q78.1 < 0 then
        fR_restOf_99 (fR_restOf_64 n) q78.2 x3 x4 x5
      else
        Option.bind (fR_calmRow q78.2 q78.1) fun q93 =>
        fR_restOf_99 (fR_restOf_64 n) q93.2 x3 (x4 + q93.1) x5
def fR_restOf (w : RS) (a1 : Int32) : Option (Int32 × RS) :=
  Option.bind (fR_reasonOfPlay w a1) fun q2 =>
  if q2.1 ≤ 0 then
    Option.bind (fR_on q2.2 a1) fun q18 =>
    Option.bind (fR_kindOf q18.2 q18.1) fun q25 =>
    Option.bind (fR_isPart q25.2 q25.1) fun q28 =>
    if q28.1 = 0 then
      Option.bind (fR_kindOf q28.2 q18.1) fun q43 =>
      Option.bind (fR_isBoard q43.2 q43.1) fun q46 =>
      if q46.1 = 0 then
        Option.bind (fR_calmRow q46.2 q18.1) fun q54 =>
        some (q54.1, q54.2)
      else
        fR_restOf_64 g_fuel q46.2 q18.1 (0 : Int32) (0 : Int32)
    else
      Option.bind (fR_calm q28.2 q18.1) fun q36 =>
      some ((1 : Int32), q36)
  else
    Option.bind (fR_refuse q2.2 q2.1) fun q12 =>
    some (q12.1, q12.2)
def fR_whenUnder (w : RS) (a1 : Int32) (a2 : Int32) : Option (Int32 × RS) :=
  Option.bind (fR_isShelf w a1) fun q1 =>
  if q1.1 = 0 then
    Option.bind (fR_refuse q1.2 (1 : Int32)) fun q19 =>
    some (q19.1, q19.2)
  else
    if a2 < 0 then
      Option.bind (fR_refuse q1.2 (1 : Int32)) fun q19 =>
      some (q19.1, q19.2)
    else
      if a2 ≤ (24 : Int32) then
        Option.bind (fR_on q1.2 a1) fun q25 =>
        if q25.1 < 0 then
          some ((0 : Int32), q25.2)
        else
          Option.bind (fR_on q25.2 a1) fun q35 =>
          Option.bind (fR_kindOf q35.2 q35.1) fun q38 =>
          Option.bind (fR_isUnder q38.2 q38.1 a2) fun q42 =>
          if q42.1 = 0 then
            some ((0 : Int32), q42.2)
          else
            some ((1 : Int32), q42.2)
      else
        Option.bind (fR_refuse q1.2 (1 : Int32)) fun q19 =>
        some (q19.1, q19.2)
def fR_done_call (w : RS) (a2 : Int32) (a3 : Int64) : Option (Int32 × RS) :=
  g_ck (a2 + (1 : Int32)) 6 <|
  g_let (w.2.1 17 (a2 + (1 : Int32)).toNatClampNeg) fun v4 =>
  g_ck (a2 + (2 : Int32)) 6 <|
  g_let (w.2.1 17 (a2 + (2 : Int32)).toNatClampNeg) fun v11 =>
  g_ck (a2 + (3 : Int32)) 6 <|
  g_let (w.2.1 17 (a2 + (3 : Int32)).toNatClampNeg) fun v18 =>
  g_let (sI w 15 (0 : Int32)) fun w23 =>
  g_ck a2 6 <|
  g_let (w23.2.1 17 a2.toNatClampNeg) fun v28 =>
  if v28 = (1 : Int32) then
    Option.bind (fR_makeNew w23 v4 v11 v18) fun q95 =>
    some (q95.1, q95.2)
  else
  if v28 = (2 : Int32) then
    Option.bind (fR_layOn w23 v4 v11) fun q104 =>
    some (q104.1, q104.2)
  else
  if v28 = (3 : Int32) then
    Option.bind (fR_plugIn w23 v4 v11 v18) fun q115 =>
    some (q115.1, q115.2)
  else
  if v28 = (4 : Int32) then
    Option.bind (fR_pullOut w23 v4 v11 v18) fun q126 =>
    some (q126.1, q126.2)
  else
  if v28 = (5 : Int32) then
    g_ck (a2 + (4 : Int32)) 6 <|
    g_let (w23.2.1 17 (a2 + (4 : Int32)).toNatClampNeg) fun v141 =>
    g_ck (a2 + (5 : Int32)) 6 <|
    g_let (w23.2.1 17 (a2 + (5 : Int32)).toNatClampNeg) fun v146 =>
    Option.bind (fR_copyOver w23 v4 v11 v18 v141 v146) fun q147 =>
    some (q147.1, q147.2)
  else
  if v28 = (6 : Int32) then
    Option.bind (fR_writeIn w23 v4 v11 a3) fun q157 =>
    some (q157.1, q157.2)
  else
  if v28 = (7 : Int32) then
    Option.bind (fR_knobTo w23 v4 v11) fun q166 =>
    some (q166.1, q166.2)
  else
  if v28 = (8 : Int32) then
    Option.bind (fR_playBy w23 v4 v11) fun q175 =>
    some (q175.1, q175.2)
  else
  if v28 = (9 : Int32) then
    Option.bind (fR_runOver w23 v4 v11) fun q184 =>
    some (q184.1, q184.2)
  else
  if v28 = (10 : Int32) then
    Option.bind (fR_ticksBy w23 v4 v11) fun q193 =>
    some (q193.1, q193.2)
  else
  if v28 = (11 : Int32) then
    Option.bind (fR_restOf w23 v4) fun q200 =>
    some (q200.1, q200.2)
  else
    Option.bind (fR_whenUnder w23 v4 v11) fun q209 =>
    some (q209.1, q209.2)
def fR_done_lines (w : RS) (a2 : Int32) (a3 : Int64) : Option (Int32 × RS) :=
  g_ck (a2 + (1 : Int32)) 3078 <|
  g_let (w.2.1 9 (a2 + (1 : Int32)).toNatClampNeg) fun v4 =>
  g_ck (a2 + (2 : Int32)) 3078 <|
  g_let (w.2.1 9 (a2 + (2 : Int32)).toNatClampNeg) fun v11 =>
  g_ck (a2 + (3 : Int32)) 3078 <|
  g_let (w.2.1 9 (a2 + (3 : Int32)).toNatClampNeg) fun v18 =>
  g_let (sI w 15 (0 : Int32)) fun w23 =>
  g_ck a2 3078 <|
  g_let (w23.2.1 9 a2.toNatClampNeg) fun v28 =>
  if v28 = (1 : Int32) then
    Option.bind (fR_makeNew w23 v4 v11 v18) fun q95 =>
    some (q95.1, q95.2)
  else
  if v28 = (2 : Int32) then
    Option.bind (fR_layOn w23 v4 v11) fun q104 =>
    some (q104.1, q104.2)
  else
  if v28 = (3 : Int32) then
    Option.bind (fR_plugIn w23 v4 v11 v18) fun q115 =>
    some (q115.1, q115.2)
  else
  if v28 = (4 : Int32) then
    Option.bind (fR_pullOut w23 v4 v11 v18) fun q126 =>
    some (q126.1, q126.2)
  else
  if v28 = (5 : Int32) then
    g_ck (a2 + (4 : Int32)) 3078 <|
    g_let (w23.2.1 9 (a2 + (4 : Int32)).toNatClampNeg) fun v141 =>
    g_ck (a2 + (5 : Int32)) 3078 <|
    g_let (w23.2.1 9 (a2 + (5 : Int32)).toNatClampNeg) fun v146 =>
    Option.bind (fR_copyOver w23 v4 v11 v18 v141 v146) fun q147 =>
    some (q147.1, q147.2)
  else
  if v28 = (6 : Int32) then
    Option.bind (fR_writeIn w23 v4 v11 a3) fun q157 =>
    some (q157.1, q157.2)
  else
  if v28 = (7 : Int32) then
    Option.bind (fR_knobTo w23 v4 v11) fun q166 =>
    some (q166.1, q166.2)
  else
  if v28 = (8 : Int32) then
    Option.bind (fR_playBy w23 v4 v11) fun q175 =>
    some (q175.1, q175.2)
  else
  if v28 = (9 : Int32) then
    Option.bind (fR_runOver w23 v4 v11) fun q184 =>
    some (q184.1, q184.2)
  else
  if v28 = (10 : Int32) then
    Option.bind (fR_ticksBy w23 v4 v11) fun q193 =>
    some (q193.1, q193.2)
  else
  if v28 = (11 : Int32) then
    Option.bind (fR_restOf w23 v4) fun q200 =>
    some (q200.1, q200.2)
  else
    Option.bind (fR_whenUnder w23 v4 v11) fun q209 =>
    some (q209.1, q209.2)
def fR_done_acts (w : RS) (a2 : Int32) (a3 : Int64) : Option (Int32 × RS) :=
  g_ck (a2 + (1 : Int32)) 3078 <|
  g_let (w.2.1 6 (a2 + (1 : Int32)).toNatClampNeg) fun v4 =>
  g_ck (a2 + (2 : Int32)) 3078 <|
  g_let (w.2.1 6 (a2 + (2 : Int32)).toNatClampNeg) fun v11 =>
  g_ck (a2 + (3 : Int32)) 3078 <|
  g_let (w.2.1 6 (a2 + (3 : Int32)).toNatClampNeg) fun v18 =>
  g_let (sI w 15 (0 : Int32)) fun w23 =>
  g_ck a2 3078 <|
  g_let (w23.2.1 6 a2.toNatClampNeg) fun v28 =>
  if v28 = (1 : Int32) then
    Option.bind (fR_makeNew w23 v4 v11 v18) fun q95 =>
    some (q95.1, q95.2)
  else
  if v28 = (2 : Int32) then
    Option.bind (fR_layOn w23 v4 v11) fun q104 =>
    some (q104.1, q104.2)
  else
  if v28 = (3 : Int32) then
    Option.bind (fR_plugIn w23 v4 v11 v18) fun q115 =>
    some (q115.1, q115.2)
  else
  if v28 = (4 : Int32) then
    Option.bind (fR_pullOut w23 v4 v11 v18) fun q126 =>
    some (q126.1, q126.2)
  else
  if v28 = (5 : Int32) then
    g_ck (a2 + (4 : Int32)) 3078 <|
    g_let (w23.2.1 6 (a2 + (4 : Int32)).toNatClampNeg) fun v141 =>
    g_ck (a2 + (5 : Int32)) 3078 <|
    g_let (w23.2.1 6 (a2 + (5 : Int32)).toNatClampNeg) fun v146 =>
    Option.bind (fR_copyOver w23 v4 v11 v18 v141 v146) fun q147 =>
    some (q147.1, q147.2)
  else
  if v28 = (6 : Int32) then
    Option.bind (fR_writeIn w23 v4 v11 a3) fun q157 =>
    some (q157.1, q157.2)
  else
  if v28 = (7 : Int32) then
    Option.bind (fR_knobTo w23 v4 v11) fun q166 =>
    some (q166.1, q166.2)
  else
  if v28 = (8 : Int32) then
    Option.bind (fR_playBy w23 v4 v11) fun q175 =>
    some (q175.1, q175.2)
  else
  if v28 = (9 : Int32) then
    Option.bind (fR_runOver w23 v4 v11) fun q184 =>
    some (q184.1, q184.2)
  else
  if v28 = (10 : Int32) then
    Option.bind (fR_ticksBy w23 v4 v11) fun q193 =>
    some (q193.1, q193.2)
  else
  if v28 = (11 : Int32) then
    Option.bind (fR_restOf w23 v4) fun q200 =>
    some (q200.1, q200.2)
  else
    Option.bind (fR_whenUnder w23 v4 v11) fun q209 =>
    some (q209.1, q209.2)
def fR_carried_109 (k6 : RS → Int32 → Int32 → Int32 → Int32 → Int32 → Option (Int32 × RS)) (k18 : RS → Int32 → Int32 → Int32 → Int32 → Int32 → Int32 → Int32 → Option (Int32 × RS)) (w : RS) (x1 : Int32) (x2 : Int32) (x3 : Int32) (x4 : Int32) (x5 : Int32) (x6 : Int32) (x7 : Int32) : Option (Int32 × RS) :=
  k18 w x1 x2 x3 x4 x5 x6 (x7 + (1 : Int32))
def fR_carried_100 (k6 : RS → Int32 → Int32 → Int32 → Int32 → Int32 → Option (Int32 × RS)) (k18 : RS → Int32 → Int32 → Int32 → Int32 → Int32 → Int32 → Int32 → Option (Int32 × RS)) (w : RS) (x1 : Int32) (x2 : Int32) (x3 : Int32) (x4 : Int32) (x5 : Int32) (x7 : Int32) (x8 : Int32) (t0 : Int32) : Option (Int32 × RS) :=
  fR_carried_109 k6 k18 w x1 x2 x3 (x4 + x8) x5 t0 x7
def fR_carried_99 (k6 : RS → Int32 → Int32 → Int32 → Int32 → Int32 → Option (Int32 × RS)) (k18 : RS → Int32 → Int32 → Int32 → Int32 → Int32 → Int32 → Int32 → Option (Int32 × RS)) (w : RS) (x1 : Int32) (x2 : Int32) (x3 : Int32) (x4 : Int32) (x5 : Int32) (x7 : Int32) (x8 : Int32) : Option (Int32 × RS) :=
  fR_carried_100 k6 k18 w x1 x2 x3 x4 x5 x7 x8 (0 : Int32)
def fR_carried_18 (k6 : RS → Int32 → Int32 → Int32 → Int32 → Int32 → Option (Int32 × RS)) : Nat → RS → Int32 → Int32 → Int32 → Int32 → Int32 → Int32 → Int32 → Option (Int32 × RS)
  | 0, _, _, _, _, _, _, _, _ => none
  | n + 1, w, x1, x2, x3, x4, x5, x6, x7 =>
    if x3 ≤ x7 then
      k6 w x1 x2 x3 x4 (x5 + (1 : Int32))
    else
      if x6 = 0 then
        g_ck (x2 + x7) 513 <|
        g_let (w.2.2 10 (x2 + x7).toNatClampNeg) fun v55 =>
        Option.bind (fR_done_lines w ((6 : Int32) * (x2 + x7)) v55) fun q56 =>
        if (q56.2.1 15) ≤ 0 then
          g_ck ((6 : Int32) * (x2 + x7)) 3078 <|
          g_let (q56.2.2.1 9 ((6 : Int32) * (x2 + x7)).toNatClampNeg) fun v84 =>
          if v84 = (12 : Int32) then
            if q56.1 = 0 then
              fR_carried_100 k6 (fR_carried_18 k6 n) q56.2 x1 x2 x3 x4 x5 x7 q56.1 (1 : Int32)
            else
              fR_carried_99 k6 (fR_carried_18 k6 n) q56.2 x1 x2 x3 x4 x5 x7 q56.1
          else
            fR_carried_99 k6 (fR_carried_18 k6 n) q56.2 x1 x2 x3 x4 x5 x7 q56.1
        else
          some (x7 + (1 : Int32), q56.2)
      else
        fR_carried_109 k6 (fR_carried_18 k6 n) w x1 x2 x3 x4 x5 (0 : Int32) x7
def fR_carried_6 : Nat → RS → Int32 → Int32 → Int32 → Int32 → Int32 → Option (Int32 × RS)
  | 0, _, _, _, _, _, _ => none
  | n + 1, w, x1, x2, x3, x4, x5 =>
    if x1 ≤ x5 then
      some (x4, w)
    else
      fR_carried_18 (fR_carried_6 n) g_fuel w x1 x2 x3 x4 x5 (0 : Int32) (0 : Int32)
def fR_carried (w : RS) (a1 : Int32) (a2 : Int32) (a3 : Int32) : Option (Int32 × RS) :=
  fR_carried_6 g_fuel w a1 a2 a3 (0 : Int32) (0 : Int32)
def fR_copyInts_call_acts_3 : Nat → RS → Int32 → Int32 → Int32 → Int32 → Option (RS)
  | 0, _, _, _, _, _ => none
  | n + 1, w, x1, x3, x4, x5 =>
    if x4 ≤ x5 then
      some w
    else
      g_ck (x1 + x5) 6 <|
      g_let (w.2.1 17 (x1 + x5).toNatClampNeg) fun v20 =>
      g_ck (x3 + x5) 3078 <|
      g_let (sA w 6 (x3 + x5).toNatClampNeg v20) fun w21 =>
      (fR_copyInts_call_acts_3 n) w21 x1 x3 x4 (x5 + (1 : Int32))
def fR_copyInts_call_acts (w : RS) (a1 : Int32) (a3 : Int32) (a4 : Int32) : Option (RS) :=
  fR_copyInts_call_acts_3 g_fuel w a1 a3 a4 (0 : Int32)
def fR_copyInts_call_lines_3 : Nat → RS → Int32 → Int32 → Int32 → Int32 → Option (RS)
  | 0, _, _, _, _, _ => none
  | n + 1, w, x1, x3, x4, x5 =>
    if x4 ≤ x5 then
      some w
    else
      g_ck (x1 + x5) 6 <|
      g_let (w.2.1 17 (x1 + x5).toNatClampNeg) fun v20 =>
      g_ck (x3 + x5) 3078 <|
      g_let (sA w 9 (x3 + x5).toNatClampNeg v20) fun w21 =>
      (fR_copyInts_call_lines_3 n) w21 x1 x3 x4 (x5 + (1 : Int32))
def fR_copyInts_call_lines (w : RS) (a1 : Int32) (a3 : Int32) (a4 : Int32) : Option (RS) :=
  fR_copyInts_call_lines_3 g_fuel w a1 a3 a4 (0 : Int32)
def fR_copyInts_state_before_3 : Nat → RS → Int32 → Int32 → Int32 → Int32 → Option (RS)
  | 0, _, _, _, _, _ => none
  | n + 1, w, x1, x3, x4, x5 =>
    if x4 ≤ x5 then
      some w
    else
      g_ck (x1 + x5) 557 <|
      g_let (w.2.1 2 (x1 + x5).toNatClampNeg) fun v20 =>
      g_ck (x3 + x5) 557 <|
      g_let (sA w 4 (x3 + x5).toNatClampNeg v20) fun w21 =>
      (fR_copyInts_state_before_3 n) w21 x1 x3 x4 (x5 + (1 : Int32))
def fR_copyInts_state_before (w : RS) (a1 : Int32) (a3 : Int32) (a4 : Int32) : Option (RS) :=
  fR_copyInts_state_before_3 g_fuel w a1 a3 a4 (0 : Int32)
def fR_copyInts_before_state_3 : Nat → RS → Int32 → Int32 → Int32 → Int32 → Option (RS)
  | 0, _, _, _, _, _ => none
  | n + 1, w, x1, x3, x4, x5 =>
    if x4 ≤ x5 then
      some w
    else
      g_ck (x1 + x5) 557 <|
      g_let (w.2.1 4 (x1 + x5).toNatClampNeg) fun v20 =>
      g_ck (x3 + x5) 557 <|
      g_let (sA w 2 (x3 + x5).toNatClampNeg v20) fun w21 =>
      (fR_copyInts_before_state_3 n) w21 x1 x3 x4 (x5 + (1 : Int32))
def fR_copyInts_before_state (w : RS) (a1 : Int32) (a3 : Int32) (a4 : Int32) : Option (RS) :=
  fR_copyInts_before_state_3 g_fuel w a1 a3 a4 (0 : Int32)
def fR_keepAct (w : RS) (a1 : Int64) : Option (RS) :=
  Option.bind (fR_copyInts_call_acts w (0 : Int32) ((6 : Int32) * (w.1 8)) (6 : Int32)) fun q18 =>
  g_ck (q18.1 8) 513 <|
  g_let (sL q18 7 (q18.1 8).toNatClampNeg a1) fun w30 =>
  g_let (sI w30 8 ((w30.1 8) + (1 : Int32))) fun w38 =>
  some w38
def fR_lineMore (w : RS) (a1 : Int64) : Option (Int32 × RS) :=
  if (w.1 13) = (16 : Int32) then
    Option.bind (fR_refuse w (6 : Int32)) fun q12 =>
    some (q12.1, q12.2)
  else
    Option.bind (fR_copyInts_call_lines w (0 : Int32) ((6 : Int32) * (w.1 11)) (6 : Int32)) fun q34 =>
    g_ck (q34.1 11) 513 <|
    g_let (sL q34 10 (q34.1 11).toNatClampNeg a1) fun w46 =>
    g_let (sI w46 11 ((w46.1 11) + (1 : Int32))) fun w54 =>
    g_let (sI w54 13 ((w54.1 13) + (1 : Int32))) fun w64 =>
    g_let (sI w64 15 (0 : Int32)) fun w69 =>
    some (w69.1 13, w69)
def fR_called (w : RS) (a1 : Int32) (a2 : Int32) (a3 : Int32) (a4 : Int32) (a5 : Int32) (a6 : Int32) (a7 : Int64) : Option (Int32 × RS) :=
  g_ck (0 : Int32) 6 <|
  g_let (sA w 17 (0 : Int32).toNatClampNeg a1) fun w6 =>
  g_ck (1 : Int32) 6 <|
  g_let (sA w6 17 (1 : Int32).toNatClampNeg a2) fun w13 =>
  g_ck (2 : Int32) 6 <|
  g_let (sA w13 17 (2 : Int32).toNatClampNeg a3) fun w20 =>
  g_ck (3 : Int32) 6 <|
  g_let (sA w20 17 (3 : Int32).toNatClampNeg a4) fun w28 =>
  g_ck (4 : Int32) 6 <|
  g_let (sA w28 17 (4 : Int32).toNatClampNeg a5) fun w36 =>
  g_ck (5 : Int32) 6 <|
  g_let (sA w36 17 (5 : Int32).toNatClampNeg a6) fun w44 =>
  if (w44.1 14) = 0 then
    Option.bind (fR_done_call w44 (0 : Int32) a7) fun q67 =>
    if (q67.2.1 15) = 0 then
      Option.bind (fR_keepAct q67.2 a7) fun q95 =>
      some (q67.1, q95)
    else
      if (q67.2.1 15) = (5 : Int32) then
        if a1 = (5 : Int32) then
          Option.bind (fR_keepAct q67.2 a7) fun q95 =>
          some (q67.1, q95)
        else
          some (q67.1, q67.2)
      else
        some (q67.1, q67.2)
  else
    Option.bind (fR_lineMore w44 a7) fun q55 =>
    some (q55.1, q55.2)
def fR_make (w : RS) (a1 : Int32) (a2 : Int32) (a3 : Int32) : Option (Int32 × RS) :=
  Option.bind (fR_called w (1 : Int32) a1 a2 a3 (0 : Int32) (0 : Int32) (0 : Int64)) fun q8 =>
  some (q8.1, q8.2)
def fR_lay (w : RS) (a1 : Int32) (a2 : Int32) : Option (Int32 × RS) :=
  Option.bind (fR_called w (2 : Int32) a1 a2 (0 : Int32) (0 : Int32) (0 : Int32) (0 : Int64)) fun q8 =>
  some (q8.1, q8.2)
def fR_plug (w : RS) (a1 : Int32) (a2 : Int32) (a3 : Int32) : Option (Int32 × RS) :=
  Option.bind (fR_called w (3 : Int32) a1 a2 a3 (0 : Int32) (0 : Int32) (0 : Int64)) fun q8 =>
  some (q8.1, q8.2)
def fR_pull (w : RS) (a1 : Int32) (a2 : Int32) (a3 : Int32) : Option (Int32 × RS) :=
  Option.bind (fR_called w (4 : Int32) a1 a2 a3 (0 : Int32) (0 : Int32) (0 : Int64)) fun q8 =>
  some (q8.1, q8.2)
def fR_copy (w : RS) (a1 : Int32) (a2 : Int32) (a3 : Int32) (a4 : Int32) (a5 : Int32) : Option (Int32 × RS) :=
  Option.bind (fR_called w (5 : Int32) a1 a2 a3 a4 a5 (0 : Int64)) fun q10 =>
  some (q10.1, q10.2)
def fR_write (w : RS) (a1 : Int32) (a2 : Int32) (a3 : Int64) : Option (Int32 × RS) :=
  Option.bind (fR_called w (6 : Int32) a1 a2 (0 : Int32) (0 : Int32) (0 : Int32) a3) fun q9 =>
  some (q9.1, q9.2)
def fR_knob (w : RS) (a1 : Int32) (a2 : Int32) : Option (Int32 × RS) :=
  Option.bind (fR_called w (7 : Int32) a1 a2 (0 : Int32) (0 : Int32) (0 : Int32) (0 : Int64)) fun q9 =>
  some (q9.1, q9.2)
def fR_play (w : RS) (a1 : Int32) (a2 : Int32) : Option (Int32 × RS) :=
  Option.bind (fR_called w (8 : Int32) a1 a2 (0 : Int32) (0 : Int32) (0 : Int32) (0 : Int64)) fun q9 =>
  some (q9.1, q9.2)
def fR_run (w : RS) (a1 : Int32) (a2 : Int32) : Option (Int32 × RS) :=
  Option.bind (fR_called w (9 : Int32) a1 a2 (0 : Int32) (0 : Int32) (0 : Int32) (0 : Int64)) fun q9 =>
  some (q9.1, q9.2)
def fR_ticks (w : RS) (a1 : Int32) (a2 : Int32) : Option (Int32 × RS) :=
  Option.bind (fR_called w (10 : Int32) a1 a2 (0 : Int32) (0 : Int32) (0 : Int32) (0 : Int64)) fun q9 =>
  some (q9.1, q9.2)
def fR_rest (w : RS) (a1 : Int32) : Option (Int32 × RS) :=
  Option.bind (fR_called w (11 : Int32) a1 (0 : Int32) (0 : Int32) (0 : Int32) (0 : Int32) (0 : Int64)) fun q9 =>
  some (q9.1, q9.2)
def fR_when (w : RS) (a1 : Int32) (a2 : Int32) : Option (Int32 × RS) :=
  if (w.1 14) = 0 then
    Option.bind (fR_refuse w (7 : Int32)) fun q10 =>
    some (q10.1, q10.2)
  else
    Option.bind (fR_called w (12 : Int32) a1 a2 (0 : Int32) (0 : Int32) (0 : Int32) (0 : Int64)) fun q23 =>
    some (q23.1, q23.2)
def fR_begin (w : RS)  : Option (Int32 × RS) :=
  if (w.1 14) = 0 then
    g_let (sI w 14 (1 : Int32)) fun w16 =>
    g_let (sI w16 12 (w16.1 11)) fun w24 =>
    g_let (sI w24 13 (0 : Int32)) fun w29 =>
    g_let (sI w29 15 (0 : Int32)) fun w34 =>
    some ((1 : Int32), w34)
  else
    Option.bind (fR_refuse w (7 : Int32)) fun q10 =>
    some (q10.1, q10.2)
def fR_end (w : RS)  : Option (Int32 × RS) :=
  if (w.1 14) = 0 then
    Option.bind (fR_refuse w (7 : Int32)) fun q10 =>
    some (q10.1, q10.2)
  else
    g_let (sI w 14 (0 : Int32)) fun w16 =>
    g_let (sI w16 15 (0 : Int32)) fun w21 =>
    some (w21.1 13, w21)
def fR_keepState_18 : Nat → RS → Int32 → Option (RS)
  | 0, _, _ => none
  | n + 1, w, x1 =>
    if (720 : Int32) ≤ x1 then
      some w
    else
      g_ck x1 720 <|
      g_let (w.2.2 3 x1.toNatClampNeg) fun v35 =>
      g_ck x1 720 <|
      g_let (sL w 5 x1.toNatClampNeg v35) fun w36 =>
      (fR_keepState_18 n) w36 (x1 + (1 : Int32))
def fR_keepState (w : RS)  : Option (RS) :=
  Option.bind (fR_copyInts_state_before w (0 : Int32) (0 : Int32) (557 : Int32)) fun q13 =>
  fR_keepState_18 g_fuel q13 (0 : Int32)
def fR_putBack_18 : Nat → RS → Int32 → Option (RS)
  | 0, _, _ => none
  | n + 1, w, x1 =>
    if (720 : Int32) ≤ x1 then
      some w
    else
      g_ck x1 720 <|
      g_let (w.2.2 5 x1.toNatClampNeg) fun v35 =>
      g_ck x1 720 <|
      g_let (sL w 3 x1.toNatClampNeg v35) fun w36 =>
      (fR_putBack_18 n) w36 (x1 + (1 : Int32))
def fR_putBack (w : RS)  : Option (RS) :=
  Option.bind (fR_copyInts_before_state w (0 : Int32) (0 : Int32) (557 : Int32)) fun q13 =>
  fR_putBack_18 g_fuel q13 (0 : Int32)
def fR_carry (w : RS) (a1 : Int32) : Option (Int32 × RS) :=
  if a1 < (1 : Int32) then
    Option.bind (fR_refuse w (1 : Int32)) fun q12 =>
    some (q12.1, q12.2)
  else
    if a1 ≤ (4 : Int32) then
      if (w.1 14) = 0 then
        Option.bind (fR_keepState w ) fun q31 =>
        g_let (sI q31 15 (0 : Int32)) fun w36 =>
        Option.bind (fR_carried w36 a1 (w36.1 12) (w36.1 13)) fun q49 =>
        if (q49.2.1 15) ≤ 0 then
          g_ck (0 : Int32) 6 <|
          g_let (sA q49.2 17 (0 : Int32).toNatClampNeg (13 : Int32)) fun w73 =>
          g_ck (1 : Int32) 6 <|
          g_let (sA w73 17 (1 : Int32).toNatClampNeg a1) fun w80 =>
          g_ck (2 : Int32) 6 <|
          g_let (sA w80 17 (2 : Int32).toNatClampNeg (w80.1 12)) fun w90 =>
          g_ck (3 : Int32) 6 <|
          g_let (sA w90 17 (3 : Int32).toNatClampNeg (w90.1 13)) fun w100 =>
          Option.bind (fR_keepAct w100 (0 : Int64)) fun q103 =>
          some (q49.1, q103)
        else
          Option.bind (fR_putBack q49.2 ) fun q61 =>
          some (q49.1, q61)
      else
        Option.bind (fR_refuse w (7 : Int32)) fun q26 =>
        some (q26.1, q26.2)
    else
      Option.bind (fR_refuse w (1 : Int32)) fun q12 =>
      some (q12.1, q12.2)
def fR_undo_149 (k79 : RS → Int32 → Option (Int32 × RS)) (w : RS) (x2 : Int32) (t0 : Int32) : Option (Int32 × RS) :=
  k79 w (x2 + (1 : Int32))
def fR_undo_79 : Nat → RS → Int32 → Option (Int32 × RS)
  | 0, _, _ => none
  | n + 1, w, x2 =>
    if (w.1 8) ≤ x2 then
      g_let (sI w 15 (0 : Int32)) fun w158 =>
      some (w158.1 8, w158)
    else
      g_ck ((6 : Int32) * x2) 3078 <|
      g_let (w.2.1 6 ((6 : Int32) * x2).toNatClampNeg) fun v97 =>
      if v97 = (13 : Int32) then
        g_ck (((6 : Int32) * x2) + (1 : Int32)) 3078 <|
        g_let (w.2.1 6 (((6 : Int32) * x2) + (1 : Int32)).toNatClampNeg) fun v111 =>
        g_ck (((6 : Int32) * x2) + (2 : Int32)) 3078 <|
        g_let (w.2.1 6 (((6 : Int32) * x2) + (2 : Int32)).toNatClampNeg) fun v119 =>
        g_ck (((6 : Int32) * x2) + (3 : Int32)) 3078 <|
        g_let (w.2.1 6 (((6 : Int32) * x2) + (3 : Int32)).toNatClampNeg) fun v127 =>
        Option.bind (fR_carried w v111 v119 v127) fun q128 =>
        fR_undo_149 (fR_undo_79 n) q128.2 x2 q128.1
      else
        g_ck x2 513 <|
        g_let (w.2.2 7 x2.toNatClampNeg) fun v145 =>
        Option.bind (fR_done_acts w ((6 : Int32) * x2) v145) fun q146 =>
        fR_undo_149 (fR_undo_79 n) q146.2 x2 q146.1
def fR_undo_55 : Nat → RS → Int32 → Option (Int32 × RS)
  | 0, _, _ => none
  | n + 1, w, x1 =>
    if (720 : Int32) ≤ x1 then
      fR_undo_79 g_fuel w (0 : Int32)
    else
      g_ck x1 720 <|
      g_let (sL w 3 x1.toNatClampNeg (0 : Int64)) fun w68 =>
      (fR_undo_55 n) w68 (x1 + (1 : Int32))
def fR_undo_33 : Nat → RS → Int32 → Option (Int32 × RS)
  | 0, _, _ => none
  | n + 1, w, x1 =>
    if (557 : Int32) ≤ x1 then
      fR_undo_55 g_fuel w (0 : Int32)
    else
      g_ck x1 557 <|
      g_let (sA w 2 x1.toNatClampNeg (0 : Int32)) fun w46 =>
      (fR_undo_33 n) w46 (x1 + (1 : Int32))
def fR_undo (w : RS)  : Option (Int32 × RS) :=
  if (w.1 14) = 0 then
    if (w.1 8) = 0 then
      Option.bind (fR_refuse w (7 : Int32)) fun q17 =>
      some (q17.1, q17.2)
    else
      g_let (sI w 8 ((w.1 8) - (1 : Int32))) fun w28 =>
      fR_undo_33 g_fuel w28 (0 : Int32)
  else
    Option.bind (fR_refuse w (7 : Int32)) fun q17 =>
    some (q17.1, q17.2)
def fR_acts (w : RS)  : Option (Int32 × RS) :=
  g_let (sI w 15 (0 : Int32)) fun w2 =>
  some (w2.1 8, w2)
def fR_ask (w : RS) (a1 : Int32) (a2 : Int32) : Option (Int32 × RS) :=
  g_let (sI w 15 (0 : Int32)) fun w2 =>
  Option.bind (fR_whenUnder w2 a1 a2) fun q8 =>
  some (q8.1, q8.2)
def fR_toldAs (w : RS) (a1 : Int32) (a2 : Int32) (a3 : Int32) : Option (Int64 × RS) :=
  if a2 = (0 : Int32) then
    g_ck ((180 : Int32) + a1) 557 <|
    g_let (w.2.1 2 ((180 : Int32) + a1).toNatClampNeg) fun v125 =>
    some (v125.toInt64, w)
  else
  if a2 = (1 : Int32) then
    Option.bind (fR_load w a1) fun q130 =>
    some (q130.1.toInt64, q130.2)
  else
  if a2 = (2 : Int32) then
    g_ck ((120 : Int32) + a1) 557 <|
    g_let (w.2.1 2 ((120 : Int32) + a1).toNatClampNeg) fun v143 =>
    Option.bind (fR_sizeOf w v143) fun q144 =>
    some (q144.1.toInt64, q144.2)
  else
  if a2 = (3 : Int32) then
    g_ck ((240 : Int32) + a1) 557 <|
    g_let (w.2.1 2 ((240 : Int32) + a1).toNatClampNeg) fun v158 =>
    some (v158.toInt64, w)
  else
  if a2 = (4 : Int32) then
    g_ck ((240 : Int32) + a1) 557 <|
    g_let (w.2.1 2 ((240 : Int32) + a1).toNatClampNeg) fun v158 =>
    some (v158.toInt64, w)
  else
  if a2 = (5 : Int32) then
    g_ck ((300 : Int32) + a1) 557 <|
    g_let (w.2.1 2 ((300 : Int32) + a1).toNatClampNeg) fun v170 =>
    some (v170.toInt64, w)
  else
  if a2 = (6 : Int32) then
    g_ck ((300 : Int32) + a1) 557 <|
    g_let (w.2.1 2 ((300 : Int32) + a1).toNatClampNeg) fun v170 =>
    some (v170.toInt64, w)
  else
  if a2 = (7 : Int32) then
    g_ck ((300 : Int32) + a1) 557 <|
    g_let (w.2.1 2 ((300 : Int32) + a1).toNatClampNeg) fun v170 =>
    some (v170.toInt64, w)
  else
  if a2 = (8 : Int32) then
    g_ck ((300 : Int32) + a1) 557 <|
    g_let (w.2.1 2 ((300 : Int32) + a1).toNatClampNeg) fun v170 =>
    some (v170.toInt64, w)
  else
  if a2 = (9 : Int32) then
    g_ck ((360 : Int32) + a1) 557 <|
    g_let (w.2.1 2 ((360 : Int32) + a1).toNatClampNeg) fun v182 =>
    some (v182.toInt64, w)
  else
  if a2 = (10 : Int32) then
    g_ck ((360 : Int32) + a1) 557 <|
    g_let (w.2.1 2 ((360 : Int32) + a1).toNatClampNeg) fun v182 =>
    some (v182.toInt64, w)
  else
  if a2 = (11 : Int32) then
    g_ck ((480 : Int32) + a1) 557 <|
    g_let (w.2.1 2 ((480 : Int32) + a1).toNatClampNeg) fun v194 =>
    some (v194.toInt64, w)
  else
  if a2 = (12 : Int32) then
    Option.bind (fR_kindOf w a1) fun q199 =>
    some (q199.1.toInt64, q199.2)
  else
  if a2 = (13 : Int32) then
    g_ck (((12 : Int32) * a1) + a3) 720 <|
    g_let (w.2.2 3 (((12 : Int32) * a1) + a3).toNatClampNeg) fun v214 =>
    some (v214, w)
  else
  if a2 = (14 : Int32) then
    g_ck (((12 : Int32) * a1) + a3) 720 <|
    g_let (w.2.2 3 (((12 : Int32) * a1) + a3).toNatClampNeg) fun v214 =>
    some (v214, w)
  else
  if a2 = (15 : Int32) then
    g_ck (((12 : Int32) * a1) + a3) 720 <|
    g_let (w.2.2 3 (((12 : Int32) * a1) + a3).toNatClampNeg) fun v214 =>
    some (v214, w)
  else
  if a2 = (16 : Int32) then
    Option.bind (fR_thingAt w a1 a3) fun q220 =>
    Option.bind (fR_lengthOf q220.2 q220.1) fun q223 =>
    some (q223.1.toInt64, q223.2)
  else
  if a2 = (17 : Int32) then
    Option.bind (fR_thingAt w a1 a3) fun q231 =>
    some (q231.1.toInt64, q231.2)
  else
  if a2 = (18 : Int32) then
    Option.bind (fR_thingAt w a1 a3) fun q231 =>
    some (q231.1.toInt64, q231.2)
  else
  if a2 = (19 : Int32) then
    Option.bind (fR_thingAt w a1 a3) fun q231 =>
    some (q231.1.toInt64, q231.2)
  else
  if a2 = (20 : Int32) then
    Option.bind (fR_thingAt w a1 a3) fun q231 =>
    some (q231.1.toInt64, q231.2)
  else
  if a2 = (21 : Int32) then
    Option.bind (fR_thingAt w a1 a3) fun q231 =>
    some (q231.1.toInt64, q231.2)
  else
  if a2 = (22 : Int32) then
    Option.bind (fR_thingAt w a1 a3) fun q231 =>
    some (q231.1.toInt64, q231.2)
  else
  if a2 = (23 : Int32) then
    Option.bind (fR_thingAt w a1 a3) fun q220 =>
    Option.bind (fR_lengthOf q220.2 q220.1) fun q223 =>
    some (q223.1.toInt64, q223.2)
  else
  if a2 = (24 : Int32) then
    Option.bind (fR_thingAt w a1 a3) fun q220 =>
    Option.bind (fR_lengthOf q220.2 q220.1) fun q223 =>
    some (q223.1.toInt64, q223.2)
  else
    Option.bind (fR_thingAt w a1 a3) fun q231 =>
    some (q231.1.toInt64, q231.2)
def fR_take_120 (w : RS) (x2 : Int32) (x3 : Int32) (x4 : Int32) : Option (Int64 × RS) :=
  Option.bind (fR_toldAs w x4 x2 x3) fun q125 =>
  some (q125.1, q125.2)
def fR_take_97 (w : RS) (x2 : Int32) (x3 : Int32) (x4 : Int32) : Option (Int64 × RS) :=
  if x2 < (16 : Int32) then
    fR_take_120 w x2 x3 x4
  else
    Option.bind (fR_thingAt w x4 x3) fun q107 =>
    if 0 ≤ q107.1 then
      fR_take_120 q107.2 x2 x3 x4
    else
      Option.bind (fR_refuse q107.2 (2 : Int32)) fun q115 =>
      some (q115.1.toInt64, q115.2)
def fR_take_62 (w : RS) (x2 : Int32) (x3 : Int32) (x4 : Int32) : Option (Int64 × RS) :=
  if 0 ≤ x4 then
    if x2 < (13 : Int32) then
      fR_take_97 w x2 x3 x4
    else
      Option.bind (fR_hasPlace w x4 x3) fun q84 =>
      if q84.1 = 0 then
        Option.bind (fR_refuse q84.2 (4 : Int32)) fun q92 =>
        some (q92.1.toInt64, q92.2)
      else
        fR_take_97 q84.2 x2 x3 x4
  else
    Option.bind (fR_refuse w (2 : Int32)) fun q69 =>
    some (q69.1.toInt64, q69.2)
def fR_take (w : RS) (a1 : Int32) (a2 : Int32) (a3 : Int32) : Option (Int64 × RS) :=
  g_let (sI w 15 (0 : Int32)) fun w2 =>
  Option.bind (fR_isShelf w2 a1) fun q6 =>
  if q6.1 = 0 then
    Option.bind (fR_refuse q6.2 (1 : Int32)) fun q24 =>
    some (q24.1.toInt64, q24.2)
  else
    if a2 < 0 then
      Option.bind (fR_refuse q6.2 (1 : Int32)) fun q24 =>
      some (q24.1.toInt64, q24.2)
    else
      if a2 ≤ (24 : Int32) then
        Option.bind (fR_on q6.2 a1) fun q31 =>
        if q31.1 < 0 then
          fR_take_62 q31.2 a2 a3 q31.1
        else
          Option.bind (fR_kindOf q31.2 q31.1) fun q45 =>
          Option.bind (fR_isUnder q45.2 q45.1 a2) fun q49 =>
          if q49.1 = 0 then
            Option.bind (fR_refuse q49.2 (3 : Int32)) fun q57 =>
            some (q57.1.toInt64, q57.2)
          else
            fR_take_62 q49.2 a2 a3 q31.1
      else
        Option.bind (fR_refuse q6.2 (1 : Int32)) fun q24 =>
        some (q24.1.toInt64, q24.2)
def fR_size (w : RS) (a1 : Int32) : Option (Int32 × RS) :=
  g_let (sI w 15 (0 : Int32)) fun w2 =>
  Option.bind (fR_isShelf w2 a1) fun q6 =>
  if q6.1 = 0 then
    Option.bind (fR_refuse q6.2 (1 : Int32)) fun q14 =>
    some (q14.1, q14.2)
  else
    Option.bind (fR_on q6.2 a1) fun q20 =>
    if 0 ≤ q20.1 then
      Option.bind (fR_on q20.2 a1) fun q35 =>
      Option.bind (fR_kindOf q35.2 q35.1) fun q38 =>
      if (13 : Int32) ≤ q38.1 then
        Option.bind (fR_on q38.2 a1) fun q55 =>
        Option.bind (fR_lengthOf q55.2 q55.1) fun q58 =>
        some (q58.1, q58.2)
      else
        Option.bind (fR_refuse q38.2 (3 : Int32)) fun q48 =>
        some (q48.1, q48.2)
    else
      Option.bind (fR_refuse q20.2 (2 : Int32)) fun q28 =>
      some (q28.1, q28.2)
def fR_read (w : RS) (a1 : Int32) (a2 : Int32) : Option (Int64 × RS) :=
  g_let (sI w 15 (0 : Int32)) fun w2 =>
  Option.bind (fR_isShelf w2 a1) fun q6 =>
  if q6.1 = 0 then
    Option.bind (fR_refuse q6.2 (1 : Int32)) fun q14 =>
    some (q14.1.toInt64, q14.2)
  else
    Option.bind (fR_on q6.2 a1) fun q21 =>
    if 0 ≤ q21.1 then
      Option.bind (fR_on q21.2 a1) fun q37 =>
      Option.bind (fR_kindOf q37.2 q37.1) fun q40 =>
      Option.bind (fR_isNumberRow q40.2 q40.1) fun q43 =>
      if q43.1 = 0 then
        Option.bind (fR_refuse q43.2 (3 : Int32)) fun q51 =>
        some (q51.1.toInt64, q51.2)
      else
        Option.bind (fR_on q43.2 a1) fun q59 =>
        Option.bind (fR_hasPlace q59.2 q59.1 a2) fun q63 =>
        if q63.1 = 0 then
          Option.bind (fR_refuse q63.2 (4 : Int32)) fun q71 =>
          some (q71.1.toInt64, q71.2)
        else
          Option.bind (fR_on q63.2 a1) fun q84 =>
          g_ck (((12 : Int32) * q84.1) + a2) 720 <|
          g_let (q84.2.2.2 3 (((12 : Int32) * q84.1) + a2).toNatClampNeg) fun v90 =>
          some (v90, q84.2)
    else
      Option.bind (fR_refuse q21.2 (2 : Int32)) fun q29 =>
      some (q29.1.toInt64, q29.2)
def fR_at_64 (w : RS) (x1 : Int32) (x2 : Int32) (x3 : Int32) (x4 : Int32) : Option (Int32 × RS) :=
  Option.bind (fR_on w x1) fun q67 =>
  Option.bind (fR_hasPlace q67.2 q67.1 x2) fun q71 =>
  if q71.1 = 0 then
    Option.bind (fR_refuse q71.2 (4 : Int32)) fun q79 =>
    some (q79.1, q79.2)
  else
    Option.bind (fR_on q71.2 x1) fun q86 =>
    Option.bind (fR_thingAt q86.2 q86.1 x2) fun q90 =>
    if 0 ≤ q90.1 then
      Option.bind (fR_hasPlace q90.2 q90.1 x3) fun q110 =>
      if q110.1 = 0 then
        Option.bind (fR_refuse q110.2 (4 : Int32)) fun q118 =>
        some (q118.1, q118.2)
      else
        if x4 = (16 : Int32) then
          g_ck (((12 : Int32) * q90.1) + x3) 720 <|
          g_let (q110.2.2.2 3 (((12 : Int32) * q90.1) + x3).toNatClampNeg) fun v140 =>
          some (v140.toInt32, q110.2)
        else
          Option.bind (fR_thingAt q110.2 q90.1 x3) fun q147 =>
          if 0 ≤ q147.1 then
            Option.bind (fR_thingAt q147.2 q90.1 x3) fun q165 =>
            some (q165.1, q165.2)
          else
            Option.bind (fR_refuse q147.2 (2 : Int32)) fun q155 =>
            some (q155.1, q155.2)
    else
      Option.bind (fR_refuse q90.2 (2 : Int32)) fun q102 =>
      some (q102.1, q102.2)
def fR_at (w : RS) (a1 : Int32) (a2 : Int32) (a3 : Int32) : Option (Int32 × RS) :=
  g_let (sI w 15 (0 : Int32)) fun w2 =>
  Option.bind (fR_isShelf w2 a1) fun q6 =>
  if q6.1 = 0 then
    Option.bind (fR_refuse q6.2 (1 : Int32)) fun q14 =>
    some (q14.1, q14.2)
  else
    Option.bind (fR_on q6.2 a1) fun q20 =>
    if 0 ≤ q20.1 then
      Option.bind (fR_on q20.2 a1) fun q35 =>
      Option.bind (fR_kindOf q35.2 q35.1) fun q38 =>
      if q38.1 = (16 : Int32) then
        fR_at_64 q38.2 a1 a2 a3 q38.1
      else
        Option.bind (fR_isBoard q38.2 q38.1) fun q52 =>
        if q52.1 = 0 then
          Option.bind (fR_refuse q52.2 (3 : Int32)) fun q60 =>
          some (q60.1, q60.2)
        else
          fR_at_64 q52.2 a1 a2 a3 q38.1
    else
      Option.bind (fR_refuse q20.2 (2 : Int32)) fun q28 =>
      some (q28.1, q28.2)
def fR_tell (w : RS) (a1 : Int32) (a2 : Int32) : Option (Int32 × RS) :=
  g_let (sI w 15 (0 : Int32)) fun w2 =>
  Option.bind (fR_isShelf w2 a1) fun q6 =>
  if q6.1 = 0 then
    Option.bind (fR_refuse q6.2 (1 : Int32)) fun q24 =>
    some (q24.1, q24.2)
  else
    if a2 < 0 then
      Option.bind (fR_refuse q6.2 (1 : Int32)) fun q24 =>
      some (q24.1, q24.2)
    else
      if a2 ≤ (9 : Int32) then
        Option.bind (fR_on q6.2 a1) fun q30 =>
        if 0 ≤ q30.1 then
          if a2 = (0 : Int32) then
            Option.bind (fR_kindOf q30.2 q30.1) fun q98 =>
            some (q98.1, q98.2)
          else
          if a2 = (1 : Int32) then
            some (q30.1, q30.2)
          else
          if a2 = (2 : Int32) then
            g_ck ((120 : Int32) + q30.1) 557 <|
            g_let (q30.2.2.1 2 ((120 : Int32) + q30.1).toNatClampNeg) fun v112 =>
            some (v112, q30.2)
          else
          if a2 = (3 : Int32) then
            g_ck ((180 : Int32) + q30.1) 557 <|
            g_let (q30.2.2.1 2 ((180 : Int32) + q30.1).toNatClampNeg) fun v123 =>
            some (v123, q30.2)
          else
          if a2 = (4 : Int32) then
            g_ck ((240 : Int32) + q30.1) 557 <|
            g_let (q30.2.2.1 2 ((240 : Int32) + q30.1).toNatClampNeg) fun v134 =>
            some (v134, q30.2)
          else
          if a2 = (5 : Int32) then
            g_ck ((300 : Int32) + q30.1) 557 <|
            g_let (q30.2.2.1 2 ((300 : Int32) + q30.1).toNatClampNeg) fun v145 =>
            some (v145, q30.2)
          else
          if a2 = (6 : Int32) then
            g_ck ((360 : Int32) + q30.1) 557 <|
            g_let (q30.2.2.1 2 ((360 : Int32) + q30.1).toNatClampNeg) fun v156 =>
            some (v156, q30.2)
          else
          if a2 = (7 : Int32) then
            Option.bind (fR_kindOf q30.2 q30.1) fun q161 =>
            Option.bind (fR_isPart q161.2 q161.1) fun q164 =>
            if q164.1 = 0 then
              some ((0 : Int32), q164.2)
            else
              Option.bind (fR_load q164.2 q30.1) fun q172 =>
              some (q172.1, q172.2)
          else
          if a2 = (8 : Int32) then
            g_ck ((420 : Int32) + q30.1) 557 <|
            g_let (q30.2.2.1 2 ((420 : Int32) + q30.1).toNatClampNeg) fun v189 =>
            some (v189, q30.2)
          else
            g_ck ((480 : Int32) + q30.1) 557 <|
            g_let (q30.2.2.1 2 ((480 : Int32) + q30.1).toNatClampNeg) fun v200 =>
            some (v200, q30.2)
        else
          Option.bind (fR_refuse q30.2 (2 : Int32)) fun q40 =>
          some (q40.1, q40.2)
      else
        Option.bind (fR_refuse q6.2 (1 : Int32)) fun q24 =>
        some (q24.1, q24.2)
def fR_why (w : RS)  : Option (Int32 × RS) :=
  some (w.1 15, w)
