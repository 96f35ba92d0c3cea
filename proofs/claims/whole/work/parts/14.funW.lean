def fC__isWhen (w : CS) (b0 b1 b2 : Int32) (b3 : Int64) (b4 b5 : Int32)  : Option (Int32 × CS) :=
  if b0 = (11 : Int32) then
    some ((1 : Int32), w)
  else
    some ((0 : Int32), w)
def fC__perform (w : CS) (b0 b1 b2 : Int32) (b3 : Int64) (b4 b5 : Int32)  : Option (Int32 × CS) :=
  if b0 = (0 : Int32) then
    Option.bind (fC__makeThing w b1 b2 b3.toInt32) fun q82 =>
    some (q82.1, q82.2)
  else
  if b0 = (1 : Int32) then
    Option.bind (fC__layOver w b1 b2) fun q95 =>
    some (q95.1, q95.2)
  else
  if b0 = (2 : Int32) then
    Option.bind (fC__plugIn w b1 b2 b3.toInt32) fun q113 =>
    some (q113.1, q113.2)
  else
  if b0 = (3 : Int32) then
    Option.bind (fC__pullOut w b1 b2 b3.toInt32) fun q131 =>
    some (q131.1, q131.2)
  else
  if b0 = (4 : Int32) then
    Option.bind (fC__copyPlaces w b1 b2 b3.toInt32 b4 b5) fun q157 =>
    some (q157.1, q157.2)
  else
  if b0 = (5 : Int32) then
    Option.bind (fC__writeNumber w b1 b2 b3) fun q174 =>
    some (q174.1, q174.2)
  else
  if b0 = (6 : Int32) then
    Option.bind (fC__setKnob w b1 b2) fun q187 =>
    some (q187.1, q187.2)
  else
  if b0 = (7 : Int32) then
    Option.bind (fC__playOnce w b1 b2) fun q200 =>
    some (q200.1, q200.2)
  else
  if b0 = (8 : Int32) then
    Option.bind (fC__runOver w b1 b2) fun q213 =>
    some (q213.1, q213.2)
  else
  if b0 = (9 : Int32) then
    Option.bind (fC__tickOn w b1 b2) fun q226 =>
    some (q226.1, q226.2)
  else
  if b0 = (10 : Int32) then
    Option.bind (fC__restAll w b1) fun q235 =>
    some (q235.1, q235.2)
  else
    Option.bind (fC__askWhether w b1 b2) fun q248 =>
    some (q248.1, q248.2)
def wC_Sh_add (E : g_Env) (Q : Int32 → CS → Prop) (w : CS) (a1 : Nat) : Prop :=
  if (w.1 3) < 0 then
    Q (w.1 3) w
  else
    if (16 : Int32) ≤ (w.1 3) then
      Q (w.1 3) w
    else
      vp_in (w.1 3) 16 ∧
      ∃ (k28 : Nat) (vs28 : List Value), w.2.2.2.2.2[k28]? = some (a1, .inr (2, vs28)) ∧
      g_letP (cR w (w.1 3).toNatClampNeg (some a1)) fun w28 =>
      g_letP (cI w28 3 ((w28.1 3) + (1 : Int32))) fun w36 =>
      Q (w36.1 3) w36
def wC__noteDown (E : g_Env) (Q : Int32 → CS → Prop) (w : CS) (a1 : Nat) : Prop :=
  ∃ q4, fC_Sh_isFull w  = some q4 ∧
  if q4.1 = 0 then
    g_letP (cI q4.2 0 (0 : Int32)) fun w19 =>
    g_cps1 (fun Q => wC_Sh_add E Q w19 a1) fun r27 w27 =>
    Q r27 w27
  else
    ∃ q13, fC__refuse q4.2 (6 : Int32) = some q13 ∧
    Q q13.1 q13.2
def wC__keep (E : g_Env) (Q : Int32 → CS → Prop) (w : CS) (a1 : Int32) : Prop :=
  ∃ q4, fC_S_isHistoryFull w  = some q4 ∧
  if q4.1 = 0 then
    g_cps0 (fun Q => wC_S_keepAct E Q q4.2 ) fun w28 =>
    Q a1 w28
  else
    ∃ q14, fC_S_dropChanges q4.2  = some q14 ∧
    ∃ q20, fC__refuse q14 (6 : Int32) = some q20 ∧
    Q q20.1 q20.2
def wC__keepIfDone (E : g_Env) (Q : Int32 → CS → Prop) (w : CS) (a1 : Int32) : Prop :=
  if (w.1 0) = 0 then
    g_cps1 (fun Q => wC__keep E Q w a1) fun r9 w9 =>
    Q r9 w9
  else
    Q a1 w
def wC__make (E : g_Env) (Q : Int32 → CS → Prop) (w : CS) (a1 : Int32) (a2 : Int32) (a3 : Int32) : Prop :=
  if (w.1 4) = 0 then
    ∃ q36, fC__makeThing w a1 a2 a3 = some q36 ∧
    g_cps1 (fun Q => wC__keepIfDone E Q q36.2 q36.1) fun r39 w39 =>
    Q r39 w39
  else
    ∀ q11 : Nat,
    g_letP (cN w (q11, .inr (2, [.int (0 : Int32), .int a1, .int a2, .long a3.toInt64, .int (0 : Int32), .int (0 : Int32)]))) fun w22 =>
    g_cps1 (fun Q => wC__noteDown E Q w22 q11) fun r25 w25 =>
    Q r25 w25
def wC__lay (E : g_Env) (Q : Int32 → CS → Prop) (w : CS) (a1 : Int32) (a2 : Int32) : Prop :=
  if (w.1 4) = 0 then
    ∃ q34, fC__layOver w a1 a2 = some q34 ∧
    g_cps1 (fun Q => wC__keepIfDone E Q q34.2 q34.1) fun r37 w37 =>
    Q r37 w37
  else
    ∀ q11 : Nat,
    g_letP (cN w (q11, .inr (2, [.int (1 : Int32), .int a1, .int a2, .long (0 : Int64), .int (0 : Int32), .int (0 : Int32)]))) fun w21 =>
    g_cps1 (fun Q => wC__noteDown E Q w21 q11) fun r24 w24 =>
    Q r24 w24
def wC__plug (E : g_Env) (Q : Int32 → CS → Prop) (w : CS) (a1 : Int32) (a2 : Int32) (a3 : Int32) : Prop :=
  if (w.1 4) = 0 then
    ∃ q36, fC__plugIn w a1 a2 a3 = some q36 ∧
    g_cps1 (fun Q => wC__keepIfDone E Q q36.2 q36.1) fun r39 w39 =>
    Q r39 w39
  else
    ∀ q11 : Nat,
    g_letP (cN w (q11, .inr (2, [.int (2 : Int32), .int a1, .int a2, .long a3.toInt64, .int (0 : Int32), .int (0 : Int32)]))) fun w22 =>
    g_cps1 (fun Q => wC__noteDown E Q w22 q11) fun r25 w25 =>
    Q r25 w25
def wC__pull (E : g_Env) (Q : Int32 → CS → Prop) (w : CS) (a1 : Int32) (a2 : Int32) (a3 : Int32) : Prop :=
  if (w.1 4) = 0 then
    ∃ q36, fC__pullOut w a1 a2 a3 = some q36 ∧
    g_cps1 (fun Q => wC__keepIfDone E Q q36.2 q36.1) fun r39 w39 =>
    Q r39 w39
  else
    ∀ q11 : Nat,
    g_letP (cN w (q11, .inr (2, [.int (3 : Int32), .int a1, .int a2, .long a3.toInt64, .int (0 : Int32), .int (0 : Int32)]))) fun w22 =>
    g_cps1 (fun Q => wC__noteDown E Q w22 q11) fun r25 w25 =>
    Q r25 w25
def wC__copy (E : g_Env) (Q : Int32 → CS → Prop) (w : CS) (a1 : Int32) (a2 : Int32) (a3 : Int32) (a4 : Int32) (a5 : Int32) : Prop :=
  if (w.1 4) = 0 then
    ∃ q39, fC__copyPlaces w a1 a2 a3 a4 a5 = some q39 ∧
    if (q39.2.1 0) = (5 : Int32) then
      g_cps1 (fun Q => wC__keep E Q q39.2 q39.1) fun r55 w55 =>
      Q r55 w55
    else
      g_cps1 (fun Q => wC__keepIfDone E Q q39.2 q39.1) fun r64 w64 =>
      Q r64 w64
  else
    ∀ q11 : Nat,
    g_letP (cN w (q11, .inr (2, [.int (4 : Int32), .int a1, .int a2, .long a3.toInt64, .int a4, .int a5]))) fun w24 =>
    g_cps1 (fun Q => wC__noteDown E Q w24 q11) fun r27 w27 =>
    Q r27 w27
def wC__write (E : g_Env) (Q : Int32 → CS → Prop) (w : CS) (a1 : Int32) (a2 : Int32) (a3 : Int64) : Prop :=
  if (w.1 4) = 0 then
    ∃ q35, fC__writeNumber w a1 a2 a3 = some q35 ∧
    g_cps1 (fun Q => wC__keepIfDone E Q q35.2 q35.1) fun r38 w38 =>
    Q r38 w38
  else
    ∀ q11 : Nat,
    g_letP (cN w (q11, .inr (2, [.int (5 : Int32), .int a1, .int a2, .long a3, .int (0 : Int32), .int (0 : Int32)]))) fun w21 =>
    g_cps1 (fun Q => wC__noteDown E Q w21 q11) fun r24 w24 =>
    Q r24 w24
def wC__knob (E : g_Env) (Q : Int32 → CS → Prop) (w : CS) (a1 : Int32) (a2 : Int32) : Prop :=
  if (w.1 4) = 0 then
    ∃ q35, fC__setKnob w a1 a2 = some q35 ∧
    g_cps1 (fun Q => wC__keepIfDone E Q q35.2 q35.1) fun r38 w38 =>
    Q r38 w38
  else
    ∀ q11 : Nat,
    g_letP (cN w (q11, .inr (2, [.int (6 : Int32), .int a1, .int a2, .long (0 : Int64), .int (0 : Int32), .int (0 : Int32)]))) fun w22 =>
    g_cps1 (fun Q => wC__noteDown E Q w22 q11) fun r25 w25 =>
    Q r25 w25
def wC__play (E : g_Env) (Q : Int32 → CS → Prop) (w : CS) (a1 : Int32) (a2 : Int32) : Prop :=
  if (w.1 4) = 0 then
    ∃ q35, fC__playOnce w a1 a2 = some q35 ∧
    g_cps1 (fun Q => wC__keepIfDone E Q q35.2 q35.1) fun r38 w38 =>
    Q r38 w38
  else
    ∀ q11 : Nat,
    g_letP (cN w (q11, .inr (2, [.int (7 : Int32), .int a1, .int a2, .long (0 : Int64), .int (0 : Int32), .int (0 : Int32)]))) fun w22 =>
    g_cps1 (fun Q => wC__noteDown E Q w22 q11) fun r25 w25 =>
    Q r25 w25
def wC__run (E : g_Env) (Q : Int32 → CS → Prop) (w : CS) (a1 : Int32) (a2 : Int32) : Prop :=
  if (w.1 4) = 0 then
    ∃ q35, fC__runOver w a1 a2 = some q35 ∧
    g_cps1 (fun Q => wC__keepIfDone E Q q35.2 q35.1) fun r38 w38 =>
    Q r38 w38
  else
    ∀ q11 : Nat,
    g_letP (cN w (q11, .inr (2, [.int (8 : Int32), .int a1, .int a2, .long (0 : Int64), .int (0 : Int32), .int (0 : Int32)]))) fun w22 =>
    g_cps1 (fun Q => wC__noteDown E Q w22 q11) fun r25 w25 =>
    Q r25 w25
def wC__ticks (E : g_Env) (Q : Int32 → CS → Prop) (w : CS) (a1 : Int32) (a2 : Int32) : Prop :=
  if (w.1 4) = 0 then
    ∃ q35, fC__tickOn w a1 a2 = some q35 ∧
    g_cps1 (fun Q => wC__keepIfDone E Q q35.2 q35.1) fun r38 w38 =>
    Q r38 w38
  else
    ∀ q11 : Nat,
    g_letP (cN w (q11, .inr (2, [.int (9 : Int32), .int a1, .int a2, .long (0 : Int64), .int (0 : Int32), .int (0 : Int32)]))) fun w22 =>
    g_cps1 (fun Q => wC__noteDown E Q w22 q11) fun r25 w25 =>
    Q r25 w25
def wC__rest (E : g_Env) (Q : Int32 → CS → Prop) (w : CS) (a1 : Int32) : Prop :=
  if (w.1 4) = 0 then
    ∃ q34, fC__restAll w a1 = some q34 ∧
    g_cps1 (fun Q => wC__keepIfDone E Q q34.2 q34.1) fun r37 w37 =>
    Q r37 w37
  else
    ∀ q11 : Nat,
    g_letP (cN w (q11, .inr (2, [.int (10 : Int32), .int a1, .int (0 : Int32), .long (0 : Int64), .int (0 : Int32), .int (0 : Int32)]))) fun w22 =>
    g_cps1 (fun Q => wC__noteDown E Q w22 q11) fun r25 w25 =>
    Q r25 w25
def wC__when (E : g_Env) (Q : Int32 → CS → Prop) (w : CS) (a1 : Int32) (a2 : Int32) : Prop :=
  if (w.1 4) = 0 then
    ∃ q34, fC__refuse w (7 : Int32) = some q34 ∧
    Q q34.1 q34.2
  else
    ∀ q11 : Nat,
    g_letP (cN w (q11, .inr (2, [.int (11 : Int32), .int a1, .int a2, .long (0 : Int64), .int (0 : Int32), .int (0 : Int32)]))) fun w22 =>
    g_cps1 (fun Q => wC__noteDown E Q w22 q11) fun r25 w25 =>
    Q r25 w25
def wC__carry_137 (E : g_Env) (Q : Int32 → CS → Prop) (k42 : CS → Int32 → Int32 → Int32 → Prop) (k53 : CS → Int32 → Int32 → Int32 → Int32 → Int32 → Prop) (w : CS) (x1 : Int32) (x2 : Int32) (x3 : Int32) (x4 : Int32) (x5 : Int32) : Prop :=
  k53 w x1 x2 x3 x4 (x5 + (1 : Int32))
def wC__carry_135 (E : g_Env) (Q : Int32 → CS → Prop) (k42 : CS → Int32 → Int32 → Int32 → Prop) (k53 : CS → Int32 → Int32 → Int32 → Int32 → Int32 → Prop) (w : CS) (x1 : Int32) (x2 : Int32) (x3 : Int32) (x5 : Int32) (t0 : Int32) : Prop :=
  wC__carry_137 E Q k42 k53 w x1 x2 x3 t0 x5
def wC__carry_134 (E : g_Env) (Q : Int32 → CS → Prop) (k42 : CS → Int32 → Int32 → Int32 → Prop) (k53 : CS → Int32 → Int32 → Int32 → Int32 → Int32 → Prop) (w : CS) (x1 : Int32) (x2 : Int32) (x3 : Int32) (x5 : Int32) : Prop :=
  wC__carry_135 E Q k42 k53 w x1 x2 x3 x5 (0 : Int32)
def wC__carry_53 (E : g_Env) (Q : Int32 → CS → Prop) (k42 : CS → Int32 → Int32 → Int32 → Prop) : Nat → CS → Int32 → Int32 → Int32 → Int32 → Int32 → Prop
  | 0, _, _, _, _, _, _ => False
  | n + 1, w, x1, x2, x3, x4, x5 =>
    if (w.1 3) < x5 then
      k42 w x1 x2 (x3 + (1 : Int32))
    else
      if x4 = 0 then
        ¬ x5 < 1 ∧ ¬ 16 < x5 ∧ vp_in (x5 - 1) 16 ∧ ∃ q82 : Nat, w.2.2.2.2.1 (x5 - 1).toNatClampNeg = some q82 ∧
        ∃ (k90 : Nat) (b0_90 b1_90 b2_90 : Int32) (b3_90 : Int64) (b4_90 b5_90 : Int32), w.2.2.2.2.2[k90]? = some (q82, .inr (2, [.int b0_90, .int b1_90, .int b2_90, .long b3_90, .int b4_90, .int b5_90])) ∧
        ∃ q90, fC__perform w b0_90 b1_90 b2_90 b3_90 b4_90 b5_90 = some q90 ∧
        if (q90.2.1 0) = 0 then
          if q90.1 = 0 then
            ∃ (k124 : Nat) (b0_124 b1_124 b2_124 : Int32) (b3_124 : Int64) (b4_124 b5_124 : Int32), q90.2.2.2.2.2.2[k124]? = some (q82, .inr (2, [.int b0_124, .int b1_124, .int b2_124, .long b3_124, .int b4_124, .int b5_124])) ∧
            ∃ q124, fC__isWhen q90.2 b0_124 b1_124 b2_124 b3_124 b4_124 b5_124 = some q124 ∧
            if q124.1 = 0 then
              wC__carry_134 E Q k42 (wC__carry_53 E Q k42 n) q124.2 x1 (x2 + q90.1) x3 x5
            else
              wC__carry_135 E Q k42 (wC__carry_53 E Q k42 n) q124.2 x1 (x2 + q90.1) x3 x5 (1 : Int32)
          else
            wC__carry_134 E Q k42 (wC__carry_53 E Q k42 n) q90.2 x1 (x2 + q90.1) x3 x5
        else
          ∃ q106, fC_S_dropChanges q90.2  = some q106 ∧
          Q x5 q106
      else
        wC__carry_137 E Q k42 (wC__carry_53 E Q k42 n) w x1 x2 x3 (0 : Int32) x5
def wC__carry_42 (E : g_Env) (Q : Int32 → CS → Prop) : Nat → CS → Int32 → Int32 → Int32 → Prop
  | 0, _, _, _, _ => False
  | n + 1, w, x1, x2, x3 =>
    if x1 < x3 then
      g_cps1 (fun Q => wC__keep E Q w x2) fun r151 w151 =>
      Q r151 w151
    else
      wC__carry_53 E Q (wC__carry_42 E Q n) g_fuel w x1 x2 x3 (0 : Int32) (1 : Int32)
def wC__carry (E : g_Env) (Q : Int32 → CS → Prop) (w : CS) (a1 : Int32) : Prop :=
  if a1 < (1 : Int32) then
    ∃ q12, fC__refuse w (1 : Int32) = some q12 ∧
    Q q12.1 q12.2
  else
    if a1 ≤ (4 : Int32) then
      if (w.1 4) = 0 then
        g_letP (cI w 0 (0 : Int32)) fun w35 =>
        wC__carry_42 E Q g_fuel w35 a1 (0 : Int32) (1 : Int32)
      else
        ∃ q29, fC__refuse w (7 : Int32) = some q29 ∧
        Q q29.1 q29.2
    else
      ∃ q12, fC__refuse w (1 : Int32) = some q12 ∧
      Q q12.1 q12.2
def wC__undo (E : g_Env) (Q : Int32 → CS → Prop) (w : CS)  : Prop :=
  if (w.1 4) = 0 then
    if (w.1 1) = 0 then
      ∃ q23, fC__refuse w (7 : Int32) = some q23 ∧
      Q q23.1 q23.2
    else
      g_letP (cI w 0 (0 : Int32)) fun w29 =>
      g_cps0 (fun Q => wC_S_takeBackAct E Q w29 ) fun w36 =>
      Q (w36.1 1) w36
  else
    ∃ q23, fC__refuse w (7 : Int32) = some q23 ∧
    Q q23.1 q23.2
