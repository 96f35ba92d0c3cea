set_option maxRecDepth 100000 in
set_option maxHeartbeats 4000000 in
theorem cR_isPartUnder (l : Launch) (E : g_Env) (A : Nat → Prop) (o : Nat) (ad : Nat → Nat) (w : RS) (w' : RS) (r : Int32) (a1 : Int32) (a2 : Int32) (hf : fR_isPartUnder w a1 a2 = some (r, w')) : g_Mi l yX8_isPartUnder cX8_isPartUnder 5 ((some .boolean)) ({ frames := 0, cells := 0, slots := 0, locals := 0 }) E A [.ref o, .int a1, .int a2] (wsR E o ad w) r (wsR E o ad w') := by
  refine g_start (by decide) (Nat.le_of_ble_eq_true rfl) ?_
  intro p e s m below meth c C hr hk hnm ls hl H locs X
  have hx := C.1.1
  have hb := C.1.2.1
  have hl : lv_has ls 5 [(0, .ref o), (1, .int a1), (2, .int a2)] := hl
  have j19 : ∀ (n : Nat) (w : RS) (x2 : Int32) (x3 : Int32) (x4 : Int32) (ls : Array Slot) (H : Heap) (locs : List Loc), fR_isPartUnder_19 n w x2 x3 x4 = some (r, w') → lv_has ls 5 [(0, .ref o), (2, .int x2), (3, .int x3), (4, .int x4)] → g_W E A s H locs (wsR E o ad w) → W p l e ({ frames := 0, cells := 0, slots := 0, locals := 0 }) s m ([.ref o, .int a1, .int a2] : List Value).toArray below meth c H locs 0 0 (MQ below (va_Qi (fun (r' : Int32) (u' : va_W) => r' = r ∧ u' = wsR E o ad w') (g_B E A) A) ([.ref o, .int a1, .int a2] : List Value).toArray s 0 0 A) (F0 m 19 ls []) := by
    intro n
    induction n with
    | zero => intro w x2 x3 x4 ls H locs hf; exact absurd hf (by simp [fR_isPartUnder_19])
    | succ n19 ih19 =>
      intro w x2 x3 x4 ls H locs hf hl X
      unfold fR_isPartUnder_19 at hf
      refine lv_iload hx hb dX8_isPartUnder_19 (lv_at hl 3 rfl) ?_
      refine lv_bipush (v := 6) hx hb dX8_isPartUnder_21 (by decide) ?_
      refine lv_icmp_ge (tgt := 50) hx hb dX8_isPartUnder_23 (by decide) (fun c23 => ?_) (fun c23 => ?_)
      · have hf := g_t hf c23
        refine lv_iconst (v := 0) hx hb dX8_isPartUnder_50 (by decide) ?_
        exact g_zret (wsR E o ad) C hr hk rfl X hf dX8_isPartUnder_51
      · have hf := g_f hf c23
        refine lv_iload_n hx hb dX8_isPartUnder_26 rfl (lv_at hl 2 rfl) ?_
        refine lv_if_lt (tgt := 50) hx hb dX8_isPartUnder_27 (by decide) (fun c27 => ?_) (fun c27 => ?_)
        · have hf := g_t hf c27
          refine lv_iconst (v := 0) hx hb dX8_isPartUnder_50 (by decide) ?_
          exact g_zret (wsR E o ad) C hr hk rfl X hf dX8_isPartUnder_51
        · have hf := g_f hf c27
          refine lv_iload_n hx hb dX8_isPartUnder_30 rfl (lv_at hl 2 rfl) ?_
          refine lv_iload_n hx hb dX8_isPartUnder_31 rfl (lv_at hl 1 rfl) ?_
          refine lv_icmp_ne (tgt := 37) hx hb dX8_isPartUnder_32 (by decide) (fun c32 => ?_) (fun c32 => ?_)
          · have hf := g_f hf c32
            refine lv_aload_n hx hb dX8_isPartUnder_37 rfl (lv_at hl 0 rfl) ?_
            refine g_get C X g_iX8 0 rfl rfl 0 (by decide) rfl m_641 rfl dX8_isPartUnder_38 ?_
            refine lv_iload_n hx hb dX8_isPartUnder_41 rfl (lv_at hl 2 rfl) ?_
            obtain ⟨h42, hf⟩ := g_cke hf
            obtain ⟨v42, e42, hf⟩ := g_le hf
            refine g_iald C X 1 rfl h42 e42 dX8_isPartUnder_42 ?_
            refine lv_istore_n (lv' := [(3, .int v42), (0, .ref o), (2, .int x2), (4, .int x4)]) hx hb dX8_isPartUnder_43 rfl hl (by decide) rfl (fun ls hl => ?_)
            refine lv_iinc (v := x4 + (1 : Int32)) (lv' := [(4, .int (x4 + (1 : Int32))), (3, .int v42), (0, .ref o), (2, .int x2)]) hx hb dX8_isPartUnder_44 hl (k := 3) rfl rfl (by decide) rfl (fun ls hl => ?_)
            refine lv_goto (tgt := 19) hx hb dX8_isPartUnder_47 (by decide) ?_
            exact ih19 w x2 v42 (x4 + (1 : Int32)) ls H locs hf (lv_sub hl [2, 3, 1, 0] rfl) X
          · have hf := g_t hf c32
            refine lv_iconst (v := 1) hx hb dX8_isPartUnder_35 (by decide) ?_
            exact g_zret (wsR E o ad) C hr hk rfl X hf dX8_isPartUnder_36
  have j14 : ∀ (w : RS) (x1 : Int32) (x2 : Int32) (ls : Array Slot) (H : Heap) (locs : List Loc), fR_isPartUnder_14 w x1 x2 = some (r, w') → lv_has ls 5 [(0, .ref o), (1, .int x1), (2, .int x2)] → g_W E A s H locs (wsR E o ad w) → W p l e ({ frames := 0, cells := 0, slots := 0, locals := 0 }) s m ([.ref o, .int a1, .int a2] : List Value).toArray below meth c H locs 0 0 (MQ below (va_Qi (fun (r' : Int32) (u' : va_W) => r' = r ∧ u' = wsR E o ad w') (g_B E A) A) ([.ref o, .int a1, .int a2] : List Value).toArray s 0 0 A) (F0 m 14 ls []) := by
    intro w x1 x2 ls H locs hf hl X
    unfold fR_isPartUnder_14 at hf
    refine lv_iload_n hx hb dX8_isPartUnder_14 rfl (lv_at hl 1 rfl) ?_
    refine lv_istore_n (lv' := [(3, .int x1), (0, .ref o), (1, .int x1), (2, .int x2)]) hx hb dX8_isPartUnder_15 rfl hl (by decide) rfl (fun ls hl => ?_)
    refine lv_iconst (v := 0) hx hb dX8_isPartUnder_16 (by decide) ?_
    refine lv_istore (lv' := [(4, .int (0 : Int32)), (3, .int x1), (0, .ref o), (1, .int x1), (2, .int x2)]) hx hb dX8_isPartUnder_17 hl (by decide) rfl (fun ls hl => ?_)
    exact j19 g_fuel w x2 x1 (0 : Int32) ls H locs hf (lv_sub hl [2, 4, 1, 0] rfl) X
  unfold fR_isPartUnder at hf
  refine lv_iload_n hx hb dX8_isPartUnder_0 rfl (lv_at hl 1 rfl) ?_
  refine lv_bipush (v := 10) hx hb dX8_isPartUnder_1 (by decide) ?_
  refine lv_icmp_ne (tgt := 14) hx hb dX8_isPartUnder_3 (by decide) (fun c3 => ?_) (fun c3 => ?_)
  · have hf := g_f hf c3
    exact j14 w a1 a2 ls H locs hf (lv_sub hl [0, 1, 2] rfl) X
  · have hf := g_t hf c3
    refine lv_iload_n hx hb dX8_isPartUnder_6 rfl (lv_at hl 2 rfl) ?_
    refine lv_bipush (v := 12) hx hb dX8_isPartUnder_7 (by decide) ?_
    refine lv_icmp_ne (tgt := 14) hx hb dX8_isPartUnder_9 (by decide) (fun c9 => ?_) (fun c9 => ?_)
    · have hf := g_f hf c9
      exact j14 w a1 a2 ls H locs hf (lv_sub hl [0, 1, 2] rfl) X
    · have hf := g_t hf c9
      refine lv_iconst (v := 1) hx hb dX8_isPartUnder_12 (by decide) ?_
      exact g_zret (wsR E o ad) C hr hk rfl X hf dX8_isPartUnder_13
set_option maxRecDepth 100000 in
set_option maxHeartbeats 4000000 in
theorem cR_isRowOf (l : Launch) (E : g_Env) (A : Nat → Prop) (o : Nat) (ad : Nat → Nat) (w : RS) (w' : RS) (r : Int32) (a0 : Int32) (hf : fR_isRowOf w a0 = some (r, w')) : g_Mi l yX8_isRowOf cX8_isRowOf 1 ((some .boolean)) ({ frames := 0, cells := 0, slots := 0, locals := 0 }) E A [.int a0] (wsR E o ad w) r (wsR E o ad w') := by
  refine g_start (by decide) (Nat.le_of_ble_eq_true rfl) ?_
  intro p e s m below meth c C hr hk hnm ls hl H locs X
  have hx := C.1.1
  have hb := C.1.2.1
  have hl : lv_has ls 1 [(0, .int a0)] := hl
  unfold fR_isRowOf at hf
  refine lv_iload_n hx hb dX8_isRowOf_0 rfl (lv_at hl 0 rfl) ?_
  refine lv_bipush (v := 17) hx hb dX8_isRowOf_1 (by decide) ?_
  refine lv_icmp_lt (tgt := 16) hx hb dX8_isRowOf_3 (by decide) (fun c3 => ?_) (fun c3 => ?_)
  · have hf := g_t hf c3
    refine lv_iconst (v := 0) hx hb dX8_isRowOf_16 (by decide) ?_
    exact g_zret (wsR E o ad) C hr hk rfl X hf dX8_isRowOf_17
  · have hf := g_f hf c3
    refine lv_iload_n hx hb dX8_isRowOf_6 rfl (lv_at hl 0 rfl) ?_
    refine lv_bipush (v := 22) hx hb dX8_isRowOf_7 (by decide) ?_
    refine lv_icmp_gt (tgt := 16) hx hb dX8_isRowOf_9 (by decide) (fun c9 => ?_) (fun c9 => ?_)
    · have hf := g_t hf c9
      refine lv_iconst (v := 0) hx hb dX8_isRowOf_16 (by decide) ?_
      exact g_zret (wsR E o ad) C hr hk rfl X hf dX8_isRowOf_17
    · have hf := g_f hf c9
      refine lv_iconst (v := 1) hx hb dX8_isRowOf_12 (by decide) ?_
      refine lv_goto (tgt := 17) hx hb dX8_isRowOf_13 (by decide) ?_
      exact g_zret (wsR E o ad) C hr hk rfl X hf dX8_isRowOf_17
set_option maxRecDepth 100000 in
set_option maxHeartbeats 4000000 in
theorem cR_isBoard (l : Launch) (E : g_Env) (A : Nat → Prop) (o : Nat) (ad : Nat → Nat) (w : RS) (w' : RS) (r : Int32) (a0 : Int32) (hf : fR_isBoard w a0 = some (r, w')) : g_Mi l yX8_isBoard cX8_isBoard 1 ((some .boolean)) ({ frames := 0, cells := 0, slots := 0, locals := 0 }) E A [.int a0] (wsR E o ad w) r (wsR E o ad w') := by
  refine g_start (by decide) (Nat.le_of_ble_eq_true rfl) ?_
  intro p e s m below meth c C hr hk hnm ls hl H locs X
  have hx := C.1.1
  have hb := C.1.2.1
  have hl : lv_has ls 1 [(0, .int a0)] := hl
  unfold fR_isBoard at hf
  refine lv_iload_n hx hb dX8_isBoard_0 rfl (lv_at hl 0 rfl) ?_
  refine lv_bipush (v := 23) hx hb dX8_isBoard_1 (by decide) ?_
  refine lv_icmp_eq (tgt := 12) hx hb dX8_isBoard_3 (by decide) (fun c3 => ?_) (fun c3 => ?_)
  · have hf := g_t hf c3
    refine lv_iconst (v := 1) hx hb dX8_isBoard_12 (by decide) ?_
    refine lv_goto (tgt := 17) hx hb dX8_isBoard_13 (by decide) ?_
    exact g_zret (wsR E o ad) C hr hk rfl X hf dX8_isBoard_17
  · have hf := g_f hf c3
    refine lv_iload_n hx hb dX8_isBoard_6 rfl (lv_at hl 0 rfl) ?_
    refine lv_bipush (v := 24) hx hb dX8_isBoard_7 (by decide) ?_
    refine lv_icmp_ne (tgt := 16) hx hb dX8_isBoard_9 (by decide) (fun c9 => ?_) (fun c9 => ?_)
    · have hf := g_f hf c9
      refine lv_iconst (v := 0) hx hb dX8_isBoard_16 (by decide) ?_
      exact g_zret (wsR E o ad) C hr hk rfl X hf dX8_isBoard_17
    · have hf := g_t hf c9
      refine lv_iconst (v := 1) hx hb dX8_isBoard_12 (by decide) ?_
      refine lv_goto (tgt := 17) hx hb dX8_isBoard_13 (by decide) ?_
      exact g_zret (wsR E o ad) C hr hk rfl X hf dX8_isBoard_17
set_option maxRecDepth 100000 in
set_option maxHeartbeats 4000000 in
theorem cR_isNumberRow (l : Launch) (E : g_Env) (A : Nat → Prop) (o : Nat) (ad : Nat → Nat) (w : RS) (w' : RS) (r : Int32) (a0 : Int32) (hf : fR_isNumberRow w a0 = some (r, w')) : g_Mi l yX8_isNumberRow cX8_isNumberRow 1 ((some .boolean)) ({ frames := 0, cells := 0, slots := 0, locals := 0 }) E A [.int a0] (wsR E o ad w) r (wsR E o ad w') := by
  refine g_start (by decide) (Nat.le_of_ble_eq_true rfl) ?_
  intro p e s m below meth c C hr hk hnm ls hl H locs X
  have hx := C.1.1
  have hb := C.1.2.1
  have hl : lv_has ls 1 [(0, .int a0)] := hl
  unfold fR_isNumberRow at hf
  refine lv_iload_n hx hb dX8_isNumberRow_0 rfl (lv_at hl 0 rfl) ?_
  refine lv_bipush (v := 13) hx hb dX8_isNumberRow_1 (by decide) ?_
  refine lv_icmp_lt (tgt := 16) hx hb dX8_isNumberRow_3 (by decide) (fun c3 => ?_) (fun c3 => ?_)
  · have hf := g_t hf c3
    refine lv_iconst (v := 0) hx hb dX8_isNumberRow_16 (by decide) ?_
    exact g_zret (wsR E o ad) C hr hk rfl X hf dX8_isNumberRow_17
  · have hf := g_f hf c3
    refine lv_iload_n hx hb dX8_isNumberRow_6 rfl (lv_at hl 0 rfl) ?_
    refine lv_bipush (v := 15) hx hb dX8_isNumberRow_7 (by decide) ?_
    refine lv_icmp_gt (tgt := 16) hx hb dX8_isNumberRow_9 (by decide) (fun c9 => ?_) (fun c9 => ?_)
    · have hf := g_t hf c9
      refine lv_iconst (v := 0) hx hb dX8_isNumberRow_16 (by decide) ?_
      exact g_zret (wsR E o ad) C hr hk rfl X hf dX8_isNumberRow_17
    · have hf := g_f hf c9
      refine lv_iconst (v := 1) hx hb dX8_isNumberRow_12 (by decide) ?_
      refine lv_goto (tgt := 17) hx hb dX8_isNumberRow_13 (by decide) ?_
      exact g_zret (wsR E o ad) C hr hk rfl X hf dX8_isNumberRow_17
set_option maxRecDepth 100000 in
set_option maxHeartbeats 4000000 in
theorem cR_isRowOfThings (l : Launch) (E : g_Env) (A : Nat → Prop) (o : Nat) (ad : Nat → Nat) (w : RS) (w' : RS) (r : Int32) (a0 : Int32) (hf : fR_isRowOfThings w a0 = some (r, w')) : g_Mi l yX8_isRowOfThings cX8_isRowOfThings 1 ((some .boolean)) ({ frames := 0, cells := 0, slots := 0, locals := 0 }) E A [.int a0] (wsR E o ad w) r (wsR E o ad w') := by
  refine g_start (by decide) (Nat.le_of_ble_eq_true rfl) ?_
  intro p e s m below meth c C hr hk hnm ls hl H locs X
  have hx := C.1.1
  have hb := C.1.2.1
  have hl : lv_has ls 1 [(0, .int a0)] := hl
  unfold fR_isRowOfThings at hf
  refine lv_iload_n hx hb dX8_isRowOfThings_0 rfl (lv_at hl 0 rfl) ?_
  refine lv_bipush (v := 16) hx hb dX8_isRowOfThings_1 (by decide) ?_
  refine lv_icmp_lt (tgt := 16) hx hb dX8_isRowOfThings_3 (by decide) (fun c3 => ?_) (fun c3 => ?_)
  · have hf := g_t hf c3
    refine lv_iconst (v := 0) hx hb dX8_isRowOfThings_16 (by decide) ?_
    exact g_zret (wsR E o ad) C hr hk rfl X hf dX8_isRowOfThings_17
  · have hf := g_f hf c3
    refine lv_iload_n hx hb dX8_isRowOfThings_6 rfl (lv_at hl 0 rfl) ?_
    refine lv_bipush (v := 24) hx hb dX8_isRowOfThings_7 (by decide) ?_
    refine lv_icmp_gt (tgt := 16) hx hb dX8_isRowOfThings_9 (by decide) (fun c9 => ?_) (fun c9 => ?_)
    · have hf := g_t hf c9
      refine lv_iconst (v := 0) hx hb dX8_isRowOfThings_16 (by decide) ?_
      exact g_zret (wsR E o ad) C hr hk rfl X hf dX8_isRowOfThings_17
    · have hf := g_f hf c9
      refine lv_iconst (v := 1) hx hb dX8_isRowOfThings_12 (by decide) ?_
      refine lv_goto (tgt := 17) hx hb dX8_isRowOfThings_13 (by decide) ?_
      exact g_zret (wsR E o ad) C hr hk rfl X hf dX8_isRowOfThings_17
set_option maxRecDepth 100000 in
set_option maxHeartbeats 4000000 in
theorem cR_memberOf (l : Launch) (E : g_Env) (A : Nat → Prop) (o : Nat) (ad : Nat → Nat) (w : RS) (w' : RS) (r : Int32) (a1 : Int32) (hf : fR_memberOf w a1 = some (r, w')) : g_Mi l yX8_memberOf cX8_memberOf 2 ((some .int)) ({ frames := 0, cells := 0, slots := 0, locals := 0 }) E A [.ref o, .int a1] (wsR E o ad w) r (wsR E o ad w') := by
  refine g_start (by decide) (Nat.le_of_ble_eq_true rfl) ?_
  intro p e s m below meth c C hr hk hnm ls hl H locs X
  have hx := C.1.1
  have hb := C.1.2.1
  have hl : lv_has ls 2 [(0, .ref o), (1, .int a1)] := hl
  unfold fR_memberOf at hf
  refine lv_aload_n hx hb dX8_memberOf_0 rfl (lv_at hl 0 rfl) ?_
  refine g_get C X g_iX8 0 rfl rfl 1 (by decide) rfl m_642 rfl dX8_memberOf_1 ?_
  refine lv_iload_n hx hb dX8_memberOf_4 rfl (lv_at hl 1 rfl) ?_
  refine lv_bipush (v := 17) hx hb dX8_memberOf_5 (by decide) ?_
  refine lv_isub hx hb dX8_memberOf_7 ?_
  obtain ⟨h8, hf⟩ := g_cke hf
  obtain ⟨v8, e8, hf⟩ := g_le hf
  refine g_iald C X 2 rfl h8 e8 dX8_memberOf_8 ?_
  exact g_iret (wsR E o ad) C hr hk X hf dX8_memberOf_9
set_option maxRecDepth 100000 in
set_option maxHeartbeats 4000000 in
theorem cR_isUnder (l : Launch) (E : g_Env) (A : Nat → Prop) (o : Nat) (ad : Nat → Nat) (w : RS) (w' : RS) (r : Int32) (a1 : Int32) (a2 : Int32) (hf : fR_isUnder w a1 a2 = some (r, w')) : g_Mi l yX8_isUnder cX8_isUnder 3 ((some .boolean)) ({ frames := 1, cells := 0, slots := 0, locals := 24 }) E A [.ref o, .int a1, .int a2] (wsR E o ad w) r (wsR E o ad w') := by
  refine g_start (by decide) (Nat.le_of_ble_eq_true rfl) ?_
  intro p e s m below meth c C hr hk hnm ls hl H locs X
  have hx := C.1.1
  have hb := C.1.2.1
  have hl : lv_has ls 3 [(0, .ref o), (1, .int a1), (2, .int a2)] := hl
  have j54 : ∀ (w : RS) (x1 : Int32) (x2 : Int32) (ls : Array Slot) (H : Heap) (locs : List Loc), fR_isUnder_54 w x1 x2 = some (r, w') → lv_has ls 3 [(0, .ref o), (1, .int x1), (2, .int x2)] → g_W E A s H locs (wsR E o ad w) → W p l e ({ frames := 1, cells := 0, slots := 0, locals := 24 }) s m ([.ref o, .int a1, .int a2] : List Value).toArray below meth c H locs 0 0 (MQ below (va_Qi (fun (r' : Int32) (u' : va_W) => r' = r ∧ u' = wsR E o ad w') (g_B E A) A) ([.ref o, .int a1, .int a2] : List Value).toArray s 0 0 A) (F0 m 54 ls []) := by
    intro w x1 x2 ls H locs hf hl X
    unfold fR_isUnder_54 at hf
    refine lv_aload_n hx hb dX8_isUnder_54 rfl (lv_at hl 0 rfl) ?_
    refine lv_aload_n hx hb dX8_isUnder_55 rfl (lv_at hl 0 rfl) ?_
    refine lv_iload_n hx hb dX8_isUnder_56 rfl (lv_at hl 1 rfl) ?_
    obtain ⟨q57, e57, hf⟩ := g_be hf
    refine g_calli X (g_runV (As := [.int x1]) (rest := [.ref o]) C X (cR_memberOf l E A o ad w q57.2 q57.1 x1 e57) kX8_memberOf m_744 0 6 rfl rfl hl.1 rfl ⟨Nat.le_of_ble_eq_true rfl, Nat.le_of_ble_eq_true rfl⟩ rfl (Nat.le_of_ble_eq_true rfl) dX8_isUnder_57 ⟨Nat.le_of_ble_eq_true rfl, Nat.le_of_ble_eq_true rfl⟩) rfl rfl (fun H locs X => ?_)
    refine lv_aload_n hx hb dX8_isUnder_60 rfl (lv_at hl 0 rfl) ?_
    refine lv_iload_n hx hb dX8_isUnder_61 rfl (lv_at hl 2 rfl) ?_
    obtain ⟨q62, e62, hf⟩ := g_be hf
    refine g_calli X (g_runV (As := [.int x2]) (rest := [.int q57.1, .ref o]) C X (cR_memberOf l E A o ad q57.2 q62.2 q62.1 x2 e62) kX8_memberOf m_744 0 6 rfl rfl hl.1 rfl ⟨Nat.le_of_ble_eq_true rfl, Nat.le_of_ble_eq_true rfl⟩ rfl (Nat.le_of_ble_eq_true rfl) dX8_isUnder_62 ⟨Nat.le_of_ble_eq_true rfl, Nat.le_of_ble_eq_true rfl⟩) rfl rfl (fun H locs X => ?_)
    obtain ⟨q65, e65, hf⟩ := g_be hf
    refine g_calli X (g_runV (As := [.int q57.1, .int q62.1]) (rest := []) C X (cR_isPartUnder l E A o ad q62.2 q65.2 q65.1 q57.1 q62.1 e65) kX8_isPartUnder m_734 0 6 rfl rfl hl.1 rfl ⟨Nat.le_of_ble_eq_true rfl, Nat.le_of_ble_eq_true rfl⟩ rfl (Nat.le_of_ble_eq_true rfl) dX8_isUnder_65 ⟨Nat.le_of_ble_eq_true rfl, Nat.le_of_ble_eq_true rfl⟩) rfl rfl (fun H locs X => ?_)
    obtain ⟨z68, hf⟩ := g_bz hf
    exact g_zret (wsR E o ad) C hr hk z68 X hf dX8_isUnder_68
  have j40 : ∀ (w : RS) (x1 : Int32) (x2 : Int32) (ls : Array Slot) (H : Heap) (locs : List Loc), fR_isUnder_40 w x1 x2 = some (r, w') → lv_has ls 3 [(0, .ref o), (1, .int x1), (2, .int x2)] → g_W E A s H locs (wsR E o ad w) → W p l e ({ frames := 1, cells := 0, slots := 0, locals := 24 }) s m ([.ref o, .int a1, .int a2] : List Value).toArray below meth c H locs 0 0 (MQ below (va_Qi (fun (r' : Int32) (u' : va_W) => r' = r ∧ u' = wsR E o ad w') (g_B E A) A) ([.ref o, .int a1, .int a2] : List Value).toArray s 0 0 A) (F0 m 40 ls []) := by
    intro w x1 x2 ls H locs hf hl X
    unfold fR_isUnder_40 at hf
    refine lv_iload_n hx hb dX8_isUnder_40 rfl (lv_at hl 1 rfl) ?_
    obtain ⟨q41, e41, hf⟩ := g_be hf
    refine g_calli X (g_runS (As := [.int x1]) (rest := []) C X (cR_isBoard l E A o ad w q41.2 q41.1 x1 e41) kX8_isBoard m_741 hl.1 rfl ⟨Nat.le_of_ble_eq_true rfl, Nat.le_of_ble_eq_true rfl⟩ rfl (Nat.le_of_ble_eq_true rfl) dX8_isUnder_41 ⟨Nat.le_of_ble_eq_true rfl, Nat.le_of_ble_eq_true rfl⟩) rfl rfl (fun H locs X => ?_)
    refine lv_if_eq (tgt := 69) hx hb dX8_isUnder_44 (by decide) (fun c44 => ?_) (fun c44 => ?_)
    · have hf := g_t hf c44
      refine lv_iconst (v := 0) hx hb dX8_isUnder_69 (by decide) ?_
      exact g_zret (wsR E o ad) C hr hk rfl X hf dX8_isUnder_70
    · have hf := g_f hf c44
      refine lv_iload_n hx hb dX8_isUnder_47 rfl (lv_at hl 2 rfl) ?_
      obtain ⟨q48, e48, hf⟩ := g_be hf
      refine g_calli X (g_runS (As := [.int x2]) (rest := []) C X (cR_isBoard l E A o ad q41.2 q48.2 q48.1 x2 e48) kX8_isBoard m_741 hl.1 rfl ⟨Nat.le_of_ble_eq_true rfl, Nat.le_of_ble_eq_true rfl⟩ rfl (Nat.le_of_ble_eq_true rfl) dX8_isUnder_48 ⟨Nat.le_of_ble_eq_true rfl, Nat.le_of_ble_eq_true rfl⟩) rfl rfl (fun H locs X => ?_)
      refine lv_if_eq (tgt := 69) hx hb dX8_isUnder_51 (by decide) (fun c51 => ?_) (fun c51 => ?_)
      · have hf := g_t hf c51
        refine lv_iconst (v := 0) hx hb dX8_isUnder_69 (by decide) ?_
        exact g_zret (wsR E o ad) C hr hk rfl X hf dX8_isUnder_70
      · have hf := g_f hf c51
        exact j54 q48.2 x1 x2 ls H locs hf (lv_sub hl [0, 1, 2] rfl) X
  have j26 : ∀ (w : RS) (x1 : Int32) (x2 : Int32) (ls : Array Slot) (H : Heap) (locs : List Loc), fR_isUnder_26 w x1 x2 = some (r, w') → lv_has ls 3 [(0, .ref o), (1, .int x1), (2, .int x2)] → g_W E A s H locs (wsR E o ad w) → W p l e ({ frames := 1, cells := 0, slots := 0, locals := 24 }) s m ([.ref o, .int a1, .int a2] : List Value).toArray below meth c H locs 0 0 (MQ below (va_Qi (fun (r' : Int32) (u' : va_W) => r' = r ∧ u' = wsR E o ad w') (g_B E A) A) ([.ref o, .int a1, .int a2] : List Value).toArray s 0 0 A) (F0 m 26 ls []) := by
    intro w x1 x2 ls H locs hf hl X
    unfold fR_isUnder_26 at hf
    refine lv_iload_n hx hb dX8_isUnder_26 rfl (lv_at hl 1 rfl) ?_
    obtain ⟨q27, e27, hf⟩ := g_be hf
    refine g_calli X (g_runS (As := [.int x1]) (rest := []) C X (cR_isRowOf l E A o ad w q27.2 q27.1 x1 e27) kX8_isRowOf m_738 hl.1 rfl ⟨Nat.le_of_ble_eq_true rfl, Nat.le_of_ble_eq_true rfl⟩ rfl (Nat.le_of_ble_eq_true rfl) dX8_isUnder_27 ⟨Nat.le_of_ble_eq_true rfl, Nat.le_of_ble_eq_true rfl⟩) rfl rfl (fun H locs X => ?_)
    refine lv_if_eq (tgt := 40) hx hb dX8_isUnder_30 (by decide) (fun c30 => ?_) (fun c30 => ?_)
    · have hf := g_t hf c30
      exact j40 q27.2 x1 x2 ls H locs hf (lv_sub hl [0, 1, 2] rfl) X
    · have hf := g_f hf c30
      refine lv_iload_n hx hb dX8_isUnder_33 rfl (lv_at hl 2 rfl) ?_
      obtain ⟨q34, e34, hf⟩ := g_be hf
      refine g_calli X (g_runS (As := [.int x2]) (rest := []) C X (cR_isRowOf l E A o ad q27.2 q34.2 q34.1 x2 e34) kX8_isRowOf m_738 hl.1 rfl ⟨Nat.le_of_ble_eq_true rfl, Nat.le_of_ble_eq_true rfl⟩ rfl (Nat.le_of_ble_eq_true rfl) dX8_isUnder_34 ⟨Nat.le_of_ble_eq_true rfl, Nat.le_of_ble_eq_true rfl⟩) rfl rfl (fun H locs X => ?_)
      refine lv_if_ne (tgt := 54) hx hb dX8_isUnder_37 (by decide) (fun c37 => ?_) (fun c37 => ?_)
      · have hf := g_f hf c37
        exact j54 q34.2 x1 x2 ls H locs hf (lv_sub hl [0, 1, 2] rfl) X
      · have hf := g_t hf c37
        exact j40 q34.2 x1 x2 ls H locs hf (lv_sub hl [0, 1, 2] rfl) X
  unfold fR_isUnder at hf
  refine lv_iload_n hx hb dX8_isUnder_0 rfl (lv_at hl 1 rfl) ?_
  refine lv_iload_n hx hb dX8_isUnder_1 rfl (lv_at hl 2 rfl) ?_
  refine lv_icmp_ne (tgt := 7) hx hb dX8_isUnder_2 (by decide) (fun c2 => ?_) (fun c2 => ?_)
  · have hf := g_f hf c2
    refine lv_iload_n hx hb dX8_isUnder_7 rfl (lv_at hl 1 rfl) ?_
    refine lv_bipush (v := 12) hx hb dX8_isUnder_8 (by decide) ?_
    refine lv_icmp_gt (tgt := 26) hx hb dX8_isUnder_10 (by decide) (fun c10 => ?_) (fun c10 => ?_)
    · have hf := g_t hf c10
      exact j26 w a1 a2 ls H locs hf (lv_sub hl [0, 1, 2] rfl) X
    · have hf := g_f hf c10
      refine lv_iload_n hx hb dX8_isUnder_13 rfl (lv_at hl 2 rfl) ?_
      refine lv_bipush (v := 12) hx hb dX8_isUnder_14 (by decide) ?_
      refine lv_icmp_gt (tgt := 26) hx hb dX8_isUnder_16 (by decide) (fun c16 => ?_) (fun c16 => ?_)
      · have hf := g_t hf c16
        exact j26 w a1 a2 ls H locs hf (lv_sub hl [0, 1, 2] rfl) X
      · have hf := g_f hf c16
        refine lv_aload_n hx hb dX8_isUnder_19 rfl (lv_at hl 0 rfl) ?_
        refine lv_iload_n hx hb dX8_isUnder_20 rfl (lv_at hl 1 rfl) ?_
        refine lv_iload_n hx hb dX8_isUnder_21 rfl (lv_at hl 2 rfl) ?_
        obtain ⟨q22, e22, hf⟩ := g_be hf
        refine g_calli X (g_runV (As := [.int a1, .int a2]) (rest := []) C X (cR_isPartUnder l E A o ad w q22.2 q22.1 a1 a2 e22) kX8_isPartUnder m_734 0 6 rfl rfl hl.1 rfl ⟨Nat.le_of_ble_eq_true rfl, Nat.le_of_ble_eq_true rfl⟩ rfl (Nat.le_of_ble_eq_true rfl) dX8_isUnder_22 ⟨Nat.le_of_ble_eq_true rfl, Nat.le_of_ble_eq_true rfl⟩) rfl rfl (fun H locs X => ?_)
        obtain ⟨z25, hf⟩ := g_bz hf
        exact g_zret (wsR E o ad) C hr hk z25 X hf dX8_isUnder_25
  · have hf := g_t hf c2
    refine lv_iconst (v := 1) hx hb dX8_isUnder_5 (by decide) ?_
    exact g_zret (wsR E o ad) C hr hk rfl X hf dX8_isUnder_6
set_option maxRecDepth 100000 in
set_option maxHeartbeats 4000000 in
theorem cR_isPart (l : Launch) (E : g_Env) (A : Nat → Prop) (o : Nat) (ad : Nat → Nat) (w : RS) (w' : RS) (r : Int32) (a1 : Int32) (hf : fR_isPart w a1 = some (r, w')) : g_Mi l yX8_isPart cX8_isPart 2 ((some .boolean)) ({ frames := 2, cells := 0, slots := 0, locals := 46 }) E A [.ref o, .int a1] (wsR E o ad w) r (wsR E o ad w') := by
  refine g_start (by decide) (Nat.le_of_ble_eq_true rfl) ?_
  intro p e s m below meth c C hr hk hnm ls hl H locs X
  have hx := C.1.1
  have hb := C.1.2.1
  have hl : lv_has ls 2 [(0, .ref o), (1, .int a1)] := hl
  unfold fR_isPart at hf
  refine lv_aload_n hx hb dX8_isPart_0 rfl (lv_at hl 0 rfl) ?_
  refine lv_iload_n hx hb dX8_isPart_1 rfl (lv_at hl 1 rfl) ?_
  refine lv_iconst (v := 0) hx hb dX8_isPart_2 (by decide) ?_
  obtain ⟨q3, e3, hf⟩ := g_be hf
  refine g_calli X (g_runV (As := [.int a1, .int (0 : Int32)]) (rest := []) C X (cR_isUnder l E A o ad w q3.2 q3.1 a1 (0 : Int32) e3) kX8_isUnder m_730 0 6 rfl rfl hl.1 rfl ⟨Nat.le_of_ble_eq_true rfl, Nat.le_of_ble_eq_true rfl⟩ rfl (Nat.le_of_ble_eq_true rfl) dX8_isPart_3 ⟨Nat.le_of_ble_eq_true rfl, Nat.le_of_ble_eq_true rfl⟩) rfl rfl (fun H locs X => ?_)
  obtain ⟨z6, hf⟩ := g_bz hf
  exact g_zret (wsR E o ad) C hr hk z6 X hf dX8_isPart_6
set_option maxRecDepth 100000 in
set_option maxHeartbeats 4000000 in
theorem cR_isPlayed (l : Launch) (E : g_Env) (A : Nat → Prop) (o : Nat) (ad : Nat → Nat) (w : RS) (w' : RS) (r : Int32) (a1 : Int32) (hf : fR_isPlayed w a1 = some (r, w')) : g_Mi l yX8_isPlayed cX8_isPlayed 2 ((some .boolean)) ({ frames := 3, cells := 0, slots := 0, locals := 67 }) E A [.ref o, .int a1] (wsR E o ad w) r (wsR E o ad w') := by
  refine g_start (by decide) (Nat.le_of_ble_eq_true rfl) ?_
  intro p e s m below meth c C hr hk hnm ls hl H locs X
  have hx := C.1.1
  have hb := C.1.2.1
  have hl : lv_has ls 2 [(0, .ref o), (1, .int a1)] := hl
  unfold fR_isPlayed at hf
  refine lv_aload_n hx hb dX8_isPlayed_0 rfl (lv_at hl 0 rfl) ?_
  refine lv_iload_n hx hb dX8_isPlayed_1 rfl (lv_at hl 1 rfl) ?_
  obtain ⟨q2, e2, hf⟩ := g_be hf
  refine g_calli X (g_runV (As := [.int a1]) (rest := []) C X (cR_isPart l E A o ad w q2.2 q2.1 a1 e2) kX8_isPart m_726 0 6 rfl rfl hl.1 rfl ⟨Nat.le_of_ble_eq_true rfl, Nat.le_of_ble_eq_true rfl⟩ rfl (Nat.le_of_ble_eq_true rfl) dX8_isPlayed_2 ⟨Nat.le_of_ble_eq_true rfl, Nat.le_of_ble_eq_true rfl⟩) rfl rfl (fun H locs X => ?_)
  refine lv_if_ne (tgt := 28) hx hb dX8_isPlayed_5 (by decide) (fun c5 => ?_) (fun c5 => ?_)
  · have hf := g_f hf c5
    refine lv_iconst (v := 1) hx hb dX8_isPlayed_28 (by decide) ?_
    refine lv_goto (tgt := 33) hx hb dX8_isPlayed_29 (by decide) ?_
    exact g_zret (wsR E o ad) C hr hk rfl X hf dX8_isPlayed_33
  · have hf := g_t hf c5
    refine lv_aload_n hx hb dX8_isPlayed_8 rfl (lv_at hl 0 rfl) ?_
    refine lv_iload_n hx hb dX8_isPlayed_9 rfl (lv_at hl 1 rfl) ?_
    refine lv_bipush (v := 17) hx hb dX8_isPlayed_10 (by decide) ?_
    obtain ⟨q12, e12, hf⟩ := g_be hf
    refine g_calli X (g_runV (As := [.int a1, .int (17 : Int32)]) (rest := []) C X (cR_isUnder l E A o ad q2.2 q12.2 q12.1 a1 (17 : Int32) e12) kX8_isUnder m_730 0 6 rfl rfl hl.1 rfl ⟨Nat.le_of_ble_eq_true rfl, Nat.le_of_ble_eq_true rfl⟩ rfl (Nat.le_of_ble_eq_true rfl) dX8_isPlayed_12 ⟨Nat.le_of_ble_eq_true rfl, Nat.le_of_ble_eq_true rfl⟩) rfl rfl (fun H locs X => ?_)
    refine lv_if_ne (tgt := 28) hx hb dX8_isPlayed_15 (by decide) (fun c15 => ?_) (fun c15 => ?_)
    · have hf := g_f hf c15
      refine lv_iconst (v := 1) hx hb dX8_isPlayed_28 (by decide) ?_
      refine lv_goto (tgt := 33) hx hb dX8_isPlayed_29 (by decide) ?_
      exact g_zret (wsR E o ad) C hr hk rfl X hf dX8_isPlayed_33
    · have hf := g_t hf c15
      refine lv_aload_n hx hb dX8_isPlayed_18 rfl (lv_at hl 0 rfl) ?_
      refine lv_iload_n hx hb dX8_isPlayed_19 rfl (lv_at hl 1 rfl) ?_
      refine lv_bipush (v := 23) hx hb dX8_isPlayed_20 (by decide) ?_
      obtain ⟨q22, e22, hf⟩ := g_be hf
      refine g_calli X (g_runV (As := [.int a1, .int (23 : Int32)]) (rest := []) C X (cR_isUnder l E A o ad q12.2 q22.2 q22.1 a1 (23 : Int32) e22) kX8_isUnder m_730 0 6 rfl rfl hl.1 rfl ⟨Nat.le_of_ble_eq_true rfl, Nat.le_of_ble_eq_true rfl⟩ rfl (Nat.le_of_ble_eq_true rfl) dX8_isPlayed_22 ⟨Nat.le_of_ble_eq_true rfl, Nat.le_of_ble_eq_true rfl⟩) rfl rfl (fun H locs X => ?_)
      refine lv_if_eq (tgt := 32) hx hb dX8_isPlayed_25 (by decide) (fun c25 => ?_) (fun c25 => ?_)
      · have hf := g_t hf c25
        refine lv_iconst (v := 0) hx hb dX8_isPlayed_32 (by decide) ?_
        exact g_zret (wsR E o ad) C hr hk rfl X hf dX8_isPlayed_33
      · have hf := g_f hf c25
        refine lv_iconst (v := 1) hx hb dX8_isPlayed_28 (by decide) ?_
        refine lv_goto (tgt := 33) hx hb dX8_isPlayed_29 (by decide) ?_
        exact g_zret (wsR E o ad) C hr hk rfl X hf dX8_isPlayed_33
set_option maxRecDepth 100000 in
set_option maxHeartbeats 4000000 in
theorem cR_fits (l : Launch) (E : g_Env) (A : Nat → Prop) (o : Nat) (ad : Nat → Nat) (w : RS) (w' : RS) (r : Int32) (a1 : Int32) (a2 : Int64) (hf : fR_fits w a1 a2 = some (r, w')) : g_Mi l yX8_fits cX8_fits 5 ((some .boolean)) ({ frames := 2, cells := 0, slots := 0, locals := 46 }) E A [.ref o, .int a1, .long a2] (wsR E o ad w) r (wsR E o ad w') := by
  refine g_start (by decide) (Nat.le_of_ble_eq_true rfl) ?_
  intro p e s m below meth c C hr hk hnm ls hl H locs X
  have hx := C.1.1
  have hb := C.1.2.1
  have hl : lv_has ls 5 [(0, .ref o), (1, .int a1), (2, .long a2)] := hl
  unfold fR_fits at hf
  refine lv_lload_n hx hb dX8_fits_0 rfl (lv_at hl 2 rfl) ?_
  refine lv_lconst (v := 0) hx hb dX8_fits_1 (by decide) ?_
  refine W.lcmp hx hb dX8_fits_2 ?_
  refine lv_if_ne (tgt := 8) hx hb dX8_fits_3 (by decide) (fun c3 => ?_) (fun c3 => ?_)
  · have hf := g_f hf c3
    refine lv_aload_n hx hb dX8_fits_8 rfl (lv_at hl 0 rfl) ?_
    refine g_get C X g_iX8 0 rfl rfl 2 (by decide) rfl m_643 rfl dX8_fits_9 ?_
    refine lv_iconst (v := 0) hx hb dX8_fits_12 (by decide) ?_
    refine lv_lload_n hx hb dX8_fits_13 rfl (lv_at hl 2 rfl) ?_
    refine lv_l2i hx hb dX8_fits_14 rfl ?_
    refine lv_iadd hx hb dX8_fits_15 ?_
    refine lv_iconst (v := 1) hx hb dX8_fits_16 (by decide) ?_
    refine lv_isub hx hb dX8_fits_17 ?_
    obtain ⟨h18, hf⟩ := g_cke hf
    obtain ⟨v18, e18, hf⟩ := g_le hf
    refine g_iald C X 3 rfl h18 e18 dX8_fits_18 ?_
    refine lv_istore (lv' := [(4, .int v18), (0, .ref o), (1, .int a1), (2, .long a2)]) hx hb dX8_fits_19 hl (by decide) rfl (fun ls hl => ?_)
    refine lv_iload_n hx hb dX8_fits_21 rfl (lv_at hl 2 rfl) ?_
    refine lv_bipush (v := 16) hx hb dX8_fits_22 (by decide) ?_
    refine lv_icmp_ne (tgt := 40) hx hb dX8_fits_24 (by decide) (fun c24 => ?_) (fun c24 => ?_)
    · have hf := g_f hf c24
      refine lv_iload_n hx hb dX8_fits_40 rfl (lv_at hl 2 rfl) ?_
      obtain ⟨q41, e41, hf⟩ := g_be hf
      refine g_calli X (g_runS (As := [.int a1]) (rest := []) C X (cR_isRowOf l E A o ad w q41.2 q41.1 a1 e41) kX8_isRowOf m_738 hl.1 rfl ⟨Nat.le_of_ble_eq_true rfl, Nat.le_of_ble_eq_true rfl⟩ rfl (Nat.le_of_ble_eq_true rfl) dX8_fits_41 ⟨Nat.le_of_ble_eq_true rfl, Nat.le_of_ble_eq_true rfl⟩) rfl rfl (fun H locs X => ?_)
      refine lv_if_eq (tgt := 59) hx hb dX8_fits_44 (by decide) (fun c44 => ?_) (fun c44 => ?_)
      · have hf := g_t hf c44
        refine lv_aload_n hx hb dX8_fits_59 rfl (lv_at hl 1 rfl) ?_
        refine lv_iload hx hb dX8_fits_60 (lv_at hl 0 rfl) ?_
        refine lv_iload_n hx hb dX8_fits_62 rfl (lv_at hl 2 rfl) ?_
        refine lv_bipush (v := 23) hx hb dX8_fits_63 (by decide) ?_
        refine lv_icmp_ne (tgt := 73) hx hb dX8_fits_65 (by decide) (fun c65 => ?_) (fun c65 => ?_)
        · have hf := g_f hf c65
          refine lv_bipush (v := 19) hx hb dX8_fits_73 (by decide) ?_
          obtain ⟨q75, e75, hf⟩ := g_be hf
          refine g_calli X (g_runV (As := [.int v18, .int (19 : Int32)]) (rest := []) C X (cR_isUnder l E A o ad q41.2 q75.2 q75.1 v18 (19 : Int32) e75) kX8_isUnder m_730 0 6 rfl rfl hl.1 rfl ⟨Nat.le_of_ble_eq_true rfl, Nat.le_of_ble_eq_true rfl⟩ rfl (Nat.le_of_ble_eq_true rfl) dX8_fits_75 ⟨Nat.le_of_ble_eq_true rfl, Nat.le_of_ble_eq_true rfl⟩) rfl rfl (fun H locs X => ?_)
          obtain ⟨z78, hf⟩ := g_bz hf
          exact g_zret (wsR E o ad) C hr hk z78 X hf dX8_fits_78
        · have hf := g_t hf c65
          refine lv_bipush (v := 17) hx hb dX8_fits_68 (by decide) ?_
          refine lv_goto (tgt := 75) hx hb dX8_fits_70 (by decide) ?_
          obtain ⟨q75, e75, hf⟩ := g_be hf
          refine g_calli X (g_runV (As := [.int v18, .int (17 : Int32)]) (rest := []) C X (cR_isUnder l E A o ad q41.2 q75.2 q75.1 v18 (17 : Int32) e75) kX8_isUnder m_730 0 6 rfl rfl hl.1 rfl ⟨Nat.le_of_ble_eq_true rfl, Nat.le_of_ble_eq_true rfl⟩ rfl (Nat.le_of_ble_eq_true rfl) dX8_fits_75 ⟨Nat.le_of_ble_eq_true rfl, Nat.le_of_ble_eq_true rfl⟩) rfl rfl (fun H locs X => ?_)
          obtain ⟨z78, hf⟩ := g_bz hf
          exact g_zret (wsR E o ad) C hr hk z78 X hf dX8_fits_78
      · have hf := g_f hf c44
        refine lv_aload_n hx hb dX8_fits_47 rfl (lv_at hl 1 rfl) ?_
        refine lv_iload hx hb dX8_fits_48 (lv_at hl 0 rfl) ?_
        refine lv_aload_n hx hb dX8_fits_50 rfl (lv_at hl 1 rfl) ?_
        refine lv_iload_n hx hb dX8_fits_51 rfl (lv_at hl 2 rfl) ?_
        obtain ⟨q52, e52, hf⟩ := g_be hf
        refine g_calli X (g_runV (As := [.int a1]) (rest := [.int v18, .ref o]) C X (cR_memberOf l E A o ad q41.2 q52.2 q52.1 a1 e52) kX8_memberOf m_744 0 6 rfl rfl hl.1 rfl ⟨Nat.le_of_ble_eq_true rfl, Nat.le_of_ble_eq_true rfl⟩ rfl (Nat.le_of_ble_eq_true rfl) dX8_fits_52 ⟨Nat.le_of_ble_eq_true rfl, Nat.le_of_ble_eq_true rfl⟩) rfl rfl (fun H locs X => ?_)
        obtain ⟨q55, e55, hf⟩ := g_be hf
        refine g_calli X (g_runV (As := [.int v18, .int q52.1]) (rest := []) C X (cR_isUnder l E A o ad q52.2 q55.2 q55.1 v18 q52.1 e55) kX8_isUnder m_730 0 6 rfl rfl hl.1 rfl ⟨Nat.le_of_ble_eq_true rfl, Nat.le_of_ble_eq_true rfl⟩ rfl (Nat.le_of_ble_eq_true rfl) dX8_fits_55 ⟨Nat.le_of_ble_eq_true rfl, Nat.le_of_ble_eq_true rfl⟩) rfl rfl (fun H locs X => ?_)
        obtain ⟨z58, hf⟩ := g_bz hf
        exact g_zret (wsR E o ad) C hr hk z58 X hf dX8_fits_58
    · have hf := g_t hf c24
      refine lv_iload hx hb dX8_fits_27 (lv_at hl 0 rfl) ?_
      refine lv_bipush (v := 13) hx hb dX8_fits_29 (by decide) ?_
      refine lv_icmp_ne (tgt := 38) hx hb dX8_fits_31 (by decide) (fun c31 => ?_) (fun c31 => ?_)
      · have hf := g_f hf c31
        refine lv_iconst (v := 0) hx hb dX8_fits_38 (by decide) ?_
        exact g_zret (wsR E o ad) C hr hk rfl X hf dX8_fits_39
      · have hf := g_t hf c31
        refine lv_iconst (v := 1) hx hb dX8_fits_34 (by decide) ?_
        refine lv_goto (tgt := 39) hx hb dX8_fits_35 (by decide) ?_
        exact g_zret (wsR E o ad) C hr hk rfl X hf dX8_fits_39
  · have hf := g_t hf c3
    refine lv_iconst (v := 1) hx hb dX8_fits_6 (by decide) ?_
    exact g_zret (wsR E o ad) C hr hk rfl X hf dX8_fits_7
set_option maxRecDepth 100000 in
set_option maxHeartbeats 4000000 in
theorem cR_isShelf (l : Launch) (E : g_Env) (A : Nat → Prop) (o : Nat) (ad : Nat → Nat) (w : RS) (w' : RS) (r : Int32) (a0 : Int32) (hf : fR_isShelf w a0 = some (r, w')) : g_Mi l yX8_isShelf cX8_isShelf 1 ((some .boolean)) ({ frames := 0, cells := 0, slots := 0, locals := 0 }) E A [.int a0] (wsR E o ad w) r (wsR E o ad w') := by
  refine g_start (by decide) (Nat.le_of_ble_eq_true rfl) ?_
  intro p e s m below meth c C hr hk hnm ls hl H locs X
  have hx := C.1.1
  have hb := C.1.2.1
  have hl : lv_has ls 1 [(0, .int a0)] := hl
  unfold fR_isShelf at hf
  refine lv_iload_n hx hb dX8_isShelf_0 rfl (lv_at hl 0 rfl) ?_
  refine lv_if_lt (tgt := 14) hx hb dX8_isShelf_1 (by decide) (fun c1 => ?_) (fun c1 => ?_)
  · have hf := g_t hf c1
    refine lv_iconst (v := 0) hx hb dX8_isShelf_14 (by decide) ?_
    exact g_zret (wsR E o ad) C hr hk rfl X hf dX8_isShelf_15
  · have hf := g_f hf c1
    refine lv_iload_n hx hb dX8_isShelf_4 rfl (lv_at hl 0 rfl) ?_
    refine lv_bipush (v := 15) hx hb dX8_isShelf_5 (by decide) ?_
    refine lv_icmp_gt (tgt := 14) hx hb dX8_isShelf_7 (by decide) (fun c7 => ?_) (fun c7 => ?_)
    · have hf := g_t hf c7
      refine lv_iconst (v := 0) hx hb dX8_isShelf_14 (by decide) ?_
      exact g_zret (wsR E o ad) C hr hk rfl X hf dX8_isShelf_15
    · have hf := g_f hf c7
      refine lv_iconst (v := 1) hx hb dX8_isShelf_10 (by decide) ?_
      refine lv_goto (tgt := 15) hx hb dX8_isShelf_11 (by decide) ?_
      exact g_zret (wsR E o ad) C hr hk rfl X hf dX8_isShelf_15
set_option maxRecDepth 100000 in
set_option maxHeartbeats 4000000 in
theorem cR_on (l : Launch) (E : g_Env) (A : Nat → Prop) (o : Nat) (ad : Nat → Nat) (w : RS) (w' : RS) (r : Int32) (a1 : Int32) (hf : fR_on w a1 = some (r, w')) : g_Mi l yX8_on cX8_on 2 ((some .int)) ({ frames := 0, cells := 0, slots := 0, locals := 0 }) E A [.ref o, .int a1] (wsR E o ad w) r (wsR E o ad w') := by
  refine g_start (by decide) (Nat.le_of_ble_eq_true rfl) ?_
  intro p e s m below meth c C hr hk hnm ls hl H locs X
  have hx := C.1.1
  have hb := C.1.2.1
  have hl : lv_has ls 2 [(0, .ref o), (1, .int a1)] := hl
  unfold fR_on at hf
  refine lv_aload_n hx hb dX8_on_0 rfl (lv_at hl 0 rfl) ?_
  refine g_get C X g_iX8 0 rfl rfl 2 (by decide) rfl m_643 rfl dX8_on_1 ?_
  refine lv_sipush (v := 540) hx hb dX8_on_4 (by decide) ?_
  refine lv_iload_n hx hb dX8_on_7 rfl (lv_at hl 1 rfl) ?_
  refine lv_iadd hx hb dX8_on_8 ?_
  obtain ⟨h9, hf⟩ := g_cke hf
  obtain ⟨v9, e9, hf⟩ := g_le hf
  refine g_iald C X 3 rfl h9 e9 dX8_on_9 ?_
  refine lv_iconst (v := 1) hx hb dX8_on_10 (by decide) ?_
  refine lv_isub hx hb dX8_on_11 ?_
  exact g_iret (wsR E o ad) C hr hk X hf dX8_on_12
set_option maxRecDepth 100000 in
set_option maxHeartbeats 4000000 in
theorem cR_kindOf (l : Launch) (E : g_Env) (A : Nat → Prop) (o : Nat) (ad : Nat → Nat) (w : RS) (w' : RS) (r : Int32) (a1 : Int32) (hf : fR_kindOf w a1 = some (r, w')) : g_Mi l yX8_kindOf cX8_kindOf 2 ((some .int)) ({ frames := 0, cells := 0, slots := 0, locals := 0 }) E A [.ref o, .int a1] (wsR E o ad w) r (wsR E o ad w') := by
  refine g_start (by decide) (Nat.le_of_ble_eq_true rfl) ?_
  intro p e s m below meth c C hr hk hnm ls hl H locs X
  have hx := C.1.1
  have hb := C.1.2.1
  have hl : lv_has ls 2 [(0, .ref o), (1, .int a1)] := hl
  unfold fR_kindOf at hf
  refine lv_aload_n hx hb dX8_kindOf_0 rfl (lv_at hl 0 rfl) ?_
  refine g_get C X g_iX8 0 rfl rfl 2 (by decide) rfl m_643 rfl dX8_kindOf_1 ?_
  refine lv_iconst (v := 0) hx hb dX8_kindOf_4 (by decide) ?_
  refine lv_iload_n hx hb dX8_kindOf_5 rfl (lv_at hl 1 rfl) ?_
  refine lv_iadd hx hb dX8_kindOf_6 ?_
  obtain ⟨h7, hf⟩ := g_cke hf
  obtain ⟨v7, e7, hf⟩ := g_le hf
  refine g_iald C X 3 rfl h7 e7 dX8_kindOf_7 ?_
  exact g_iret (wsR E o ad) C hr hk X hf dX8_kindOf_8
set_option maxRecDepth 100000 in
set_option maxHeartbeats 4000000 in
theorem cR_lengthOf (l : Launch) (E : g_Env) (A : Nat → Prop) (o : Nat) (ad : Nat → Nat) (w : RS) (w' : RS) (r : Int32) (a1 : Int32) (hf : fR_lengthOf w a1 = some (r, w')) : g_Mi l yX8_lengthOf cX8_lengthOf 2 ((some .int)) ({ frames := 0, cells := 0, slots := 0, locals := 0 }) E A [.ref o, .int a1] (wsR E o ad w) r (wsR E o ad w') := by
  refine g_start (by decide) (Nat.le_of_ble_eq_true rfl) ?_
  intro p e s m below meth c C hr hk hnm ls hl H locs X
  have hx := C.1.1
  have hb := C.1.2.1
  have hl : lv_has ls 2 [(0, .ref o), (1, .int a1)] := hl
  unfold fR_lengthOf at hf
  refine lv_aload_n hx hb dX8_lengthOf_0 rfl (lv_at hl 0 rfl) ?_
  refine g_get C X g_iX8 0 rfl rfl 2 (by decide) rfl m_643 rfl dX8_lengthOf_1 ?_
  refine lv_bipush (v := 60) hx hb dX8_lengthOf_4 (by decide) ?_
  refine lv_iload_n hx hb dX8_lengthOf_6 rfl (lv_at hl 1 rfl) ?_
  refine lv_iadd hx hb dX8_lengthOf_7 ?_
  obtain ⟨h8, hf⟩ := g_cke hf
  obtain ⟨v8, e8, hf⟩ := g_le hf
  refine g_iald C X 3 rfl h8 e8 dX8_lengthOf_8 ?_
  exact g_iret (wsR E o ad) C hr hk X hf dX8_lengthOf_9
set_option maxRecDepth 100000 in
set_option maxHeartbeats 4000000 in
theorem cR_hasPlace (l : Launch) (E : g_Env) (A : Nat → Prop) (o : Nat) (ad : Nat → Nat) (w : RS) (w' : RS) (r : Int32) (a1 : Int32) (a2 : Int32) (hf : fR_hasPlace w a1 a2 = some (r, w')) : g_Mi l yX8_hasPlace cX8_hasPlace 3 ((some .boolean)) ({ frames := 1, cells := 0, slots := 0, locals := 21 }) E A [.ref o, .int a1, .int a2] (wsR E o ad w) r (wsR E o ad w') := by
  refine g_start (by decide) (Nat.le_of_ble_eq_true rfl) ?_
  intro p e s m below meth c C hr hk hnm ls hl H locs X
  have hx := C.1.1
  have hb := C.1.2.1
  have hl : lv_has ls 3 [(0, .ref o), (1, .int a1), (2, .int a2)] := hl
  unfold fR_hasPlace at hf
  refine lv_iload_n hx hb dX8_hasPlace_0 rfl (lv_at hl 2 rfl) ?_
  refine lv_if_lt (tgt := 17) hx hb dX8_hasPlace_1 (by decide) (fun c1 => ?_) (fun c1 => ?_)
  · have hf := g_t hf c1
    refine lv_iconst (v := 0) hx hb dX8_hasPlace_17 (by decide) ?_
    exact g_zret (wsR E o ad) C hr hk rfl X hf dX8_hasPlace_18
  · have hf := g_f hf c1
    refine lv_iload_n hx hb dX8_hasPlace_4 rfl (lv_at hl 2 rfl) ?_
    refine lv_aload_n hx hb dX8_hasPlace_5 rfl (lv_at hl 0 rfl) ?_
    refine lv_iload_n hx hb dX8_hasPlace_6 rfl (lv_at hl 1 rfl) ?_
    obtain ⟨q7, e7, hf⟩ := g_be hf
    refine g_calli X (g_runV (As := [.int a1]) (rest := [.int a2]) C X (cR_lengthOf l E A o ad w q7.2 q7.1 a1 e7) kX8_lengthOf m_775 0 6 rfl rfl hl.1 rfl ⟨Nat.le_of_ble_eq_true rfl, Nat.le_of_ble_eq_true rfl⟩ rfl (Nat.le_of_ble_eq_true rfl) dX8_hasPlace_7 ⟨Nat.le_of_ble_eq_true rfl, Nat.le_of_ble_eq_true rfl⟩) rfl rfl (fun H locs X => ?_)
    refine lv_icmp_ge (tgt := 17) hx hb dX8_hasPlace_10 (by decide) (fun c10 => ?_) (fun c10 => ?_)
    · have hf := g_t hf c10
      refine lv_iconst (v := 0) hx hb dX8_hasPlace_17 (by decide) ?_
      exact g_zret (wsR E o ad) C hr hk rfl X hf dX8_hasPlace_18
    · have hf := g_f hf c10
      refine lv_iconst (v := 1) hx hb dX8_hasPlace_13 (by decide) ?_
      refine lv_goto (tgt := 18) hx hb dX8_hasPlace_14 (by decide) ?_
      exact g_zret (wsR E o ad) C hr hk rfl X hf dX8_hasPlace_18
set_option maxRecDepth 100000 in
set_option maxHeartbeats 4000000 in
theorem cR_refuse (l : Launch) (E : g_Env) (A : Nat → Prop) (o : Nat) (ad : Nat → Nat) (w : RS) (w' : RS) (r : Int32) (a1 : Int32) (hf : fR_refuse w a1 = some (r, w')) : g_Mi l yX8_refuse cX8_refuse 2 ((some .int)) ({ frames := 0, cells := 0, slots := 0, locals := 0 }) E A [.ref o, .int a1] (wsR E o ad w) r (wsR E o ad w') := by
  refine g_start (by decide) (Nat.le_of_ble_eq_true rfl) ?_
  intro p e s m below meth c C hr hk hnm ls hl H locs X
  have hx := C.1.1
  have hb := C.1.2.1
  have hl : lv_has ls 2 [(0, .ref o), (1, .int a1)] := hl
  unfold fR_refuse at hf
  refine lv_aload_n hx hb dX8_refuse_0 rfl (lv_at hl 0 rfl) ?_
  refine lv_iload_n hx hb dX8_refuse_1 rfl (lv_at hl 1 rfl) ?_
  obtain ⟨w2, e2, hf⟩ := g_le hf
  refine g_put C X g_iX8 tyX8_ok nmX8 0 rfl rfl 15 (by decide) rfl m_656 rfl rfl rfl (Nat.le_of_ble_eq_true rfl) dX8_refuse_2 (ws2 := wsR E o ad w2) (by subst e2; rfl) (fun H locs X => ?_)
  refine lv_iconst (v := 0) hx hb dX8_refuse_5 (by decide) ?_
  exact g_iret (wsR E o ad) C hr hk X hf dX8_refuse_6
set_option maxRecDepth 100000 in
set_option maxHeartbeats 4000000 in
theorem cR_sizeOf (l : Launch) (E : g_Env) (A : Nat → Prop) (o : Nat) (ad : Nat → Nat) (w : RS) (w' : RS) (r : Int32) (a0 : Int32) (hf : fR_sizeOf w a0 = some (r, w')) : g_Mi l yX8_sizeOf cX8_sizeOf 1 ((some .int)) ({ frames := 0, cells := 0, slots := 0, locals := 0 }) E A [.int a0] (wsR E o ad w) r (wsR E o ad w') := by
  refine g_start (by decide) (Nat.le_of_ble_eq_true rfl) ?_
  intro p e s m below meth c C hr hk hnm ls hl H locs X
  have hx := C.1.1
  have hb := C.1.2.1
  have hl : lv_has ls 1 [(0, .int a0)] := hl
  unfold fR_sizeOf at hf
  refine lv_iload_n hx hb dX8_sizeOf_0 rfl (lv_at hl 0 rfl) ?_
  refine lv_if_ge (tgt := 9) hx hb dX8_sizeOf_1 (by decide) (fun c1 => ?_) (fun c1 => ?_)
  · have hf := g_t hf c1
    refine lv_iload_n hx hb dX8_sizeOf_9 rfl (lv_at hl 0 rfl) ?_
    exact g_iret (wsR E o ad) C hr hk X hf dX8_sizeOf_10
  · have hf := g_f hf c1
    refine lv_iload_n hx hb dX8_sizeOf_4 rfl (lv_at hl 0 rfl) ?_
    refine lv_ineg hx hb dX8_sizeOf_5 ?_
    refine lv_goto (tgt := 10) hx hb dX8_sizeOf_6 (by decide) ?_
    exact g_iret (wsR E o ad) C hr hk X hf dX8_sizeOf_10
set_option maxRecDepth 100000 in
set_option maxHeartbeats 4000000 in
theorem cR_clipped (l : Launch) (E : g_Env) (A : Nat → Prop) (o : Nat) (ad : Nat → Nat) (w : RS) (w' : RS) (r : Int32) (a1 : Int32) (a2 : Int32) (hf : fR_clipped w a1 a2 = some (r, w')) : g_Mi l yX8_clipped cX8_clipped 4 ((some .int)) ({ frames := 1, cells := 0, slots := 0, locals := 20 }) E A [.ref o, .int a1, .int a2] (wsR E o ad w) r (wsR E o ad w') := by
  refine g_start (by decide) (Nat.le_of_ble_eq_true rfl) ?_
  intro p e s m below meth c C hr hk hnm ls hl H locs X
  have hx := C.1.1
  have hb := C.1.2.1
  have hl : lv_has ls 4 [(0, .ref o), (1, .int a1), (2, .int a2)] := hl
  unfold fR_clipped at hf
  refine lv_aload_n hx hb dX8_clipped_0 rfl (lv_at hl 0 rfl) ?_
  refine g_get C X g_iX8 0 rfl rfl 2 (by decide) rfl m_643 rfl dX8_clipped_1 ?_
  refine lv_bipush (v := 120) hx hb dX8_clipped_4 (by decide) ?_
  refine lv_iload_n hx hb dX8_clipped_6 rfl (lv_at hl 1 rfl) ?_
  refine lv_iadd hx hb dX8_clipped_7 ?_
  obtain ⟨h8, hf⟩ := g_cke hf
  obtain ⟨v8, e8, hf⟩ := g_le hf
  refine g_iald C X 3 rfl h8 e8 dX8_clipped_8 ?_
  obtain ⟨q9, e9, hf⟩ := g_be hf
  refine g_calli X (g_runS (As := [.int v8]) (rest := []) C X (cR_sizeOf l E A o ad w q9.2 q9.1 v8 e9) kX8_sizeOf m_834 hl.1 rfl ⟨Nat.le_of_ble_eq_true rfl, Nat.le_of_ble_eq_true rfl⟩ rfl (Nat.le_of_ble_eq_true rfl) dX8_clipped_9 ⟨Nat.le_of_ble_eq_true rfl, Nat.le_of_ble_eq_true rfl⟩) rfl rfl (fun H locs X => ?_)
  refine lv_istore_n (lv' := [(3, .int q9.1), (0, .ref o), (1, .int a1), (2, .int a2)]) hx hb dX8_clipped_12 rfl hl (by decide) rfl (fun ls hl => ?_)
  refine lv_iload_n hx hb dX8_clipped_13 rfl (lv_at hl 3 rfl) ?_
  refine lv_iload_n hx hb dX8_clipped_14 rfl (lv_at hl 0 rfl) ?_
  refine lv_icmp_le (tgt := 22) hx hb dX8_clipped_15 (by decide) (fun c15 => ?_) (fun c15 => ?_)
  · have hf := g_t hf c15
    refine lv_iload_n hx hb dX8_clipped_22 rfl (lv_at hl 3 rfl) ?_
    refine lv_iload_n hx hb dX8_clipped_23 rfl (lv_at hl 0 rfl) ?_
    refine lv_ineg hx hb dX8_clipped_24 ?_
    refine lv_icmp_ge (tgt := 33) hx hb dX8_clipped_25 (by decide) (fun c25 => ?_) (fun c25 => ?_)
    · have hf := g_t hf c25
      refine lv_iload_n hx hb dX8_clipped_33 rfl (lv_at hl 3 rfl) ?_
      exact g_iret (wsR E o ad) C hr hk X hf dX8_clipped_34
    · have hf := g_f hf c25
      refine lv_iload_n hx hb dX8_clipped_28 rfl (lv_at hl 0 rfl) ?_
      refine lv_ineg hx hb dX8_clipped_29 ?_
      refine lv_goto (tgt := 34) hx hb dX8_clipped_30 (by decide) ?_
      exact g_iret (wsR E o ad) C hr hk X hf dX8_clipped_34
  · have hf := g_f hf c15
    refine lv_iload_n hx hb dX8_clipped_18 rfl (lv_at hl 0 rfl) ?_
    refine lv_goto (tgt := 34) hx hb dX8_clipped_19 (by decide) ?_
    exact g_iret (wsR E o ad) C hr hk X hf dX8_clipped_34
set_option maxRecDepth 100000 in
set_option maxHeartbeats 4000000 in
theorem cR_turn (l : Launch) (E : g_Env) (A : Nat → Prop) (o : Nat) (ad : Nat → Nat) (w : RS) (w' : RS) (r : Int32) (a1 : Int32) (a2 : Int32) (hf : fR_turn w a1 a2 = some (r, w')) : g_Mi l yX8_turn cX8_turn 5 ((some .int)) ({ frames := 2, cells := 0, slots := 0, locals := 43 }) E A [.ref o, .int a1, .int a2] (wsR E o ad w) r (wsR E o ad w') := by
  refine g_start (by decide) (Nat.le_of_ble_eq_true rfl) ?_
  intro p e s m below meth c C hr hk hnm ls hl H locs X
  have hx := C.1.1
  have hb := C.1.2.1
  have hl : lv_has ls 5 [(0, .ref o), (1, .int a1), (2, .int a2)] := hl
  have j96 : ∀ (w : RS) (x1 : Int32) (x2 : Int32) (x3 : Int32) (ls : Array Slot) (H : Heap) (locs : List Loc), fR_turn_96 w x1 x2 x3 = some (r, w') → lv_has ls 5 [(0, .ref o), (1, .int x1), (2, .int x2), (3, .int x3)] → g_W E A s H locs (wsR E o ad w) → W p l e ({ frames := 2, cells := 0, slots := 0, locals := 43 }) s m ([.ref o, .int a1, .int a2] : List Value).toArray below meth c H locs 0 0 (MQ below (va_Qi (fun (r' : Int32) (u' : va_W) => r' = r ∧ u' = wsR E o ad w') (g_B E A) A) ([.ref o, .int a1, .int a2] : List Value).toArray s 0 0 A) (F0 m 96 ls []) := by
    intro w x1 x2 x3 ls H locs hf hl X
    unfold fR_turn_96 at hf
    refine lv_iload_n hx hb dX8_turn_96 rfl (lv_at hl 2 rfl) ?_
    refine lv_aload_n hx hb dX8_turn_97 rfl (lv_at hl 0 rfl) ?_
    refine g_get C X g_iX8 0 rfl rfl 2 (by decide) rfl m_643 rfl dX8_turn_98 ?_
    refine lv_sipush (v := 300) hx hb dX8_turn_101 (by decide) ?_
    refine lv_iload_n hx hb dX8_turn_104 rfl (lv_at hl 1 rfl) ?_
    refine lv_iadd hx hb dX8_turn_105 ?_
    obtain ⟨h106, hf⟩ := g_cke hf
    obtain ⟨v106, e106, hf⟩ := g_le hf
    refine g_iald C X 3 rfl h106 e106 dX8_turn_106 ?_
    refine lv_aload_n hx hb dX8_turn_107 rfl (lv_at hl 0 rfl) ?_
    refine g_get C X g_iX8 0 rfl rfl 2 (by decide) rfl m_643 rfl dX8_turn_108 ?_
    refine lv_bipush (v := 120) hx hb dX8_turn_111 (by decide) ?_
    refine lv_iload_n hx hb dX8_turn_113 rfl (lv_at hl 1 rfl) ?_
    refine lv_iadd hx hb dX8_turn_114 ?_
    obtain ⟨h115, hf⟩ := g_cke hf
    obtain ⟨v115, e115, hf⟩ := g_le hf
    refine g_iald C X 3 rfl h115 e115 dX8_turn_115 ?_
    refine lv_imul hx hb dX8_turn_116 ?_
    refine lv_iconst (v := 4) hx hb dX8_turn_117 (by decide) ?_
    refine lv_ishr hx hb dX8_turn_118 ?_
    refine lv_iadd hx hb dX8_turn_119 ?_
    refine lv_istore (lv' := [(4, .int (x2 + ((v106 * v115) >>> ((4 : Int32) &&& 31)))), (0, .ref o), (1, .int x1), (2, .int x2), (3, .int x3)]) hx hb dX8_turn_120 hl (by decide) rfl (fun ls hl => ?_)
    refine lv_aload_n hx hb dX8_turn_122 rfl (lv_at hl 1 rfl) ?_
    refine g_get C X g_iX8 0 rfl rfl 2 (by decide) rfl m_643 rfl dX8_turn_123 ?_
    refine lv_sipush (v := 300) hx hb dX8_turn_126 (by decide) ?_
    refine lv_iload_n hx hb dX8_turn_129 rfl (lv_at hl 2 rfl) ?_
    refine lv_iadd hx hb dX8_turn_130 ?_
    refine lv_iload_n hx hb dX8_turn_131 rfl (lv_at hl 3 rfl) ?_
    obtain ⟨h132, hf⟩ := g_cke hf
    obtain ⟨w132, e132, hf⟩ := g_le hf
    refine g_iast C X 3 rfl h132 dX8_turn_132 (ws2 := wsR E o ad w132) (by subst e132; rfl) (fun H locs X => ?_)
    refine lv_iload_n hx hb dX8_turn_133 rfl (lv_at hl 4 rfl) ?_
    refine lv_bipush (v := 8) hx hb dX8_turn_134 (by decide) ?_
    refine lv_icmp_ne (tgt := 196) hx hb dX8_turn_136 (by decide) (fun c136 => ?_) (fun c136 => ?_)
    · have hf := g_f hf c136
      refine lv_iload hx hb dX8_turn_196 (lv_at hl 0 rfl) ?_
      exact g_iret (wsR E o ad) C hr hk X hf dX8_turn_198
    · have hf := g_t hf c136
      refine lv_aload_n hx hb dX8_turn_139 rfl (lv_at hl 1 rfl) ?_
      refine g_get C X g_iX8 0 rfl rfl 2 (by decide) rfl m_643 rfl dX8_turn_140 ?_
      refine lv_sipush (v := 300) hx hb dX8_turn_143 (by decide) ?_
      refine lv_iload_n hx hb dX8_turn_146 rfl (lv_at hl 2 rfl) ?_
      refine lv_iadd hx hb dX8_turn_147 ?_
      refine lv_dup2_11 hx hb dX8_turn_148 rfl rfl ?_
      obtain ⟨h149, hf⟩ := g_cke hf
      obtain ⟨v149, e149, hf⟩ := g_le hf
      refine g_iald C X 3 rfl h149 e149 dX8_turn_149 ?_
      refine lv_iload hx hb dX8_turn_150 (lv_at hl 0 rfl) ?_
      refine lv_iconst (v := 3) hx hb dX8_turn_152 (by decide) ?_
      refine lv_ishr hx hb dX8_turn_153 ?_
      refine lv_iadd hx hb dX8_turn_154 ?_
      obtain ⟨h155, hf⟩ := g_cke hf
      obtain ⟨w155, e155, hf⟩ := g_le hf
      refine g_iast C X 3 rfl h155 dX8_turn_155 (ws2 := wsR E o ad w155) (by subst e155; rfl) (fun H locs X => ?_)
      refine lv_aload_n hx hb dX8_turn_156 rfl (lv_at hl 1 rfl) ?_
      refine g_get C X g_iX8 0 rfl rfl 2 (by decide) rfl m_643 rfl dX8_turn_157 ?_
      refine lv_sipush (v := 420) hx hb dX8_turn_160 (by decide) ?_
      refine lv_iload_n hx hb dX8_turn_163 rfl (lv_at hl 2 rfl) ?_
      refine lv_iadd hx hb dX8_turn_164 ?_
      refine lv_iload hx hb dX8_turn_165 (lv_at hl 0 rfl) ?_
      refine lv_aload_n hx hb dX8_turn_167 rfl (lv_at hl 1 rfl) ?_
      refine g_get C X g_iX8 0 rfl rfl 2 (by decide) rfl m_643 rfl dX8_turn_168 ?_
      refine lv_sipush (v := 420) hx hb dX8_turn_171 (by decide) ?_
      refine lv_iload_n hx hb dX8_turn_174 rfl (lv_at hl 2 rfl) ?_
      refine lv_iadd hx hb dX8_turn_175 ?_
      obtain ⟨h176, hf⟩ := g_cke hf
      obtain ⟨v176, e176, hf⟩ := g_le hf
      refine g_iald C X 3 rfl h176 e176 dX8_turn_176 ?_
      refine lv_icmp_le (tgt := 185) hx hb dX8_turn_177 (by decide) (fun c177 => ?_) (fun c177 => ?_)
      · have hf := g_t hf c177
        refine lv_aload_n hx hb dX8_turn_185 rfl (lv_at hl 1 rfl) ?_
        refine g_get C X g_iX8 0 rfl rfl 2 (by decide) rfl m_643 rfl dX8_turn_186 ?_
        refine lv_sipush (v := 420) hx hb dX8_turn_189 (by decide) ?_
        refine lv_iload_n hx hb dX8_turn_192 rfl (lv_at hl 2 rfl) ?_
        refine lv_iadd hx hb dX8_turn_193 ?_
        obtain ⟨h194, hf⟩ := g_cke hf
        obtain ⟨v194, e194, hf⟩ := g_le hf
        refine g_iald C X 3 rfl h194 e194 dX8_turn_194 ?_
        obtain ⟨h195, hf⟩ := g_cke hf
        obtain ⟨w195, e195, hf⟩ := g_le hf
        refine g_iast C X 3 rfl h195 dX8_turn_195 (ws2 := wsR E o ad w195) (by subst e195; rfl) (fun H locs X => ?_)
        refine lv_iload hx hb dX8_turn_196 (lv_at hl 0 rfl) ?_
        exact g_iret (wsR E o ad) C hr hk X hf dX8_turn_198
      · have hf := g_f hf c177
        refine lv_iload hx hb dX8_turn_180 (lv_at hl 0 rfl) ?_
        refine lv_goto (tgt := 195) hx hb dX8_turn_182 (by decide) ?_
        obtain ⟨h195, hf⟩ := g_cke hf
        obtain ⟨w195, e195, hf⟩ := g_le hf
        refine g_iast C X 3 rfl h195 dX8_turn_195 (ws2 := wsR E o ad w195) (by subst e195; rfl) (fun H locs X => ?_)
        refine lv_iload hx hb dX8_turn_196 (lv_at hl 0 rfl) ?_
        exact g_iret (wsR E o ad) C hr hk X hf dX8_turn_198
  have j211 : ∀ (w : RS) (x1 : Int32) (x2 : Int32) (ls : Array Slot) (H : Heap) (locs : List Loc), fR_turn_211 w x1 x2 = some (r, w') → lv_has ls 5 [(0, .ref o), (1, .int x1), (2, .int x2)] → g_W E A s H locs (wsR E o ad w) → W p l e ({ frames := 2, cells := 0, slots := 0, locals := 43 }) s m ([.ref o, .int a1, .int a2] : List Value).toArray below meth c H locs 0 0 (MQ below (va_Qi (fun (r' : Int32) (u' : va_W) => r' = r ∧ u' = wsR E o ad w') (g_B E A) A) ([.ref o, .int a1, .int a2] : List Value).toArray s 0 0 A) (F0 m 211 ls []) := by
    intro w x1 x2 ls H locs hf hl X
    unfold fR_turn_211 at hf
    refine lv_aload_n hx hb dX8_turn_211 rfl (lv_at hl 0 rfl) ?_
    refine g_get C X g_iX8 0 rfl rfl 2 (by decide) rfl m_643 rfl dX8_turn_212 ?_
    refine lv_sipush (v := 360) hx hb dX8_turn_215 (by decide) ?_
    refine lv_iload_n hx hb dX8_turn_218 rfl (lv_at hl 1 rfl) ?_
    refine lv_iadd hx hb dX8_turn_219 ?_
    refine lv_dup2_11 hx hb dX8_turn_220 rfl rfl ?_
    obtain ⟨h221, hf⟩ := g_cke hf
    obtain ⟨v221, e221, hf⟩ := g_le hf
    refine g_iald C X 3 rfl h221 e221 dX8_turn_221 ?_
    refine lv_iconst (v := 1) hx hb dX8_turn_222 (by decide) ?_
    refine lv_iadd hx hb dX8_turn_223 ?_
    obtain ⟨h224, hf⟩ := g_cke hf
    obtain ⟨w224, e224, hf⟩ := g_le hf
    refine g_iast C X 3 rfl h224 dX8_turn_224 (ws2 := wsR E o ad w224) (by subst e224; rfl) (fun H locs X => ?_)
    refine lv_iload_n hx hb dX8_turn_225 rfl (lv_at hl 2 rfl) ?_
    refine lv_aload_n hx hb dX8_turn_226 rfl (lv_at hl 0 rfl) ?_
    refine g_get C X g_iX8 0 rfl rfl 2 (by decide) rfl m_643 rfl dX8_turn_227 ?_
    refine lv_sipush (v := 360) hx hb dX8_turn_230 (by decide) ?_
    refine lv_iload_n hx hb dX8_turn_233 rfl (lv_at hl 1 rfl) ?_
    refine lv_iadd hx hb dX8_turn_234 ?_
    obtain ⟨h235, hf⟩ := g_cke hf
    obtain ⟨v235, e235, hf⟩ := g_le hf
    refine g_iald C X 3 rfl h235 e235 dX8_turn_235 ?_
    refine lv_iadd hx hb dX8_turn_236 ?_
    exact g_iret (wsR E o ad) C hr hk X hf dX8_turn_237
  have j72 : ∀ (w : RS) (x2 : Int32) (x4 : Int32) (t3 : Int32) (t2 : Int32) (t1 : Int32) (ls : Array Slot) (H : Heap) (locs : List Loc), fR_turn_72 w x2 x4 t3 t2 t1 = some (r, w') → lv_has ls 5 [(2, .int x2), (4, .int x4)] → g_W E A s H locs (wsR E o ad w) → W p l e ({ frames := 2, cells := 0, slots := 0, locals := 43 }) s m ([.ref o, .int a1, .int a2] : List Value).toArray below meth c H locs 0 0 (MQ below (va_Qi (fun (r' : Int32) (u' : va_W) => r' = r ∧ u' = wsR E o ad w') (g_B E A) A) ([.ref o, .int a1, .int a2] : List Value).toArray s 0 0 A) (F0 m 72 ls [.int t3, .int t2, .int t1, .ref (ad 2)]) := by
    intro w x2 x4 t3 t2 t1 ls H locs hf hl X
    unfold fR_turn_72 at hf
    refine lv_iadd hx hb dX8_turn_72 ?_
    obtain ⟨h73, hf⟩ := g_cke hf
    obtain ⟨w73, e73, hf⟩ := g_le hf
    refine g_iast C X 3 rfl h73 dX8_turn_73 (ws2 := wsR E o ad w73) (by subst e73; rfl) (fun H locs X => ?_)
    refine lv_iload hx hb dX8_turn_74 (lv_at hl 1 rfl) ?_
    refine lv_iload_n hx hb dX8_turn_76 rfl (lv_at hl 0 rfl) ?_
    refine lv_iload hx hb dX8_turn_77 (lv_at hl 1 rfl) ?_
    refine lv_isub hx hb dX8_turn_79 ?_
    refine lv_iconst (v := 2) hx hb dX8_turn_80 (by decide) ?_
    refine lv_ishr hx hb dX8_turn_81 ?_
    refine lv_iadd hx hb dX8_turn_82 ?_
    exact g_iret (wsR E o ad) C hr hk X hf dX8_turn_83
  unfold fR_turn at hf
  refine lv_aload_n hx hb dX8_turn_0 rfl (lv_at hl 0 rfl) ?_
  refine lv_iload_n hx hb dX8_turn_1 rfl (lv_at hl 1 rfl) ?_
  obtain ⟨q2, e2, hf⟩ := g_be hf
  refine g_calli X (g_runV (As := [.int a1]) (rest := []) C X (cR_kindOf l E A o ad w q2.2 q2.1 a1 e2) kX8_kindOf m_764 0 6 rfl rfl hl.1 rfl ⟨Nat.le_of_ble_eq_true rfl, Nat.le_of_ble_eq_true rfl⟩ rfl (Nat.le_of_ble_eq_true rfl) dX8_turn_2 ⟨Nat.le_of_ble_eq_true rfl, Nat.le_of_ble_eq_true rfl⟩) rfl rfl (fun H locs X => ?_)
  refine lv_istore_n (lv' := [(3, .int q2.1), (0, .ref o), (1, .int a1), (2, .int a2)]) hx hb dX8_turn_5 rfl hl (by decide) rfl (fun ls hl => ?_)
  refine lv_aload_n hx hb dX8_turn_6 rfl (lv_at hl 1 rfl) ?_
  refine g_get C X g_iX8 0 rfl rfl 2 (by decide) rfl m_643 rfl dX8_turn_7 ?_
  refine lv_sipush (v := 180) hx hb dX8_turn_10 (by decide) ?_
  refine lv_iload_n hx hb dX8_turn_13 rfl (lv_at hl 2 rfl) ?_
  refine lv_iadd hx hb dX8_turn_14 ?_
  refine lv_dup2_11 hx hb dX8_turn_15 rfl rfl ?_
  obtain ⟨h16, hf⟩ := g_cke hf
  obtain ⟨v16, e16, hf⟩ := g_le hf
  refine g_iald C X 3 rfl h16 e16 dX8_turn_16 ?_
  refine lv_iconst (v := 1) hx hb dX8_turn_17 (by decide) ?_
  refine lv_iadd hx hb dX8_turn_18 ?_
  obtain ⟨h19, hf⟩ := g_cke hf
  obtain ⟨w19, e19, hf⟩ := g_le hf
  refine g_iast C X 3 rfl h19 dX8_turn_19 (ws2 := wsR E o ad w19) (by subst e19; rfl) (fun H locs X => ?_)
  refine lv_iload_n hx hb dX8_turn_20 rfl (lv_at hl 0 rfl) ?_
  refine lv_iconst (v := 2) hx hb dX8_turn_21 (by decide) ?_
  refine lv_icmp_eq (tgt := 30) hx hb dX8_turn_22 (by decide) (fun c22 => ?_) (fun c22 => ?_)
  · have hf := g_t hf c22
    refine lv_aload_n hx hb dX8_turn_30 rfl (lv_at hl 1 rfl) ?_
    refine lv_iload_n hx hb dX8_turn_31 rfl (lv_at hl 2 rfl) ?_
    refine lv_iload_n hx hb dX8_turn_32 rfl (lv_at hl 3 rfl) ?_
    obtain ⟨q33, e33, hf⟩ := g_be hf
    refine g_calli X (g_runV (As := [.int a1, .int a2]) (rest := []) C X (cR_clipped l E A o ad w19 q33.2 q33.1 a1 a2 e33) kX8_clipped m_830 0 6 rfl rfl hl.1 rfl ⟨Nat.le_of_ble_eq_true rfl, Nat.le_of_ble_eq_true rfl⟩ rfl (Nat.le_of_ble_eq_true rfl) dX8_turn_33 ⟨Nat.le_of_ble_eq_true rfl, Nat.le_of_ble_eq_true rfl⟩) rfl rfl (fun H locs X => ?_)
    exact g_iret (wsR E o ad) C hr hk X hf dX8_turn_36
  · have hf := g_f hf c22
    refine lv_iload_n hx hb dX8_turn_25 rfl (lv_at hl 0 rfl) ?_
    refine lv_iconst (v := 3) hx hb dX8_turn_26 (by decide) ?_
    refine lv_icmp_ne (tgt := 37) hx hb dX8_turn_27 (by decide) (fun c27 => ?_) (fun c27 => ?_)
    · have hf := g_f hf c27
      refine lv_iload_n hx hb dX8_turn_37 rfl (lv_at hl 0 rfl) ?_
      refine lv_iconst (v := 4) hx hb dX8_turn_38 (by decide) ?_
      refine lv_icmp_ne (tgt := 84) hx hb dX8_turn_39 (by decide) (fun c39 => ?_) (fun c39 => ?_)
      · have hf := g_f hf c39
        refine lv_iload_n hx hb dX8_turn_84 rfl (lv_at hl 0 rfl) ?_
        refine lv_bipush (v := 7) hx hb dX8_turn_85 (by decide) ?_
        refine lv_icmp_eq (tgt := 96) hx hb dX8_turn_87 (by decide) (fun c87 => ?_) (fun c87 => ?_)
        · have hf := g_t hf c87
          exact j96 w19 a1 a2 q2.1 ls H locs hf (lv_sub hl [1, 2, 3, 0] rfl) X
        · have hf := g_f hf c87
          refine lv_iload_n hx hb dX8_turn_90 rfl (lv_at hl 0 rfl) ?_
          refine lv_bipush (v := 8) hx hb dX8_turn_91 (by decide) ?_
          refine lv_icmp_ne (tgt := 199) hx hb dX8_turn_93 (by decide) (fun c93 => ?_) (fun c93 => ?_)
          · have hf := g_f hf c93
            refine lv_iload_n hx hb dX8_turn_199 rfl (lv_at hl 0 rfl) ?_
            refine lv_bipush (v := 9) hx hb dX8_turn_200 (by decide) ?_
            refine lv_icmp_eq (tgt := 211) hx hb dX8_turn_202 (by decide) (fun c202 => ?_) (fun c202 => ?_)
            · have hf := g_t hf c202
              exact j211 w19 a1 a2 ls H locs hf (lv_sub hl [1, 2, 3] rfl) X
            · have hf := g_f hf c202
              refine lv_iload_n hx hb dX8_turn_205 rfl (lv_at hl 0 rfl) ?_
              refine lv_bipush (v := 10) hx hb dX8_turn_206 (by decide) ?_
              refine lv_icmp_ne (tgt := 238) hx hb dX8_turn_208 (by decide) (fun c208 => ?_) (fun c208 => ?_)
              · have hf := g_f hf c208
                refine lv_iload_n hx hb dX8_turn_238 rfl (lv_at hl 3 rfl) ?_
                exact g_iret (wsR E o ad) C hr hk X hf dX8_turn_239
              · have hf := g_t hf c208
                exact j211 w19 a1 a2 ls H locs hf (lv_sub hl [1, 2, 3] rfl) X
          · have hf := g_t hf c93
            exact j96 w19 a1 a2 q2.1 ls H locs hf (lv_sub hl [1, 2, 3, 0] rfl) X
      · have hf := g_t hf c39
        refine lv_aload_n hx hb dX8_turn_42 rfl (lv_at hl 1 rfl) ?_
        refine lv_iload_n hx hb dX8_turn_43 rfl (lv_at hl 2 rfl) ?_
        refine lv_iload_n hx hb dX8_turn_44 rfl (lv_at hl 3 rfl) ?_
        obtain ⟨q45, e45, hf⟩ := g_be hf
        refine g_calli X (g_runV (As := [.int a1, .int a2]) (rest := []) C X (cR_clipped l E A o ad w19 q45.2 q45.1 a1 a2 e45) kX8_clipped m_830 0 6 rfl rfl hl.1 rfl ⟨Nat.le_of_ble_eq_true rfl, Nat.le_of_ble_eq_true rfl⟩ rfl (Nat.le_of_ble_eq_true rfl) dX8_turn_45 ⟨Nat.le_of_ble_eq_true rfl, Nat.le_of_ble_eq_true rfl⟩) rfl rfl (fun H locs X => ?_)
        refine lv_istore (lv' := [(4, .int q45.1), (3, .int q2.1), (0, .ref o), (1, .int a1), (2, .int a2)]) hx hb dX8_turn_48 hl (by decide) rfl (fun ls hl => ?_)
        refine lv_aload_n hx hb dX8_turn_50 rfl (lv_at hl 2 rfl) ?_
        refine g_get C X g_iX8 0 rfl rfl 2 (by decide) rfl m_643 rfl dX8_turn_51 ?_
        refine lv_sipush (v := 240) hx hb dX8_turn_54 (by decide) ?_
        refine lv_iload_n hx hb dX8_turn_57 rfl (lv_at hl 3 rfl) ?_
        refine lv_iadd hx hb dX8_turn_58 ?_
        refine lv_dup2_11 hx hb dX8_turn_59 rfl rfl ?_
        obtain ⟨h60, hf⟩ := g_cke hf
        obtain ⟨v60, e60, hf⟩ := g_le hf
        refine g_iald C X 3 rfl h60 e60 dX8_turn_60 ?_
        refine lv_iload hx hb dX8_turn_61 (lv_at hl 0 rfl) ?_
        refine lv_iload_n hx hb dX8_turn_63 rfl (lv_at hl 4 rfl) ?_
        refine lv_icmp_eq (tgt := 71) hx hb dX8_turn_64 (by decide) (fun c64 => ?_) (fun c64 => ?_)
        · have hf := g_t hf c64
          refine lv_iconst (v := 0) hx hb dX8_turn_71 (by decide) ?_
          exact j72 q45.2 a2 q45.1 (0 : Int32) v60 ((240 : Int32) + a1) ls H locs hf (lv_sub hl [4, 0] rfl) X
        · have hf := g_f hf c64
          refine lv_iconst (v := 1) hx hb dX8_turn_67 (by decide) ?_
          refine lv_goto (tgt := 72) hx hb dX8_turn_68 (by decide) ?_
          exact j72 q45.2 a2 q45.1 (1 : Int32) v60 ((240 : Int32) + a1) ls H locs hf (lv_sub hl [4, 0] rfl) X
    · have hf := g_t hf c27
      refine lv_aload_n hx hb dX8_turn_30 rfl (lv_at hl 1 rfl) ?_
      refine lv_iload_n hx hb dX8_turn_31 rfl (lv_at hl 2 rfl) ?_
      refine lv_iload_n hx hb dX8_turn_32 rfl (lv_at hl 3 rfl) ?_
      obtain ⟨q33, e33, hf⟩ := g_be hf
      refine g_calli X (g_runV (As := [.int a1, .int a2]) (rest := []) C X (cR_clipped l E A o ad w19 q33.2 q33.1 a1 a2 e33) kX8_clipped m_830 0 6 rfl rfl hl.1 rfl ⟨Nat.le_of_ble_eq_true rfl, Nat.le_of_ble_eq_true rfl⟩ rfl (Nat.le_of_ble_eq_true rfl) dX8_turn_33 ⟨Nat.le_of_ble_eq_true rfl, Nat.le_of_ble_eq_true rfl⟩) rfl rfl (fun H locs X => ?_)
      exact g_iret (wsR E o ad) C hr hk X hf dX8_turn_36
set_option maxRecDepth 100000 in
set_option maxHeartbeats 4000000 in
theorem cR_load (l : Launch) (E : g_Env) (A : Nat → Prop) (o : Nat) (ad : Nat → Nat) (w : RS) (w' : RS) (r : Int32) (a1 : Int32) (hf : fR_load w a1 = some (r, w')) : g_Mi l yX8_load cX8_load 3 ((some .int)) ({ frames := 2, cells := 0, slots := 0, locals := 46 }) E A [.ref o, .int a1] (wsR E o ad w) r (wsR E o ad w') := by
  refine g_start (by decide) (Nat.le_of_ble_eq_true rfl) ?_
  intro p e s m below meth c C hr hk hnm ls hl H locs X
  have hx := C.1.1
  have hb := C.1.2.1
  have hl : lv_has ls 3 [(0, .ref o), (1, .int a1)] := hl
  unfold fR_load at hf
  refine lv_aload_n hx hb dX8_load_0 rfl (lv_at hl 0 rfl) ?_
  refine lv_iload_n hx hb dX8_load_1 rfl (lv_at hl 1 rfl) ?_
  obtain ⟨q2, e2, hf⟩ := g_be hf
  refine g_calli X (g_runV (As := [.int a1]) (rest := []) C X (cR_kindOf l E A o ad w q2.2 q2.1 a1 e2) kX8_kindOf m_764 0 6 rfl rfl hl.1 rfl ⟨Nat.le_of_ble_eq_true rfl, Nat.le_of_ble_eq_true rfl⟩ rfl (Nat.le_of_ble_eq_true rfl) dX8_load_2 ⟨Nat.le_of_ble_eq_true rfl, Nat.le_of_ble_eq_true rfl⟩) rfl rfl (fun H locs X => ?_)
  refine lv_istore_n (lv' := [(2, .int q2.1), (0, .ref o), (1, .int a1)]) hx hb dX8_load_5 rfl hl (by decide) rfl (fun ls hl => ?_)
  refine lv_aload_n hx hb dX8_load_6 rfl (lv_at hl 1 rfl) ?_
  refine lv_iload_n hx hb dX8_load_7 rfl (lv_at hl 0 rfl) ?_
  refine lv_iconst (v := 2) hx hb dX8_load_8 (by decide) ?_
  obtain ⟨q9, e9, hf⟩ := g_be hf
  refine g_calli X (g_runV (As := [.int q2.1, .int (2 : Int32)]) (rest := []) C X (cR_isUnder l E A o ad q2.2 q9.2 q9.1 q2.1 (2 : Int32) e9) kX8_isUnder m_730 0 6 rfl rfl hl.1 rfl ⟨Nat.le_of_ble_eq_true rfl, Nat.le_of_ble_eq_true rfl⟩ rfl (Nat.le_of_ble_eq_true rfl) dX8_load_9 ⟨Nat.le_of_ble_eq_true rfl, Nat.le_of_ble_eq_true rfl⟩) rfl rfl (fun H locs X => ?_)
  refine lv_if_eq (tgt := 50) hx hb dX8_load_12 (by decide) (fun c12 => ?_) (fun c12 => ?_)
  · have hf := g_t hf c12
    refine lv_iload_n hx hb dX8_load_50 rfl (lv_at hl 0 rfl) ?_
    refine lv_iconst (v := 1) hx hb dX8_load_51 (by decide) ?_
    refine lv_icmp_ne (tgt := 57) hx hb dX8_load_52 (by decide) (fun c52 => ?_) (fun c52 => ?_)
    · have hf := g_f hf c52
      refine lv_iload_n hx hb dX8_load_57 rfl (lv_at hl 0 rfl) ?_
      refine lv_bipush (v := 8) hx hb dX8_load_58 (by decide) ?_
      refine lv_icmp_ne (tgt := 80) hx hb dX8_load_60 (by decide) (fun c60 => ?_) (fun c60 => ?_)
      · have hf := g_f hf c60
        refine lv_aload_n hx hb dX8_load_80 rfl (lv_at hl 1 rfl) ?_
        refine lv_iload_n hx hb dX8_load_81 rfl (lv_at hl 0 rfl) ?_
        refine lv_bipush (v := 6) hx hb dX8_load_82 (by decide) ?_
        obtain ⟨q84, e84, hf⟩ := g_be hf
        refine g_calli X (g_runV (As := [.int q2.1, .int (6 : Int32)]) (rest := []) C X (cR_isUnder l E A o ad q9.2 q84.2 q84.1 q2.1 (6 : Int32) e84) kX8_isUnder m_730 0 6 rfl rfl hl.1 rfl ⟨Nat.le_of_ble_eq_true rfl, Nat.le_of_ble_eq_true rfl⟩ rfl (Nat.le_of_ble_eq_true rfl) dX8_load_84 ⟨Nat.le_of_ble_eq_true rfl, Nat.le_of_ble_eq_true rfl⟩) rfl rfl (fun H locs X => ?_)
        refine lv_if_eq (tgt := 93) hx hb dX8_load_87 (by decide) (fun c87 => ?_) (fun c87 => ?_)
        · have hf := g_t hf c87
          refine lv_aload_n hx hb dX8_load_93 rfl (lv_at hl 1 rfl) ?_
          refine lv_iload_n hx hb dX8_load_94 rfl (lv_at hl 0 rfl) ?_
          refine lv_bipush (v := 9) hx hb dX8_load_95 (by decide) ?_
          obtain ⟨q97, e97, hf⟩ := g_be hf
          refine g_calli X (g_runV (As := [.int q2.1, .int (9 : Int32)]) (rest := []) C X (cR_isUnder l E A o ad q84.2 q97.2 q97.1 q2.1 (9 : Int32) e97) kX8_isUnder m_730 0 6 rfl rfl hl.1 rfl ⟨Nat.le_of_ble_eq_true rfl, Nat.le_of_ble_eq_true rfl⟩ rfl (Nat.le_of_ble_eq_true rfl) dX8_load_97 ⟨Nat.le_of_ble_eq_true rfl, Nat.le_of_ble_eq_true rfl⟩) rfl rfl (fun H locs X => ?_)
          refine lv_if_eq (tgt := 118) hx hb dX8_load_100 (by decide) (fun c100 => ?_) (fun c100 => ?_)
          · have hf := g_t hf c100
            refine lv_iconst (v := 2) hx hb dX8_load_118 (by decide) ?_
            exact g_iret (wsR E o ad) C hr hk X hf dX8_load_119
          · have hf := g_f hf c100
            refine lv_iconst (v := 2) hx hb dX8_load_103 (by decide) ?_
            refine lv_aload_n hx hb dX8_load_104 rfl (lv_at hl 1 rfl) ?_
            refine g_get C X g_iX8 0 rfl rfl 2 (by decide) rfl m_643 rfl dX8_load_105 ?_
            refine lv_sipush (v := 360) hx hb dX8_load_108 (by decide) ?_
            refine lv_iload_n hx hb dX8_load_111 rfl (lv_at hl 2 rfl) ?_
            refine lv_iadd hx hb dX8_load_112 ?_
            obtain ⟨h113, hf⟩ := g_cke hf
            obtain ⟨v113, e113, hf⟩ := g_le hf
            refine g_iald C X 3 rfl h113 e113 dX8_load_113 ?_
            refine lv_iadd hx hb dX8_load_114 ?_
            refine lv_goto (tgt := 119) hx hb dX8_load_115 (by decide) ?_
            exact g_iret (wsR E o ad) C hr hk X hf dX8_load_119
        · have hf := g_f hf c87
          refine lv_bipush (v := 6) hx hb dX8_load_90 (by decide) ?_
          exact g_iret (wsR E o ad) C hr hk X hf dX8_load_92
      · have hf := g_t hf c60
        refine lv_bipush (v := 6) hx hb dX8_load_63 (by decide) ?_
        refine lv_aload_n hx hb dX8_load_65 rfl (lv_at hl 1 rfl) ?_
        refine g_get C X g_iX8 0 rfl rfl 2 (by decide) rfl m_643 rfl dX8_load_66 ?_
        refine lv_sipush (v := 300) hx hb dX8_load_69 (by decide) ?_
        refine lv_iload_n hx hb dX8_load_72 rfl (lv_at hl 2 rfl) ?_
        refine lv_iadd hx hb dX8_load_73 ?_
        obtain ⟨h74, hf⟩ := g_cke hf
        obtain ⟨v74, e74, hf⟩ := g_le hf
        refine g_iald C X 3 rfl h74 e74 dX8_load_74 ?_
        refine lv_bipush (v := 7) hx hb dX8_load_75 (by decide) ?_
        refine lv_iand hx hb dX8_load_77 ?_
        refine lv_iadd hx hb dX8_load_78 ?_
        exact g_iret (wsR E o ad) C hr hk X hf dX8_load_79
    · have hf := g_t hf c52
      refine lv_iconst (v := 5) hx hb dX8_load_55 (by decide) ?_
      exact g_iret (wsR E o ad) C hr hk X hf dX8_load_56
  · have hf := g_f hf c12
    refine lv_iconst (v := 5) hx hb dX8_load_15 (by decide) ?_
    refine lv_aload_n hx hb dX8_load_16 rfl (lv_at hl 1 rfl) ?_
    refine g_get C X g_iX8 0 rfl rfl 2 (by decide) rfl m_643 rfl dX8_load_17 ?_
    refine lv_bipush (v := 120) hx hb dX8_load_20 (by decide) ?_
    refine lv_iload_n hx hb dX8_load_22 rfl (lv_at hl 2 rfl) ?_
    refine lv_iadd hx hb dX8_load_23 ?_
    obtain ⟨h24, hf⟩ := g_cke hf
    obtain ⟨v24, e24, hf⟩ := g_le hf
    refine g_iald C X 3 rfl h24 e24 dX8_load_24 ?_
    obtain ⟨q25, e25, hf⟩ := g_be hf
    refine g_calli X (g_runS (As := [.int v24]) (rest := [.int (5 : Int32)]) C X (cR_sizeOf l E A o ad q9.2 q25.2 q25.1 v24 e25) kX8_sizeOf m_834 hl.1 rfl ⟨Nat.le_of_ble_eq_true rfl, Nat.le_of_ble_eq_true rfl⟩ rfl (Nat.le_of_ble_eq_true rfl) dX8_load_25 ⟨Nat.le_of_ble_eq_true rfl, Nat.le_of_ble_eq_true rfl⟩) rfl rfl (fun H locs X => ?_)
    refine lv_iadd hx hb dX8_load_28 ?_
    refine lv_iload_n hx hb dX8_load_29 rfl (lv_at hl 0 rfl) ?_
    refine lv_iconst (v := 4) hx hb dX8_load_30 (by decide) ?_
    refine lv_icmp_ne (tgt := 47) hx hb dX8_load_31 (by decide) (fun c31 => ?_) (fun c31 => ?_)
    · have hf := g_f hf c31
      refine lv_iconst (v := 0) hx hb dX8_load_47 (by decide) ?_
      refine lv_iadd hx hb dX8_load_48 ?_
      exact g_iret (wsR E o ad) C hr hk X hf dX8_load_49
    · have hf := g_t hf c31
      refine lv_aload_n hx hb dX8_load_34 rfl (lv_at hl 1 rfl) ?_
      refine g_get C X g_iX8 0 rfl rfl 2 (by decide) rfl m_643 rfl dX8_load_35 ?_
      refine lv_sipush (v := 240) hx hb dX8_load_38 (by decide) ?_
      refine lv_iload_n hx hb dX8_load_41 rfl (lv_at hl 2 rfl) ?_
      refine lv_iadd hx hb dX8_load_42 ?_
      obtain ⟨h43, hf⟩ := g_cke hf
      obtain ⟨v43, e43, hf⟩ := g_le hf
      refine g_iald C X 3 rfl h43 e43 dX8_load_43 ?_
      refine lv_goto (tgt := 48) hx hb dX8_load_44 (by decide) ?_
      refine lv_iadd hx hb dX8_load_48 ?_
      exact g_iret (wsR E o ad) C hr hk X hf dX8_load_49
set_option maxRecDepth 100000 in
set_option maxHeartbeats 4000000 in
theorem cR_calm (l : Launch) (E : g_Env) (A : Nat → Prop) (o : Nat) (ad : Nat → Nat) (w : RS) (w' : RS) (a1 : Int32) (hf : fR_calm w a1 = some w') : g_Mv l yX8_calm cX8_calm 3 ({ frames := 2, cells := 0, slots := 0, locals := 46 }) E A [.ref o, .int a1] (wsR E o ad w) (wsR E o ad w') := by
  refine g_start (by decide) (Nat.le_of_ble_eq_true rfl) ?_
  intro p e s m below meth c C hr hk hnm ls hl H locs X
  have hx := C.1.1
  have hb := C.1.2.1
  have hl : lv_has ls 3 [(0, .ref o), (1, .int a1)] := hl
  have j100 : ∀ (w : RS) (x1 : Int32) (x2 : Int32) (ls : Array Slot) (H : Heap) (locs : List Loc), fR_calm_100 w x1 x2 = some w' → lv_has ls 3 [(0, .ref o), (1, .int x1), (2, .int x2)] → g_W E A s H locs (wsR E o ad w) → W p l e ({ frames := 2, cells := 0, slots := 0, locals := 46 }) s m ([.ref o, .int a1] : List Value).toArray below meth c H locs 0 0 (MQ below (va_Qv (fun (u' : va_W) => u' = wsR E o ad w') (g_B E A) A) ([.ref o, .int a1] : List Value).toArray s 0 0 A) (F0 m 100 ls []) := by
    intro w x1 x2 ls H locs hf hl X
    unfold fR_calm_100 at hf
    refine lv_iload_n hx hb dX8_calm_100 rfl (lv_at hl 2 rfl) ?_
    refine lv_bipush (v := 10) hx hb dX8_calm_101 (by decide) ?_
    refine lv_icmp_ne (tgt := 118) hx hb dX8_calm_103 (by decide) (fun c103 => ?_) (fun c103 => ?_)
    · have hf := g_f hf c103
      exact g_vret (wsR E o ad) C hr hk X hf dX8_calm_118
    · have hf := g_t hf c103
      refine lv_aload_n hx hb dX8_calm_106 rfl (lv_at hl 0 rfl) ?_
      refine g_get C X g_iX8 0 rfl rfl 2 (by decide) rfl m_643 rfl dX8_calm_107 ?_
      refine lv_sipush (v := 360) hx hb dX8_calm_110 (by decide) ?_
      refine lv_iload_n hx hb dX8_calm_113 rfl (lv_at hl 1 rfl) ?_
      refine lv_iadd hx hb dX8_calm_114 ?_
      refine lv_bipush (v := 100) hx hb dX8_calm_115 (by decide) ?_
      obtain ⟨h117, hf⟩ := g_cke hf
      obtain ⟨w117, e117, hf⟩ := g_le hf
      refine g_iast C X 3 rfl h117 dX8_calm_117 (ws2 := wsR E o ad w117) (by subst e117; rfl) (fun H locs X => ?_)
      exact g_vret (wsR E o ad) C hr hk X hf dX8_calm_118
  have j83 : ∀ (w : RS) (x1 : Int32) (x2 : Int32) (ls : Array Slot) (H : Heap) (locs : List Loc), fR_calm_83 w x1 x2 = some w' → lv_has ls 3 [(0, .ref o), (1, .int x1), (2, .int x2)] → g_W E A s H locs (wsR E o ad w) → W p l e ({ frames := 2, cells := 0, slots := 0, locals := 46 }) s m ([.ref o, .int a1] : List Value).toArray below meth c H locs 0 0 (MQ below (va_Qv (fun (u' : va_W) => u' = wsR E o ad w') (g_B E A) A) ([.ref o, .int a1] : List Value).toArray s 0 0 A) (F0 m 83 ls []) := by
    intro w x1 x2 ls H locs hf hl X
    unfold fR_calm_83 at hf
    refine lv_iload_n hx hb dX8_calm_83 rfl (lv_at hl 2 rfl) ?_
    refine lv_bipush (v := 9) hx hb dX8_calm_84 (by decide) ?_
    refine lv_icmp_ne (tgt := 100) hx hb dX8_calm_86 (by decide) (fun c86 => ?_) (fun c86 => ?_)
    · have hf := g_f hf c86
      exact j100 w x1 x2 ls H locs hf (lv_sub hl [0, 1, 2] rfl) X
    · have hf := g_t hf c86
      refine lv_aload_n hx hb dX8_calm_89 rfl (lv_at hl 0 rfl) ?_
      refine g_get C X g_iX8 0 rfl rfl 2 (by decide) rfl m_643 rfl dX8_calm_90 ?_
      refine lv_sipush (v := 360) hx hb dX8_calm_93 (by decide) ?_
      refine lv_iload_n hx hb dX8_calm_96 rfl (lv_at hl 1 rfl) ?_
      refine lv_iadd hx hb dX8_calm_97 ?_
      refine lv_iconst (v := 0) hx hb dX8_calm_98 (by decide) ?_
      obtain ⟨h99, hf⟩ := g_cke hf
      obtain ⟨w99, e99, hf⟩ := g_le hf
      refine g_iast C X 3 rfl h99 dX8_calm_99 (ws2 := wsR E o ad w99) (by subst e99; rfl) (fun H locs X => ?_)
      exact j100 w99 x1 x2 ls H locs hf (lv_sub hl [0, 1, 2] rfl) X
  have j53 : ∀ (w : RS) (x1 : Int32) (x2 : Int32) (ls : Array Slot) (H : Heap) (locs : List Loc), fR_calm_53 w x1 x2 = some w' → lv_has ls 3 [(0, .ref o), (1, .int x1), (2, .int x2)] → g_W E A s H locs (wsR E o ad w) → W p l e ({ frames := 2, cells := 0, slots := 0, locals := 46 }) s m ([.ref o, .int a1] : List Value).toArray below meth c H locs 0 0 (MQ below (va_Qv (fun (u' : va_W) => u' = wsR E o ad w') (g_B E A) A) ([.ref o, .int a1] : List Value).toArray s 0 0 A) (F0 m 53 ls []) := by
    intro w x1 x2 ls H locs hf hl X
    unfold fR_calm_53 at hf
    refine lv_aload_n hx hb dX8_calm_53 rfl (lv_at hl 0 rfl) ?_
    refine lv_iload_n hx hb dX8_calm_54 rfl (lv_at hl 2 rfl) ?_
    refine lv_bipush (v := 7) hx hb dX8_calm_55 (by decide) ?_
    obtain ⟨q57, e57, hf⟩ := g_be hf
    refine g_calli X (g_runV (As := [.int x2, .int (7 : Int32)]) (rest := []) C X (cR_isUnder l E A o ad w q57.2 q57.1 x2 (7 : Int32) e57) kX8_isUnder m_730 0 6 rfl rfl hl.1 rfl ⟨Nat.le_of_ble_eq_true rfl, Nat.le_of_ble_eq_true rfl⟩ rfl (Nat.le_of_ble_eq_true rfl) dX8_calm_57 ⟨Nat.le_of_ble_eq_true rfl, Nat.le_of_ble_eq_true rfl⟩) rfl rfl (fun H locs X => ?_)
    refine lv_if_eq (tgt := 83) hx hb dX8_calm_60 (by decide) (fun c60 => ?_) (fun c60 => ?_)
    · have hf := g_t hf c60
      exact j83 q57.2 x1 x2 ls H locs hf (lv_sub hl [0, 1, 2] rfl) X
    · have hf := g_f hf c60
      refine lv_aload_n hx hb dX8_calm_63 rfl (lv_at hl 0 rfl) ?_
      refine g_get C X g_iX8 0 rfl rfl 2 (by decide) rfl m_643 rfl dX8_calm_64 ?_
      refine lv_bipush (v := 120) hx hb dX8_calm_67 (by decide) ?_
      refine lv_iload_n hx hb dX8_calm_69 rfl (lv_at hl 1 rfl) ?_
      refine lv_iadd hx hb dX8_calm_70 ?_
      refine lv_aload_n hx hb dX8_calm_71 rfl (lv_at hl 0 rfl) ?_
      refine g_get C X g_iX8 0 rfl rfl 2 (by decide) rfl m_643 rfl dX8_calm_72 ?_
      refine lv_bipush (v := 120) hx hb dX8_calm_75 (by decide) ?_
      refine lv_iload_n hx hb dX8_calm_77 rfl (lv_at hl 1 rfl) ?_
      refine lv_iadd hx hb dX8_calm_78 ?_
      obtain ⟨h79, hf⟩ := g_cke hf
      obtain ⟨v79, e79, hf⟩ := g_le hf
      refine g_iald C X 3 rfl h79 e79 dX8_calm_79 ?_
      refine lv_iconst (v := 1) hx hb dX8_calm_80 (by decide) ?_
      refine lv_ishr hx hb dX8_calm_81 ?_
      obtain ⟨h82, hf⟩ := g_cke hf
      obtain ⟨w82, e82, hf⟩ := g_le hf
      refine g_iast C X 3 rfl h82 dX8_calm_82 (ws2 := wsR E o ad w82) (by subst e82; rfl) (fun H locs X => ?_)
      exact j83 w82 x1 x2 ls H locs hf (lv_sub hl [0, 1, 2] rfl) X
  have j33 : ∀ (w : RS) (x1 : Int32) (x2 : Int32) (ls : Array Slot) (H : Heap) (locs : List Loc), fR_calm_33 w x1 x2 = some w' → lv_has ls 3 [(0, .ref o), (1, .int x1), (2, .int x2)] → g_W E A s H locs (wsR E o ad w) → W p l e ({ frames := 2, cells := 0, slots := 0, locals := 46 }) s m ([.ref o, .int a1] : List Value).toArray below meth c H locs 0 0 (MQ below (va_Qv (fun (u' : va_W) => u' = wsR E o ad w') (g_B E A) A) ([.ref o, .int a1] : List Value).toArray s 0 0 A) (F0 m 33 ls []) := by
    intro w x1 x2 ls H locs hf hl X
    unfold fR_calm_33 at hf
    refine lv_aload_n hx hb dX8_calm_33 rfl (lv_at hl 0 rfl) ?_
    refine lv_iload_n hx hb dX8_calm_34 rfl (lv_at hl 2 rfl) ?_
    refine lv_iconst (v := 5) hx hb dX8_calm_35 (by decide) ?_
    obtain ⟨q36, e36, hf⟩ := g_be hf
    refine g_calli X (g_runV (As := [.int x2, .int (5 : Int32)]) (rest := []) C X (cR_isUnder l E A o ad w q36.2 q36.1 x2 (5 : Int32) e36) kX8_isUnder m_730 0 6 rfl rfl hl.1 rfl ⟨Nat.le_of_ble_eq_true rfl, Nat.le_of_ble_eq_true rfl⟩ rfl (Nat.le_of_ble_eq_true rfl) dX8_calm_36 ⟨Nat.le_of_ble_eq_true rfl, Nat.le_of_ble_eq_true rfl⟩) rfl rfl (fun H locs X => ?_)
    refine lv_if_eq (tgt := 53) hx hb dX8_calm_39 (by decide) (fun c39 => ?_) (fun c39 => ?_)
    · have hf := g_t hf c39
      exact j53 q36.2 x1 x2 ls H locs hf (lv_sub hl [0, 1, 2] rfl) X
    · have hf := g_f hf c39
      refine lv_aload_n hx hb dX8_calm_42 rfl (lv_at hl 0 rfl) ?_
      refine g_get C X g_iX8 0 rfl rfl 2 (by decide) rfl m_643 rfl dX8_calm_43 ?_
      refine lv_sipush (v := 300) hx hb dX8_calm_46 (by decide) ?_
      refine lv_iload_n hx hb dX8_calm_49 rfl (lv_at hl 1 rfl) ?_
      refine lv_iadd hx hb dX8_calm_50 ?_
      refine lv_iconst (v := 0) hx hb dX8_calm_51 (by decide) ?_
      obtain ⟨h52, hf⟩ := g_cke hf
      obtain ⟨w52, e52, hf⟩ := g_le hf
      refine g_iast C X 3 rfl h52 dX8_calm_52 (ws2 := wsR E o ad w52) (by subst e52; rfl) (fun H locs X => ?_)
      exact j53 w52 x1 x2 ls H locs hf (lv_sub hl [0, 1, 2] rfl) X
  unfold fR_calm at hf
  refine lv_aload_n hx hb dX8_calm_0 rfl (lv_at hl 0 rfl) ?_
  refine lv_iload_n hx hb dX8_calm_1 rfl (lv_at hl 1 rfl) ?_
  obtain ⟨q2, e2, hf⟩ := g_be hf
  refine g_calli X (g_runV (As := [.int a1]) (rest := []) C X (cR_kindOf l E A o ad w q2.2 q2.1 a1 e2) kX8_kindOf m_764 0 6 rfl rfl hl.1 rfl ⟨Nat.le_of_ble_eq_true rfl, Nat.le_of_ble_eq_true rfl⟩ rfl (Nat.le_of_ble_eq_true rfl) dX8_calm_2 ⟨Nat.le_of_ble_eq_true rfl, Nat.le_of_ble_eq_true rfl⟩) rfl rfl (fun H locs X => ?_)
  refine lv_istore_n (lv' := [(2, .int q2.1), (0, .ref o), (1, .int a1)]) hx hb dX8_calm_5 rfl hl (by decide) rfl (fun ls hl => ?_)
  refine lv_aload_n hx hb dX8_calm_6 rfl (lv_at hl 1 rfl) ?_
  refine g_get C X g_iX8 0 rfl rfl 2 (by decide) rfl m_643 rfl dX8_calm_7 ?_
  refine lv_sipush (v := 180) hx hb dX8_calm_10 (by decide) ?_
  refine lv_iload_n hx hb dX8_calm_13 rfl (lv_at hl 2 rfl) ?_
  refine lv_iadd hx hb dX8_calm_14 ?_
  refine lv_iconst (v := 0) hx hb dX8_calm_15 (by decide) ?_
  obtain ⟨h16, hf⟩ := g_cke hf
  obtain ⟨w16, e16, hf⟩ := g_le hf
  refine g_iast C X 3 rfl h16 dX8_calm_16 (ws2 := wsR E o ad w16) (by subst e16; rfl) (fun H locs X => ?_)
  refine lv_iload_n hx hb dX8_calm_17 rfl (lv_at hl 0 rfl) ?_
  refine lv_iconst (v := 4) hx hb dX8_calm_18 (by decide) ?_
  refine lv_icmp_ne (tgt := 33) hx hb dX8_calm_19 (by decide) (fun c19 => ?_) (fun c19 => ?_)
  · have hf := g_f hf c19
    exact j33 w16 a1 q2.1 ls H locs hf (lv_sub hl [1, 2, 0] rfl) X
  · have hf := g_t hf c19
    refine lv_aload_n hx hb dX8_calm_22 rfl (lv_at hl 1 rfl) ?_
    refine g_get C X g_iX8 0 rfl rfl 2 (by decide) rfl m_643 rfl dX8_calm_23 ?_
    refine lv_sipush (v := 240) hx hb dX8_calm_26 (by decide) ?_
    refine lv_iload_n hx hb dX8_calm_29 rfl (lv_at hl 2 rfl) ?_
    refine lv_iadd hx hb dX8_calm_30 ?_
    refine lv_iconst (v := 0) hx hb dX8_calm_31 (by decide) ?_
    obtain ⟨h32, hf⟩ := g_cke hf
    obtain ⟨w32, e32, hf⟩ := g_le hf
    refine g_iast C X 3 rfl h32 dX8_calm_32 (ws2 := wsR E o ad w32) (by subst e32; rfl) (fun H locs X => ?_)
    exact j33 w32 a1 q2.1 ls H locs hf (lv_sub hl [1, 2, 0] rfl) X
set_option maxRecDepth 100000 in
set_option maxHeartbeats 4000000 in
theorem cR_ticksOf (l : Launch) (E : g_Env) (A : Nat → Prop) (o : Nat) (ad : Nat → Nat) (w : RS) (w' : RS) (r : Int32) (a1 : Int32) (a2 : Int32) (hf : fR_ticksOf w a1 a2 = some (r, w')) : g_Mi l yX8_ticksOf cX8_ticksOf 5 ((some .int)) ({ frames := 1, cells := 0, slots := 0, locals := 21 }) E A [.ref o, .int a1, .int a2] (wsR E o ad w) r (wsR E o ad w') := by
  refine g_start (by decide) (Nat.le_of_ble_eq_true rfl) ?_
  intro p e s m below meth c C hr hk hnm ls hl H locs X
  have hx := C.1.1
  have hb := C.1.2.1
  have hl : lv_has ls 5 [(0, .ref o), (1, .int a1), (2, .int a2)] := hl
  have j5 : ∀ (n : Nat) (w : RS) (x1 : Int32) (x2 : Int32) (x3 : Int32) (x4 : Int32) (ls : Array Slot) (H : Heap) (locs : List Loc), fR_ticksOf_5 n w x1 x2 x3 x4 = some (r, w') → lv_has ls 5 [(0, .ref o), (1, .int x1), (2, .int x2), (3, .int x3), (4, .int x4)] → g_W E A s H locs (wsR E o ad w) → W p l e ({ frames := 1, cells := 0, slots := 0, locals := 21 }) s m ([.ref o, .int a1, .int a2] : List Value).toArray below meth c H locs 0 0 (MQ below (va_Qi (fun (r' : Int32) (u' : va_W) => r' = r ∧ u' = wsR E o ad w') (g_B E A) A) ([.ref o, .int a1, .int a2] : List Value).toArray s 0 0 A) (F0 m 5 ls []) := by
    intro n
    induction n with
    | zero => intro w x1 x2 x3 x4 ls H locs hf; exact absurd hf (by simp [fR_ticksOf_5])
    | succ n5 ih5 =>
      intro w x1 x2 x3 x4 ls H locs hf hl X
      have j92 : ∀ (w : RS) (x1 : Int32) (x2 : Int32) (x3 : Int32) (x4 : Int32) (ls : Array Slot) (H : Heap) (locs : List Loc), fR_ticksOf_92 (fR_ticksOf_5 n5) w x1 x2 x3 x4 = some (r, w') → lv_has ls 5 [(0, .ref o), (1, .int x1), (2, .int x2), (3, .int x3), (4, .int x4)] → g_W E A s H locs (wsR E o ad w) → W p l e ({ frames := 1, cells := 0, slots := 0, locals := 21 }) s m ([.ref o, .int a1, .int a2] : List Value).toArray below meth c H locs 0 0 (MQ below (va_Qi (fun (r' : Int32) (u' : va_W) => r' = r ∧ u' = wsR E o ad w') (g_B E A) A) ([.ref o, .int a1, .int a2] : List Value).toArray s 0 0 A) (F0 m 92 ls []) := by
        intro w x1 x2 x3 x4 ls H locs hf hl X
        unfold fR_ticksOf_92 at hf
        refine lv_iinc (v := x4 + (1 : Int32)) (lv' := [(4, .int (x4 + (1 : Int32))), (0, .ref o), (1, .int x1), (2, .int x2), (3, .int x3)]) hx hb dX8_ticksOf_92 hl (k := 4) rfl rfl (by decide) rfl (fun ls hl => ?_)
        refine lv_goto (tgt := 5) hx hb dX8_ticksOf_95 (by decide) ?_
        exact ih5 w x1 x2 x3 (x4 + (1 : Int32)) ls H locs hf (lv_sub hl [1, 2, 3, 4, 0] rfl) X
      unfold fR_ticksOf_5 at hf
      refine lv_iload hx hb dX8_ticksOf_5 (lv_at hl 4 rfl) ?_
      refine lv_iload_n hx hb dX8_ticksOf_7 rfl (lv_at hl 2 rfl) ?_
      refine lv_icmp_ge (tgt := 98) hx hb dX8_ticksOf_8 (by decide) (fun c8 => ?_) (fun c8 => ?_)
      · have hf := g_t hf c8
        refine lv_iload_n hx hb dX8_ticksOf_98 rfl (lv_at hl 3 rfl) ?_
        exact g_iret (wsR E o ad) C hr hk X hf dX8_ticksOf_99
      · have hf := g_f hf c8
        refine lv_aload_n hx hb dX8_ticksOf_11 rfl (lv_at hl 0 rfl) ?_
        refine lv_iload_n hx hb dX8_ticksOf_12 rfl (lv_at hl 1 rfl) ?_
        obtain ⟨q13, e13, hf⟩ := g_be hf
        refine g_calli X (g_runV (As := [.int x1]) (rest := []) C X (cR_kindOf l E A o ad w q13.2 q13.1 x1 e13) kX8_kindOf m_764 0 6 rfl rfl hl.1 rfl ⟨Nat.le_of_ble_eq_true rfl, Nat.le_of_ble_eq_true rfl⟩ rfl (Nat.le_of_ble_eq_true rfl) dX8_ticksOf_13 ⟨Nat.le_of_ble_eq_true rfl, Nat.le_of_ble_eq_true rfl⟩) rfl rfl (fun H locs X => ?_)
        refine lv_bipush (v := 10) hx hb dX8_ticksOf_16 (by decide) ?_
        refine lv_icmp_ne (tgt := 54) hx hb dX8_ticksOf_18 (by decide) (fun c18 => ?_) (fun c18 => ?_)
        · have hf := g_f hf c18
          refine lv_aload_n hx hb dX8_ticksOf_54 rfl (lv_at hl 0 rfl) ?_
          refine g_get C X g_iX8 0 rfl rfl 2 (by decide) rfl m_643 rfl dX8_ticksOf_55 ?_
          refine lv_sipush (v := 480) hx hb dX8_ticksOf_58 (by decide) ?_
          refine lv_iload_n hx hb dX8_ticksOf_61 rfl (lv_at hl 1 rfl) ?_
          refine lv_iadd hx hb dX8_ticksOf_62 ?_
          refine lv_iconst (v := 3) hx hb dX8_ticksOf_63 (by decide) ?_
          refine lv_aload_n hx hb dX8_ticksOf_64 rfl (lv_at hl 0 rfl) ?_
          refine g_get C X g_iX8 0 rfl rfl 2 (by decide) rfl m_643 rfl dX8_ticksOf_65 ?_
          refine lv_sipush (v := 480) hx hb dX8_ticksOf_68 (by decide) ?_
          refine lv_iload_n hx hb dX8_ticksOf_71 rfl (lv_at hl 1 rfl) ?_
          refine lv_iadd hx hb dX8_ticksOf_72 ?_
          obtain ⟨h73, hf⟩ := g_cke hf
          obtain ⟨v73, e73, hf⟩ := g_le hf
          refine g_iald C X 3 rfl h73 e73 dX8_ticksOf_73 ?_
          refine lv_imul hx hb dX8_ticksOf_74 ?_
          refine lv_iload hx hb dX8_ticksOf_75 (lv_at hl 4 rfl) ?_
          refine lv_iadd hx hb dX8_ticksOf_77 ?_
          obtain ⟨h78, hf⟩ := g_cke hf
          obtain ⟨w78, e78, hf⟩ := g_le hf
          refine g_iast C X 3 rfl h78 dX8_ticksOf_78 (ws2 := wsR E o ad w78) (by subst e78; rfl) (fun H locs X => ?_)
          refine lv_iload_n hx hb dX8_ticksOf_79 rfl (lv_at hl 3 rfl) ?_
          refine lv_aload_n hx hb dX8_ticksOf_80 rfl (lv_at hl 0 rfl) ?_
          refine g_get C X g_iX8 0 rfl rfl 2 (by decide) rfl m_643 rfl dX8_ticksOf_81 ?_
          refine lv_sipush (v := 480) hx hb dX8_ticksOf_84 (by decide) ?_
          refine lv_iload_n hx hb dX8_ticksOf_87 rfl (lv_at hl 1 rfl) ?_
          refine lv_iadd hx hb dX8_ticksOf_88 ?_
          obtain ⟨h89, hf⟩ := g_cke hf
          obtain ⟨v89, e89, hf⟩ := g_le hf
          refine g_iald C X 3 rfl h89 e89 dX8_ticksOf_89 ?_
          refine lv_iadd hx hb dX8_ticksOf_90 ?_
          refine lv_istore_n (lv' := [(3, .int (x3 + v89)), (0, .ref o), (1, .int x1), (2, .int x2), (4, .int x4)]) hx hb dX8_ticksOf_91 rfl hl (by decide) rfl (fun ls hl => ?_)
          exact j92 w78 x1 x2 (x3 + v89) x4 ls H locs hf (lv_sub hl [1, 2, 3, 0, 4] rfl) X
        · have hf := g_t hf c18
          refine lv_aload_n hx hb dX8_ticksOf_21 rfl (lv_at hl 0 rfl) ?_
          refine g_get C X g_iX8 0 rfl rfl 2 (by decide) rfl m_643 rfl dX8_ticksOf_22 ?_
          refine lv_sipush (v := 360) hx hb dX8_ticksOf_25 (by decide) ?_
          refine lv_iload_n hx hb dX8_ticksOf_28 rfl (lv_at hl 1 rfl) ?_
          refine lv_iadd hx hb dX8_ticksOf_29 ?_
          refine lv_dup2_11 hx hb dX8_ticksOf_30 rfl rfl ?_
          obtain ⟨h31, hf⟩ := g_cke hf
          obtain ⟨v31, e31, hf⟩ := g_le hf
          refine g_iald C X 3 rfl h31 e31 dX8_ticksOf_31 ?_
          refine lv_iload hx hb dX8_ticksOf_32 (lv_at hl 4 rfl) ?_
          refine lv_iconst (v := 1) hx hb dX8_ticksOf_34 (by decide) ?_
          refine lv_iadd hx hb dX8_ticksOf_35 ?_
          refine lv_iadd hx hb dX8_ticksOf_36 ?_
          obtain ⟨h37, hf⟩ := g_cke hf
          obtain ⟨w37, e37, hf⟩ := g_le hf
          refine g_iast C X 3 rfl h37 dX8_ticksOf_37 (ws2 := wsR E o ad w37) (by subst e37; rfl) (fun H locs X => ?_)
          refine lv_iload_n hx hb dX8_ticksOf_38 rfl (lv_at hl 3 rfl) ?_
          refine lv_aload_n hx hb dX8_ticksOf_39 rfl (lv_at hl 0 rfl) ?_
          refine g_get C X g_iX8 0 rfl rfl 2 (by decide) rfl m_643 rfl dX8_ticksOf_40 ?_
          refine lv_sipush (v := 360) hx hb dX8_ticksOf_43 (by decide) ?_
          refine lv_iload_n hx hb dX8_ticksOf_46 rfl (lv_at hl 1 rfl) ?_
          refine lv_iadd hx hb dX8_ticksOf_47 ?_
          obtain ⟨h48, hf⟩ := g_cke hf
          obtain ⟨v48, e48, hf⟩ := g_le hf
          refine g_iald C X 3 rfl h48 e48 dX8_ticksOf_48 ?_
          refine lv_iadd hx hb dX8_ticksOf_49 ?_
          refine lv_istore_n (lv' := [(3, .int (x3 + v48)), (0, .ref o), (1, .int x1), (2, .int x2), (4, .int x4)]) hx hb dX8_ticksOf_50 rfl hl (by decide) rfl (fun ls hl => ?_)
          refine lv_goto (tgt := 92) hx hb dX8_ticksOf_51 (by decide) ?_
          exact j92 w37 x1 x2 (x3 + v48) x4 ls H locs hf (lv_sub hl [1, 2, 3, 0, 4] rfl) X
  unfold fR_ticksOf at hf
  refine lv_iconst (v := 0) hx hb dX8_ticksOf_0 (by decide) ?_
  refine lv_istore_n (lv' := [(3, .int (0 : Int32)), (0, .ref o), (1, .int a1), (2, .int a2)]) hx hb dX8_ticksOf_1 rfl hl (by decide) rfl (fun ls hl => ?_)
  refine lv_iconst (v := 0) hx hb dX8_ticksOf_2 (by decide) ?_
  refine lv_istore (lv' := [(4, .int (0 : Int32)), (3, .int (0 : Int32)), (0, .ref o), (1, .int a1), (2, .int a2)]) hx hb dX8_ticksOf_3 hl (by decide) rfl (fun ls hl => ?_)
  exact j5 g_fuel w a1 a2 (0 : Int32) (0 : Int32) ls H locs hf (lv_sub hl [2, 3, 4, 1, 0] rfl) X
set_option maxRecDepth 100000 in
set_option maxHeartbeats 4000000 in
theorem cR_thingAt (l : Launch) (E : g_Env) (A : Nat → Prop) (o : Nat) (ad : Nat → Nat) (w : RS) (w' : RS) (r : Int32) (a1 : Int32) (a2 : Int32) (hf : fR_thingAt w a1 a2 = some (r, w')) : g_Mi l yX8_thingAt cX8_thingAt 3 ((some .int)) ({ frames := 0, cells := 0, slots := 0, locals := 0 }) E A [.ref o, .int a1, .int a2] (wsR E o ad w) r (wsR E o ad w') := by
  refine g_start (by decide) (Nat.le_of_ble_eq_true rfl) ?_
  intro p e s m below meth c C hr hk hnm ls hl H locs X
  have hx := C.1.1
  have hb := C.1.2.1
  have hl : lv_has ls 3 [(0, .ref o), (1, .int a1), (2, .int a2)] := hl
  unfold fR_thingAt at hf
  refine lv_aload_n hx hb dX8_thingAt_0 rfl (lv_at hl 0 rfl) ?_
  refine g_get C X g_iX8 0 rfl rfl 3 (by decide) rfl m_644 rfl dX8_thingAt_1 ?_
  refine lv_bipush (v := 12) hx hb dX8_thingAt_4 (by decide) ?_
  refine lv_iload_n hx hb dX8_thingAt_6 rfl (lv_at hl 1 rfl) ?_
  refine lv_imul hx hb dX8_thingAt_7 ?_
  refine lv_iload_n hx hb dX8_thingAt_8 rfl (lv_at hl 2 rfl) ?_
  refine lv_iadd hx hb dX8_thingAt_9 ?_
  obtain ⟨h10, hf⟩ := g_cke hf
  obtain ⟨v10, e10, hf⟩ := g_le hf
  refine g_lald C X 4 rfl h10 e10 dX8_thingAt_10 ?_
  refine lv_l2i hx hb dX8_thingAt_11 rfl ?_
  refine lv_iconst (v := 1) hx hb dX8_thingAt_12 (by decide) ?_
  refine lv_isub hx hb dX8_thingAt_13 ?_
  exact g_iret (wsR E o ad) C hr hk X hf dX8_thingAt_14
set_option maxRecDepth 100000 in
set_option maxHeartbeats 4000000 in
theorem cR_playRow (l : Launch) (E : g_Env) (A : Nat → Prop) (o : Nat) (ad : Nat → Nat) (w : RS) (w' : RS) (r : Int32) (a1 : Int32) (a2 : Int32) (hf : fR_playRow w a1 a2 = some (r, w')) : g_Mi l yX8_playRow cX8_playRow 6 ((some .int)) ({ frames := 3, cells := 0, slots := 0, locals := 67 }) E A [.ref o, .int a1, .int a2] (wsR E o ad w) r (wsR E o ad w') := by
  refine g_start (by decide) (Nat.le_of_ble_eq_true rfl) ?_
  intro p e s m below meth c C hr hk hnm ls hl H locs X
  have hx := C.1.1
  have hb := C.1.2.1
  have hl : lv_has ls 6 [(0, .ref o), (1, .int a1), (2, .int a2)] := hl
  have j5 : ∀ (n : Nat) (w : RS) (x1 : Int32) (x3 : Int32) (x4 : Int32) (ls : Array Slot) (H : Heap) (locs : List Loc), fR_playRow_5 n w x1 x3 x4 = some (r, w') → lv_has ls 6 [(0, .ref o), (1, .int x1), (3, .int x3), (4, .int x4)] → g_W E A s H locs (wsR E o ad w) → W p l e ({ frames := 3, cells := 0, slots := 0, locals := 67 }) s m ([.ref o, .int a1, .int a2] : List Value).toArray below meth c H locs 0 0 (MQ below (va_Qi (fun (r' : Int32) (u' : va_W) => r' = r ∧ u' = wsR E o ad w') (g_B E A) A) ([.ref o, .int a1, .int a2] : List Value).toArray s 0 0 A) (F0 m 5 ls []) := by
    intro n
    induction n with
    | zero => intro w x1 x3 x4 ls H locs hf; exact absurd hf (by simp [fR_playRow_5])
    | succ n5 ih5 =>
      intro w x1 x3 x4 ls H locs hf hl X
      have j37 : ∀ (w : RS) (x1 : Int32) (x3 : Int32) (x4 : Int32) (ls : Array Slot) (H : Heap) (locs : List Loc), fR_playRow_37 (fR_playRow_5 n5) w x1 x3 x4 = some (r, w') → lv_has ls 6 [(0, .ref o), (1, .int x1), (3, .int x3), (4, .int x4)] → g_W E A s H locs (wsR E o ad w) → W p l e ({ frames := 3, cells := 0, slots := 0, locals := 67 }) s m ([.ref o, .int a1, .int a2] : List Value).toArray below meth c H locs 0 0 (MQ below (va_Qi (fun (r' : Int32) (u' : va_W) => r' = r ∧ u' = wsR E o ad w') (g_B E A) A) ([.ref o, .int a1, .int a2] : List Value).toArray s 0 0 A) (F0 m 37 ls []) := by
        intro w x1 x3 x4 ls H locs hf hl X
        unfold fR_playRow_37 at hf
        refine lv_iinc (v := x4 + (1 : Int32)) (lv' := [(4, .int (x4 + (1 : Int32))), (0, .ref o), (1, .int x1), (3, .int x3)]) hx hb dX8_playRow_37 hl (k := 3) rfl rfl (by decide) rfl (fun ls hl => ?_)
        refine lv_goto (tgt := 5) hx hb dX8_playRow_40 (by decide) ?_
        exact ih5 w x1 x3 (x4 + (1 : Int32)) ls H locs hf (lv_sub hl [1, 2, 3, 0] rfl) X
      unfold fR_playRow_5 at hf
      refine lv_iload hx hb dX8_playRow_5 (lv_at hl 3 rfl) ?_
      refine lv_aload_n hx hb dX8_playRow_7 rfl (lv_at hl 0 rfl) ?_
      refine lv_iload_n hx hb dX8_playRow_8 rfl (lv_at hl 1 rfl) ?_
      obtain ⟨q9, e9, hf⟩ := g_be hf
      refine g_calli X (g_runV (As := [.int x1]) (rest := [.int x4]) C X (cR_lengthOf l E A o ad w q9.2 q9.1 x1 e9) kX8_lengthOf m_775 0 6 rfl rfl hl.1 rfl ⟨Nat.le_of_ble_eq_true rfl, Nat.le_of_ble_eq_true rfl⟩ rfl (Nat.le_of_ble_eq_true rfl) dX8_playRow_9 ⟨Nat.le_of_ble_eq_true rfl, Nat.le_of_ble_eq_true rfl⟩) rfl rfl (fun H locs X => ?_)
      refine lv_icmp_ge (tgt := 43) hx hb dX8_playRow_12 (by decide) (fun c12 => ?_) (fun c12 => ?_)
      · have hf := g_t hf c12
        refine lv_iload_n hx hb dX8_playRow_43 rfl (lv_at hl 2 rfl) ?_
        exact g_iret (wsR E o ad) C hr hk X hf dX8_playRow_44
      · have hf := g_f hf c12
        refine lv_aload_n hx hb dX8_playRow_15 rfl (lv_at hl 0 rfl) ?_
        refine lv_iload_n hx hb dX8_playRow_16 rfl (lv_at hl 1 rfl) ?_
        refine lv_iload hx hb dX8_playRow_17 (lv_at hl 3 rfl) ?_
        obtain ⟨q19, e19, hf⟩ := g_be hf
        refine g_calli X (g_runV (As := [.int x1, .int x4]) (rest := []) C X (cR_thingAt l E A o ad q9.2 q19.2 q19.1 x1 x4 e19) kX8_thingAt m_783 0 6 rfl rfl hl.1 rfl ⟨Nat.le_of_ble_eq_true rfl, Nat.le_of_ble_eq_true rfl⟩ rfl (Nat.le_of_ble_eq_true rfl) dX8_playRow_19 ⟨Nat.le_of_ble_eq_true rfl, Nat.le_of_ble_eq_true rfl⟩) rfl rfl (fun H locs X => ?_)
        refine lv_istore (lv' := [(5, .int q19.1), (0, .ref o), (1, .int x1), (3, .int x3), (4, .int x4)]) hx hb dX8_playRow_22 hl (by decide) rfl (fun ls hl => ?_)
        refine lv_iload hx hb dX8_playRow_24 (lv_at hl 0 rfl) ?_
        refine lv_if_lt (tgt := 37) hx hb dX8_playRow_26 (by decide) (fun c26 => ?_) (fun c26 => ?_)
        · have hf := g_t hf c26
          exact j37 q19.2 x1 x3 x4 ls H locs hf (lv_sub hl [1, 2, 3, 4] rfl) X
        · have hf := g_f hf c26
          refine lv_aload_n hx hb dX8_playRow_29 rfl (lv_at hl 1 rfl) ?_
          refine lv_iload hx hb dX8_playRow_30 (lv_at hl 0 rfl) ?_
          refine lv_iload_n hx hb dX8_playRow_32 rfl (lv_at hl 3 rfl) ?_
          obtain ⟨q33, e33, hf⟩ := g_be hf
          refine g_calli X (g_runV (As := [.int q19.1, .int x3]) (rest := []) C X (cR_turn l E A o ad q19.2 q33.2 q33.1 q19.1 x3 e33) kX8_turn m_826 0 6 rfl rfl hl.1 rfl ⟨Nat.le_of_ble_eq_true rfl, Nat.le_of_ble_eq_true rfl⟩ rfl (Nat.le_of_ble_eq_true rfl) dX8_playRow_33 ⟨Nat.le_of_ble_eq_true rfl, Nat.le_of_ble_eq_true rfl⟩) rfl rfl (fun H locs X => ?_)
          refine lv_istore_n (lv' := [(3, .int q33.1), (5, .int q19.1), (0, .ref o), (1, .int x1), (4, .int x4)]) hx hb dX8_playRow_36 rfl hl (by decide) rfl (fun ls hl => ?_)
          exact j37 q33.2 x1 q33.1 x4 ls H locs hf (lv_sub hl [2, 3, 0, 4] rfl) X
  unfold fR_playRow at hf
  refine lv_iload_n hx hb dX8_playRow_0 rfl (lv_at hl 2 rfl) ?_
  refine lv_istore_n (lv' := [(3, .int a2), (0, .ref o), (1, .int a1), (2, .int a2)]) hx hb dX8_playRow_1 rfl hl (by decide) rfl (fun ls hl => ?_)
  refine lv_iconst (v := 0) hx hb dX8_playRow_2 (by decide) ?_
  refine lv_istore (lv' := [(4, .int (0 : Int32)), (3, .int a2), (0, .ref o), (1, .int a1), (2, .int a2)]) hx hb dX8_playRow_3 hl (by decide) rfl (fun ls hl => ?_)
  exact j5 g_fuel w a1 a2 (0 : Int32) ls H locs hf (lv_sub hl [2, 3, 1, 0] rfl) X
set_option maxRecDepth 100000 in
set_option maxHeartbeats 4000000 in
theorem cR_playThing (l : Launch) (E : g_Env) (A : Nat → Prop) (o : Nat) (ad : Nat → Nat) (w : RS) (w' : RS) (r : Int32) (a1 : Int32) (a2 : Int32) (hf : fR_playThing w a1 a2 = some (r, w')) : g_Mi l yX8_playThing cX8_playThing 6 ((some .int)) ({ frames := 4, cells := 0, slots := 0, locals := 92 }) E A [.ref o, .int a1, .int a2] (wsR E o ad w) r (wsR E o ad w') := by
  refine g_start (by decide) (Nat.le_of_ble_eq_true rfl) ?_
  intro p e s m below meth c C hr hk hnm ls hl H locs X
  have hx := C.1.1
  have hb := C.1.2.1
  have hl : lv_has ls 6 [(0, .ref o), (1, .int a1), (2, .int a2)] := hl
  have j42 : ∀ (n : Nat) (w : RS) (x1 : Int32) (x3 : Int32) (x4 : Int32) (ls : Array Slot) (H : Heap) (locs : List Loc), fR_playThing_42 n w x1 x3 x4 = some (r, w') → lv_has ls 6 [(0, .ref o), (1, .int x1), (3, .int x3), (4, .int x4)] → g_W E A s H locs (wsR E o ad w) → W p l e ({ frames := 4, cells := 0, slots := 0, locals := 92 }) s m ([.ref o, .int a1, .int a2] : List Value).toArray below meth c H locs 0 0 (MQ below (va_Qi (fun (r' : Int32) (u' : va_W) => r' = r ∧ u' = wsR E o ad w') (g_B E A) A) ([.ref o, .int a1, .int a2] : List Value).toArray s 0 0 A) (F0 m 42 ls []) := by
    intro n
    induction n with
    | zero => intro w x1 x3 x4 ls H locs hf; exact absurd hf (by simp [fR_playThing_42])
    | succ n42 ih42 =>
      intro w x1 x3 x4 ls H locs hf hl X
      have j74 : ∀ (w : RS) (x1 : Int32) (x3 : Int32) (x4 : Int32) (ls : Array Slot) (H : Heap) (locs : List Loc), fR_playThing_74 (fR_playThing_42 n42) w x1 x3 x4 = some (r, w') → lv_has ls 6 [(0, .ref o), (1, .int x1), (3, .int x3), (4, .int x4)] → g_W E A s H locs (wsR E o ad w) → W p l e ({ frames := 4, cells := 0, slots := 0, locals := 92 }) s m ([.ref o, .int a1, .int a2] : List Value).toArray below meth c H locs 0 0 (MQ below (va_Qi (fun (r' : Int32) (u' : va_W) => r' = r ∧ u' = wsR E o ad w') (g_B E A) A) ([.ref o, .int a1, .int a2] : List Value).toArray s 0 0 A) (F0 m 74 ls []) := by
        intro w x1 x3 x4 ls H locs hf hl X
        unfold fR_playThing_74 at hf
        refine lv_iinc (v := x4 + (1 : Int32)) (lv' := [(4, .int (x4 + (1 : Int32))), (0, .ref o), (1, .int x1), (3, .int x3)]) hx hb dX8_playThing_74 hl (k := 3) rfl rfl (by decide) rfl (fun ls hl => ?_)
        refine lv_goto (tgt := 42) hx hb dX8_playThing_77 (by decide) ?_
        exact ih42 w x1 x3 (x4 + (1 : Int32)) ls H locs hf (lv_sub hl [1, 2, 3, 0] rfl) X
      unfold fR_playThing_42 at hf
      refine lv_iload hx hb dX8_playThing_42 (lv_at hl 3 rfl) ?_
      refine lv_aload_n hx hb dX8_playThing_44 rfl (lv_at hl 0 rfl) ?_
      refine lv_iload_n hx hb dX8_playThing_45 rfl (lv_at hl 1 rfl) ?_
      obtain ⟨q46, e46, hf⟩ := g_be hf
      refine g_calli X (g_runV (As := [.int x1]) (rest := [.int x4]) C X (cR_lengthOf l E A o ad w q46.2 q46.1 x1 e46) kX8_lengthOf m_775 0 6 rfl rfl hl.1 rfl ⟨Nat.le_of_ble_eq_true rfl, Nat.le_of_ble_eq_true rfl⟩ rfl (Nat.le_of_ble_eq_true rfl) dX8_playThing_46 ⟨Nat.le_of_ble_eq_true rfl, Nat.le_of_ble_eq_true rfl⟩) rfl rfl (fun H locs X => ?_)
      refine lv_icmp_ge (tgt := 80) hx hb dX8_playThing_49 (by decide) (fun c49 => ?_) (fun c49 => ?_)
      · have hf := g_t hf c49
        refine lv_iload_n hx hb dX8_playThing_80 rfl (lv_at hl 2 rfl) ?_
        exact g_iret (wsR E o ad) C hr hk X hf dX8_playThing_81
      · have hf := g_f hf c49
        refine lv_aload_n hx hb dX8_playThing_52 rfl (lv_at hl 0 rfl) ?_
        refine lv_iload_n hx hb dX8_playThing_53 rfl (lv_at hl 1 rfl) ?_
        refine lv_iload hx hb dX8_playThing_54 (lv_at hl 3 rfl) ?_
        obtain ⟨q56, e56, hf⟩ := g_be hf
        refine g_calli X (g_runV (As := [.int x1, .int x4]) (rest := []) C X (cR_thingAt l E A o ad q46.2 q56.2 q56.1 x1 x4 e56) kX8_thingAt m_783 0 6 rfl rfl hl.1 rfl ⟨Nat.le_of_ble_eq_true rfl, Nat.le_of_ble_eq_true rfl⟩ rfl (Nat.le_of_ble_eq_true rfl) dX8_playThing_56 ⟨Nat.le_of_ble_eq_true rfl, Nat.le_of_ble_eq_true rfl⟩) rfl rfl (fun H locs X => ?_)
        refine lv_istore (lv' := [(5, .int q56.1), (0, .ref o), (1, .int x1), (3, .int x3), (4, .int x4)]) hx hb dX8_playThing_59 hl (by decide) rfl (fun ls hl => ?_)
        refine lv_iload hx hb dX8_playThing_61 (lv_at hl 0 rfl) ?_
        refine lv_if_lt (tgt := 74) hx hb dX8_playThing_63 (by decide) (fun c63 => ?_) (fun c63 => ?_)
        · have hf := g_t hf c63
          exact j74 q56.2 x1 x3 x4 ls H locs hf (lv_sub hl [1, 2, 3, 4] rfl) X
        · have hf := g_f hf c63
          refine lv_aload_n hx hb dX8_playThing_66 rfl (lv_at hl 1 rfl) ?_
          refine lv_iload hx hb dX8_playThing_67 (lv_at hl 0 rfl) ?_
          refine lv_iload_n hx hb dX8_playThing_69 rfl (lv_at hl 3 rfl) ?_
          obtain ⟨q70, e70, hf⟩ := g_be hf
          refine g_calli X (g_runV (As := [.int q56.1, .int x3]) (rest := []) C X (cR_playRow l E A o ad q56.2 q70.2 q70.1 q56.1 x3 e70) kX8_playRow m_837 0 6 rfl rfl hl.1 rfl ⟨Nat.le_of_ble_eq_true rfl, Nat.le_of_ble_eq_true rfl⟩ rfl (Nat.le_of_ble_eq_true rfl) dX8_playThing_70 ⟨Nat.le_of_ble_eq_true rfl, Nat.le_of_ble_eq_true rfl⟩) rfl rfl (fun H locs X => ?_)
          refine lv_istore_n (lv' := [(3, .int q70.1), (5, .int q56.1), (0, .ref o), (1, .int x1), (4, .int x4)]) hx hb dX8_playThing_73 rfl hl (by decide) rfl (fun ls hl => ?_)
          exact j74 q70.2 x1 q70.1 x4 ls H locs hf (lv_sub hl [2, 3, 0, 4] rfl) X
  unfold fR_playThing at hf
  refine lv_aload_n hx hb dX8_playThing_0 rfl (lv_at hl 0 rfl) ?_
  refine lv_aload_n hx hb dX8_playThing_1 rfl (lv_at hl 0 rfl) ?_
  refine lv_iload_n hx hb dX8_playThing_2 rfl (lv_at hl 1 rfl) ?_
  obtain ⟨q3, e3, hf⟩ := g_be hf
  refine g_calli X (g_runV (As := [.int a1]) (rest := [.ref o]) C X (cR_kindOf l E A o ad w q3.2 q3.1 a1 e3) kX8_kindOf m_764 0 6 rfl rfl hl.1 rfl ⟨Nat.le_of_ble_eq_true rfl, Nat.le_of_ble_eq_true rfl⟩ rfl (Nat.le_of_ble_eq_true rfl) dX8_playThing_3 ⟨Nat.le_of_ble_eq_true rfl, Nat.le_of_ble_eq_true rfl⟩) rfl rfl (fun H locs X => ?_)
  obtain ⟨q6, e6, hf⟩ := g_be hf
  refine g_calli X (g_runV (As := [.int q3.1]) (rest := []) C X (cR_isPart l E A o ad q3.2 q6.2 q6.1 q3.1 e6) kX8_isPart m_726 0 6 rfl rfl hl.1 rfl ⟨Nat.le_of_ble_eq_true rfl, Nat.le_of_ble_eq_true rfl⟩ rfl (Nat.le_of_ble_eq_true rfl) dX8_playThing_6 ⟨Nat.le_of_ble_eq_true rfl, Nat.le_of_ble_eq_true rfl⟩) rfl rfl (fun H locs X => ?_)
  refine lv_if_eq (tgt := 19) hx hb dX8_playThing_9 (by decide) (fun c9 => ?_) (fun c9 => ?_)
  · have hf := g_t hf c9
    refine lv_aload_n hx hb dX8_playThing_19 rfl (lv_at hl 0 rfl) ?_
    refine lv_iload_n hx hb dX8_playThing_20 rfl (lv_at hl 1 rfl) ?_
    obtain ⟨q21, e21, hf⟩ := g_be hf
    refine g_calli X (g_runV (As := [.int a1]) (rest := []) C X (cR_kindOf l E A o ad q6.2 q21.2 q21.1 a1 e21) kX8_kindOf m_764 0 6 rfl rfl hl.1 rfl ⟨Nat.le_of_ble_eq_true rfl, Nat.le_of_ble_eq_true rfl⟩ rfl (Nat.le_of_ble_eq_true rfl) dX8_playThing_21 ⟨Nat.le_of_ble_eq_true rfl, Nat.le_of_ble_eq_true rfl⟩) rfl rfl (fun H locs X => ?_)
    obtain ⟨q24, e24, hf⟩ := g_be hf
    refine g_calli X (g_runS (As := [.int q21.1]) (rest := []) C X (cR_isBoard l E A o ad q21.2 q24.2 q24.1 q21.1 e24) kX8_isBoard m_741 hl.1 rfl ⟨Nat.le_of_ble_eq_true rfl, Nat.le_of_ble_eq_true rfl⟩ rfl (Nat.le_of_ble_eq_true rfl) dX8_playThing_24 ⟨Nat.le_of_ble_eq_true rfl, Nat.le_of_ble_eq_true rfl⟩) rfl rfl (fun H locs X => ?_)
    refine lv_if_ne (tgt := 37) hx hb dX8_playThing_27 (by decide) (fun c27 => ?_) (fun c27 => ?_)
    · have hf := g_f hf c27
      refine lv_iload_n hx hb dX8_playThing_37 rfl (lv_at hl 2 rfl) ?_
      refine lv_istore_n (lv' := [(3, .int a2), (0, .ref o), (1, .int a1), (2, .int a2)]) hx hb dX8_playThing_38 rfl hl (by decide) rfl (fun ls hl => ?_)
      refine lv_iconst (v := 0) hx hb dX8_playThing_39 (by decide) ?_
      refine lv_istore (lv' := [(4, .int (0 : Int32)), (3, .int a2), (0, .ref o), (1, .int a1), (2, .int a2)]) hx hb dX8_playThing_40 hl (by decide) rfl (fun ls hl => ?_)
      exact j42 g_fuel q24.2 a1 a2 (0 : Int32) ls H locs hf (lv_sub hl [2, 3, 1, 0] rfl) X
    · have hf := g_t hf c27
      refine lv_aload_n hx hb dX8_playThing_30 rfl (lv_at hl 0 rfl) ?_
      refine lv_iload_n hx hb dX8_playThing_31 rfl (lv_at hl 1 rfl) ?_
      refine lv_iload_n hx hb dX8_playThing_32 rfl (lv_at hl 2 rfl) ?_
      obtain ⟨q33, e33, hf⟩ := g_be hf
      refine g_calli X (g_runV (As := [.int a1, .int a2]) (rest := []) C X (cR_playRow l E A o ad q24.2 q33.2 q33.1 a1 a2 e33) kX8_playRow m_837 0 6 rfl rfl hl.1 rfl ⟨Nat.le_of_ble_eq_true rfl, Nat.le_of_ble_eq_true rfl⟩ rfl (Nat.le_of_ble_eq_true rfl) dX8_playThing_33 ⟨Nat.le_of_ble_eq_true rfl, Nat.le_of_ble_eq_true rfl⟩) rfl rfl (fun H locs X => ?_)
      exact g_iret (wsR E o ad) C hr hk X hf dX8_playThing_36
  · have hf := g_f hf c9
    refine lv_aload_n hx hb dX8_playThing_12 rfl (lv_at hl 0 rfl) ?_
    refine lv_iload_n hx hb dX8_playThing_13 rfl (lv_at hl 1 rfl) ?_
    refine lv_iload_n hx hb dX8_playThing_14 rfl (lv_at hl 2 rfl) ?_
    obtain ⟨q15, e15, hf⟩ := g_be hf
    refine g_calli X (g_runV (As := [.int a1, .int a2]) (rest := []) C X (cR_turn l E A o ad q6.2 q15.2 q15.1 a1 a2 e15) kX8_turn m_826 0 6 rfl rfl hl.1 rfl ⟨Nat.le_of_ble_eq_true rfl, Nat.le_of_ble_eq_true rfl⟩ rfl (Nat.le_of_ble_eq_true rfl) dX8_playThing_15 ⟨Nat.le_of_ble_eq_true rfl, Nat.le_of_ble_eq_true rfl⟩) rfl rfl (fun H locs X => ?_)
    exact g_iret (wsR E o ad) C hr hk X hf dX8_playThing_18
set_option maxRecDepth 100000 in
set_option maxHeartbeats 4000000 in
theorem cR_calmRow (l : Launch) (E : g_Env) (A : Nat → Prop) (o : Nat) (ad : Nat → Nat) (w : RS) (w' : RS) (r : Int32) (a1 : Int32) (hf : fR_calmRow w a1 = some (r, w')) : g_Mi l yX8_calmRow cX8_calmRow 5 ((some .int)) ({ frames := 3, cells := 0, slots := 0, locals := 68 }) E A [.ref o, .int a1] (wsR E o ad w) r (wsR E o ad w') := by
  refine g_start (by decide) (Nat.le_of_ble_eq_true rfl) ?_
  intro p e s m below meth c C hr hk hnm ls hl H locs X
  have hx := C.1.1
  have hb := C.1.2.1
  have hl : lv_has ls 5 [(0, .ref o), (1, .int a1)] := hl
  have j4 : ∀ (n : Nat) (w : RS) (x1 : Int32) (x2 : Int32) (x3 : Int32) (ls : Array Slot) (H : Heap) (locs : List Loc), fR_calmRow_4 n w x1 x2 x3 = some (r, w') → lv_has ls 5 [(0, .ref o), (1, .int x1), (2, .int x2), (3, .int x3)] → g_W E A s H locs (wsR E o ad w) → W p l e ({ frames := 3, cells := 0, slots := 0, locals := 68 }) s m ([.ref o, .int a1] : List Value).toArray below meth c H locs 0 0 (MQ below (va_Qi (fun (r' : Int32) (u' : va_W) => r' = r ∧ u' = wsR E o ad w') (g_B E A) A) ([.ref o, .int a1] : List Value).toArray s 0 0 A) (F0 m 4 ls []) := by
    intro n
    induction n with
    | zero => intro w x1 x2 x3 ls H locs hf; exact absurd hf (by simp [fR_calmRow_4])
    | succ n4 ih4 =>
      intro w x1 x2 x3 ls H locs hf hl X
      have j35 : ∀ (w : RS) (x1 : Int32) (x2 : Int32) (x3 : Int32) (ls : Array Slot) (H : Heap) (locs : List Loc), fR_calmRow_35 (fR_calmRow_4 n4) w x1 x2 x3 = some (r, w') → lv_has ls 5 [(0, .ref o), (1, .int x1), (2, .int x2), (3, .int x3)] → g_W E A s H locs (wsR E o ad w) → W p l e ({ frames := 3, cells := 0, slots := 0, locals := 68 }) s m ([.ref o, .int a1] : List Value).toArray below meth c H locs 0 0 (MQ below (va_Qi (fun (r' : Int32) (u' : va_W) => r' = r ∧ u' = wsR E o ad w') (g_B E A) A) ([.ref o, .int a1] : List Value).toArray s 0 0 A) (F0 m 35 ls []) := by
        intro w x1 x2 x3 ls H locs hf hl X
        unfold fR_calmRow_35 at hf
        refine lv_iinc (v := x3 + (1 : Int32)) (lv' := [(3, .int (x3 + (1 : Int32))), (0, .ref o), (1, .int x1), (2, .int x2)]) hx hb dX8_calmRow_35 hl (k := 3) rfl rfl (by decide) rfl (fun ls hl => ?_)
        refine lv_goto (tgt := 4) hx hb dX8_calmRow_38 (by decide) ?_
        exact ih4 w x1 x2 (x3 + (1 : Int32)) ls H locs hf (lv_sub hl [1, 2, 3, 0] rfl) X
      unfold fR_calmRow_4 at hf
      refine lv_iload_n hx hb dX8_calmRow_4 rfl (lv_at hl 3 rfl) ?_
      refine lv_aload_n hx hb dX8_calmRow_5 rfl (lv_at hl 0 rfl) ?_
      refine lv_iload_n hx hb dX8_calmRow_6 rfl (lv_at hl 1 rfl) ?_
      obtain ⟨q7, e7, hf⟩ := g_be hf
      refine g_calli X (g_runV (As := [.int x1]) (rest := [.int x3]) C X (cR_lengthOf l E A o ad w q7.2 q7.1 x1 e7) kX8_lengthOf m_775 0 6 rfl rfl hl.1 rfl ⟨Nat.le_of_ble_eq_true rfl, Nat.le_of_ble_eq_true rfl⟩ rfl (Nat.le_of_ble_eq_true rfl) dX8_calmRow_7 ⟨Nat.le_of_ble_eq_true rfl, Nat.le_of_ble_eq_true rfl⟩) rfl rfl (fun H locs X => ?_)
      refine lv_icmp_ge (tgt := 41) hx hb dX8_calmRow_10 (by decide) (fun c10 => ?_) (fun c10 => ?_)
      · have hf := g_t hf c10
        refine lv_iload_n hx hb dX8_calmRow_41 rfl (lv_at hl 2 rfl) ?_
        exact g_iret (wsR E o ad) C hr hk X hf dX8_calmRow_42
      · have hf := g_f hf c10
        refine lv_aload_n hx hb dX8_calmRow_13 rfl (lv_at hl 0 rfl) ?_
        refine lv_iload_n hx hb dX8_calmRow_14 rfl (lv_at hl 1 rfl) ?_
        refine lv_iload_n hx hb dX8_calmRow_15 rfl (lv_at hl 3 rfl) ?_
        obtain ⟨q16, e16, hf⟩ := g_be hf
        refine g_calli X (g_runV (As := [.int x1, .int x3]) (rest := []) C X (cR_thingAt l E A o ad q7.2 q16.2 q16.1 x1 x3 e16) kX8_thingAt m_783 0 6 rfl rfl hl.1 rfl ⟨Nat.le_of_ble_eq_true rfl, Nat.le_of_ble_eq_true rfl⟩ rfl (Nat.le_of_ble_eq_true rfl) dX8_calmRow_16 ⟨Nat.le_of_ble_eq_true rfl, Nat.le_of_ble_eq_true rfl⟩) rfl rfl (fun H locs X => ?_)
        refine lv_istore (lv' := [(4, .int q16.1), (0, .ref o), (1, .int x1), (2, .int x2), (3, .int x3)]) hx hb dX8_calmRow_19 hl (by decide) rfl (fun ls hl => ?_)
        refine lv_iload hx hb dX8_calmRow_21 (lv_at hl 0 rfl) ?_
        refine lv_if_lt (tgt := 35) hx hb dX8_calmRow_23 (by decide) (fun c23 => ?_) (fun c23 => ?_)
        · have hf := g_t hf c23
          exact j35 q16.2 x1 x2 x3 ls H locs hf (lv_sub hl [1, 2, 3, 4] rfl) X
        · have hf := g_f hf c23
          refine lv_aload_n hx hb dX8_calmRow_26 rfl (lv_at hl 1 rfl) ?_
          refine lv_iload hx hb dX8_calmRow_27 (lv_at hl 0 rfl) ?_
          obtain ⟨q29, e29, hf⟩ := g_be hf
          refine g_callv X (g_runV (As := [.int q16.1]) (rest := []) C X (cR_calm l E A o ad q16.2 q29  q16.1 e29) kX8_calm m_857 0 6 rfl rfl hl.1 rfl ⟨Nat.le_of_ble_eq_true rfl, Nat.le_of_ble_eq_true rfl⟩ rfl (Nat.le_of_ble_eq_true rfl) dX8_calmRow_29 ⟨Nat.le_of_ble_eq_true rfl, Nat.le_of_ble_eq_true rfl⟩) rfl rfl (fun H locs X => ?_)
          refine lv_iinc (v := x2 + (1 : Int32)) (lv' := [(2, .int (x2 + (1 : Int32))), (4, .int q16.1), (0, .ref o), (1, .int x1), (3, .int x3)]) hx hb dX8_calmRow_32 hl (k := 3) rfl rfl (by decide) rfl (fun ls hl => ?_)
          exact j35 q29 x1 (x2 + (1 : Int32)) x3 ls H locs hf (lv_sub hl [2, 3, 0, 4] rfl) X
  unfold fR_calmRow at hf
  refine lv_iconst (v := 0) hx hb dX8_calmRow_0 (by decide) ?_
  refine lv_istore_n (lv' := [(2, .int (0 : Int32)), (0, .ref o), (1, .int a1)]) hx hb dX8_calmRow_1 rfl hl (by decide) rfl (fun ls hl => ?_)
  refine lv_iconst (v := 0) hx hb dX8_calmRow_2 (by decide) ?_
  refine lv_istore_n (lv' := [(3, .int (0 : Int32)), (2, .int (0 : Int32)), (0, .ref o), (1, .int a1)]) hx hb dX8_calmRow_3 rfl hl (by decide) rfl (fun ls hl => ?_)
  exact j4 g_fuel w a1 (0 : Int32) (0 : Int32) ls H locs hf (lv_sub hl [2, 3, 1, 0] rfl) X
set_option maxRecDepth 100000 in
set_option maxHeartbeats 4000000 in
theorem cR_makeNew (l : Launch) (E : g_Env) (A : Nat → Prop) (o : Nat) (ad : Nat → Nat) (w : RS) (w' : RS) (r : Int32) (a1 : Int32) (a2 : Int32) (a3 : Int32) (hf : fR_makeNew w a1 a2 a3 = some (r, w')) : g_Mi l yX8_makeNew cX8_makeNew 6 ((some .int)) ({ frames := 3, cells := 0, slots := 0, locals := 67 }) E A [.ref o, .int a1, .int a2, .int a3] (wsR E o ad w) r (wsR E o ad w') := by
  refine g_start (by decide) (Nat.le_of_ble_eq_true rfl) ?_
  intro p e s m below meth c C hr hk hnm ls hl H locs X
  have hx := C.1.1
  have hb := C.1.2.1
  have hl : lv_has ls 6 [(0, .ref o), (1, .int a1), (2, .int a2), (3, .int a3)] := hl
  have j181 : ∀ (w : RS) (x1 : Int32) (x4 : Int32) (t2 : Int32) (t1 : Int32) (ls : Array Slot) (H : Heap) (locs : List Loc), fR_makeNew_181 w x1 x4 t2 t1 = some (r, w') → lv_has ls 6 [(0, .ref o), (1, .int x1), (4, .int x4)] → g_W E A s H locs (wsR E o ad w) → W p l e ({ frames := 3, cells := 0, slots := 0, locals := 67 }) s m ([.ref o, .int a1, .int a2, .int a3] : List Value).toArray below meth c H locs 0 0 (MQ below (va_Qi (fun (r' : Int32) (u' : va_W) => r' = r ∧ u' = wsR E o ad w') (g_B E A) A) ([.ref o, .int a1, .int a2, .int a3] : List Value).toArray s 0 0 A) (F0 m 181 ls [.int t2, .int t1, .ref (ad 2)]) := by
    intro w x1 x4 t2 t1 ls H locs hf hl X
    unfold fR_makeNew_181 at hf
    obtain ⟨h181, hf⟩ := g_cke hf
    obtain ⟨w181, e181, hf⟩ := g_le hf
    refine g_iast C X 3 rfl h181 dX8_makeNew_181 (ws2 := wsR E o ad w181) (by subst e181; rfl) (fun H locs X => ?_)
    refine lv_aload_n hx hb dX8_makeNew_182 rfl (lv_at hl 0 rfl) ?_
    refine g_get C X g_iX8 0 rfl rfl 2 (by decide) rfl m_643 rfl dX8_makeNew_183 ?_
    refine lv_sipush (v := 540) hx hb dX8_makeNew_186 (by decide) ?_
    refine lv_iload_n hx hb dX8_makeNew_189 rfl (lv_at hl 1 rfl) ?_
    refine lv_iadd hx hb dX8_makeNew_190 ?_
    refine lv_iload hx hb dX8_makeNew_191 (lv_at hl 2 rfl) ?_
    refine lv_iconst (v := 1) hx hb dX8_makeNew_193 (by decide) ?_
    refine lv_iadd hx hb dX8_makeNew_194 ?_
    obtain ⟨h195, hf⟩ := g_cke hf
    obtain ⟨w195, e195, hf⟩ := g_le hf
    refine g_iast C X 3 rfl h195 dX8_makeNew_195 (ws2 := wsR E o ad w195) (by subst e195; rfl) (fun H locs X => ?_)
    refine lv_aload_n hx hb dX8_makeNew_196 rfl (lv_at hl 0 rfl) ?_
    refine g_get C X g_iX8 0 rfl rfl 2 (by decide) rfl m_643 rfl dX8_makeNew_197 ?_
    refine lv_sipush (v := 556) hx hb dX8_makeNew_200 (by decide) ?_
    refine lv_dup2_11 hx hb dX8_makeNew_203 rfl rfl ?_
    obtain ⟨h204, hf⟩ := g_cke hf
    obtain ⟨v204, e204, hf⟩ := g_le hf
    refine g_iald C X 3 rfl h204 e204 dX8_makeNew_204 ?_
    refine lv_iconst (v := 1) hx hb dX8_makeNew_205 (by decide) ?_
    refine lv_iadd hx hb dX8_makeNew_206 ?_
    obtain ⟨h207, hf⟩ := g_cke hf
    obtain ⟨w207, e207, hf⟩ := g_le hf
    refine g_iast C X 3 rfl h207 dX8_makeNew_207 (ws2 := wsR E o ad w207) (by subst e207; rfl) (fun H locs X => ?_)
    refine lv_iload hx hb dX8_makeNew_208 (lv_at hl 2 rfl) ?_
    exact g_iret (wsR E o ad) C hr hk X hf dX8_makeNew_210
  have j157 : ∀ (w : RS) (x1 : Int32) (x2 : Int32) (x4 : Int32) (t2 : Int32) (t1 : Int32) (ls : Array Slot) (H : Heap) (locs : List Loc), fR_makeNew_157 w x1 x2 x4 t2 t1 = some (r, w') → lv_has ls 6 [(0, .ref o), (1, .int x1), (2, .int x2), (4, .int x4)] → g_W E A s H locs (wsR E o ad w) → W p l e ({ frames := 3, cells := 0, slots := 0, locals := 67 }) s m ([.ref o, .int a1, .int a2, .int a3] : List Value).toArray below meth c H locs 0 0 (MQ below (va_Qi (fun (r' : Int32) (u' : va_W) => r' = r ∧ u' = wsR E o ad w') (g_B E A) A) ([.ref o, .int a1, .int a2, .int a3] : List Value).toArray s 0 0 A) (F0 m 157 ls [.int t2, .int t1, .ref (ad 2)]) := by
    intro w x1 x2 x4 t2 t1 ls H locs hf hl X
    unfold fR_makeNew_157 at hf
    obtain ⟨h157, hf⟩ := g_cke hf
    obtain ⟨w157, e157, hf⟩ := g_le hf
    refine g_iast C X 3 rfl h157 dX8_makeNew_157 (ws2 := wsR E o ad w157) (by subst e157; rfl) (fun H locs X => ?_)
    refine lv_aload_n hx hb dX8_makeNew_158 rfl (lv_at hl 0 rfl) ?_
    refine g_get C X g_iX8 0 rfl rfl 2 (by decide) rfl m_643 rfl dX8_makeNew_159 ?_
    refine lv_bipush (v := 120) hx hb dX8_makeNew_162 (by decide) ?_
    refine lv_iload hx hb dX8_makeNew_164 (lv_at hl 3 rfl) ?_
    refine lv_iadd hx hb dX8_makeNew_166 ?_
    refine lv_aload_n hx hb dX8_makeNew_167 rfl (lv_at hl 0 rfl) ?_
    refine lv_iload_n hx hb dX8_makeNew_168 rfl (lv_at hl 2 rfl) ?_
    obtain ⟨q169, e169, hf⟩ := g_be hf
    refine g_calli X (g_runV (As := [.int x2]) (rest := [.int ((120 : Int32) + x4), .ref (ad 2)]) C X (cR_isPart l E A o ad w157 q169.2 q169.1 x2 e169) kX8_isPart m_726 0 6 rfl rfl hl.1 rfl ⟨Nat.le_of_ble_eq_true rfl, Nat.le_of_ble_eq_true rfl⟩ rfl (Nat.le_of_ble_eq_true rfl) dX8_makeNew_169 ⟨Nat.le_of_ble_eq_true rfl, Nat.le_of_ble_eq_true rfl⟩) rfl rfl (fun H locs X => ?_)
    refine lv_if_eq (tgt := 180) hx hb dX8_makeNew_172 (by decide) (fun c172 => ?_) (fun c172 => ?_)
    · have hf := g_t hf c172
      refine lv_iconst (v := 0) hx hb dX8_makeNew_180 (by decide) ?_
      exact j181 q169.2 x1 x4 (0 : Int32) ((120 : Int32) + x4) ls H locs hf (lv_sub hl [0, 1, 3] rfl) X
    · have hf := g_f hf c172
      refine lv_bipush (v := 8) hx hb dX8_makeNew_175 (by decide) ?_
      refine lv_goto (tgt := 181) hx hb dX8_makeNew_177 (by decide) ?_
      exact j181 q169.2 x1 x4 (8 : Int32) ((120 : Int32) + x4) ls H locs hf (lv_sub hl [0, 1, 3] rfl) X
  have j100 : ∀ (n : Nat) (w : RS) (x1 : Int32) (x2 : Int32) (x3 : Int32) (x4 : Int32) (x5 : Int32) (ls : Array Slot) (H : Heap) (locs : List Loc), fR_makeNew_100 n w x1 x2 x3 x4 x5 = some (r, w') → lv_has ls 6 [(0, .ref o), (1, .int x1), (2, .int x2), (3, .int x3), (4, .int x4), (5, .int x5)] → g_W E A s H locs (wsR E o ad w) → W p l e ({ frames := 3, cells := 0, slots := 0, locals := 67 }) s m ([.ref o, .int a1, .int a2, .int a3] : List Value).toArray below meth c H locs 0 0 (MQ below (va_Qi (fun (r' : Int32) (u' : va_W) => r' = r ∧ u' = wsR E o ad w') (g_B E A) A) ([.ref o, .int a1, .int a2, .int a3] : List Value).toArray s 0 0 A) (F0 m 100 ls []) := by
    intro n
    induction n with
    | zero => intro w x1 x2 x3 x4 x5 ls H locs hf; exact absurd hf (by simp [fR_makeNew_100])
    | succ n100 ih100 =>
      intro w x1 x2 x3 x4 x5 ls H locs hf hl X
      unfold fR_makeNew_100 at hf
      refine lv_iload hx hb dX8_makeNew_100 (lv_at hl 5 rfl) ?_
      refine lv_bipush (v := 12) hx hb dX8_makeNew_102 (by decide) ?_
      refine lv_icmp_ge (tgt := 127) hx hb dX8_makeNew_104 (by decide) (fun c104 => ?_) (fun c104 => ?_)
      · have hf := g_t hf c104
        refine lv_aload_n hx hb dX8_makeNew_127 rfl (lv_at hl 0 rfl) ?_
        refine g_get C X g_iX8 0 rfl rfl 2 (by decide) rfl m_643 rfl dX8_makeNew_128 ?_
        refine lv_iconst (v := 0) hx hb dX8_makeNew_131 (by decide) ?_
        refine lv_iload hx hb dX8_makeNew_132 (lv_at hl 4 rfl) ?_
        refine lv_iadd hx hb dX8_makeNew_134 ?_
        refine lv_iload_n hx hb dX8_makeNew_135 rfl (lv_at hl 2 rfl) ?_
        obtain ⟨h136, hf⟩ := g_cke hf
        obtain ⟨w136, e136, hf⟩ := g_le hf
        refine g_iast C X 3 rfl h136 dX8_makeNew_136 (ws2 := wsR E o ad w136) (by subst e136; rfl) (fun H locs X => ?_)
        refine lv_aload_n hx hb dX8_makeNew_137 rfl (lv_at hl 0 rfl) ?_
        refine g_get C X g_iX8 0 rfl rfl 2 (by decide) rfl m_643 rfl dX8_makeNew_138 ?_
        refine lv_bipush (v := 60) hx hb dX8_makeNew_141 (by decide) ?_
        refine lv_iload hx hb dX8_makeNew_143 (lv_at hl 4 rfl) ?_
        refine lv_iadd hx hb dX8_makeNew_145 ?_
        refine lv_iload_n hx hb dX8_makeNew_146 rfl (lv_at hl 2 rfl) ?_
        refine lv_bipush (v := 13) hx hb dX8_makeNew_147 (by decide) ?_
        refine lv_icmp_lt (tgt := 156) hx hb dX8_makeNew_149 (by decide) (fun c149 => ?_) (fun c149 => ?_)
        · have hf := g_t hf c149
          refine lv_iconst (v := 0) hx hb dX8_makeNew_156 (by decide) ?_
          exact j157 w136 x1 x2 x4 (0 : Int32) ((60 : Int32) + x4) ls H locs hf (lv_sub hl [0, 1, 2, 4] rfl) X
        · have hf := g_f hf c149
          refine lv_iload_n hx hb dX8_makeNew_152 rfl (lv_at hl 3 rfl) ?_
          refine lv_goto (tgt := 157) hx hb dX8_makeNew_153 (by decide) ?_
          exact j157 w136 x1 x2 x4 x3 ((60 : Int32) + x4) ls H locs hf (lv_sub hl [0, 1, 2, 4] rfl) X
      · have hf := g_f hf c104
        refine lv_aload_n hx hb dX8_makeNew_107 rfl (lv_at hl 0 rfl) ?_
        refine g_get C X g_iX8 0 rfl rfl 3 (by decide) rfl m_644 rfl dX8_makeNew_108 ?_
        refine lv_bipush (v := 12) hx hb dX8_makeNew_111 (by decide) ?_
        refine lv_iload hx hb dX8_makeNew_113 (lv_at hl 4 rfl) ?_
        refine lv_imul hx hb dX8_makeNew_115 ?_
        refine lv_iload hx hb dX8_makeNew_116 (lv_at hl 5 rfl) ?_
        refine lv_iadd hx hb dX8_makeNew_118 ?_
        refine lv_lconst (v := 0) hx hb dX8_makeNew_119 (by decide) ?_
        obtain ⟨h120, hf⟩ := g_cke hf
        obtain ⟨w120, e120, hf⟩ := g_le hf
        refine g_last C X 4 rfl h120 dX8_makeNew_120 (ws2 := wsR E o ad w120) (by subst e120; rfl) (fun H locs X => ?_)
        refine lv_iinc (v := x5 + (1 : Int32)) (lv' := [(5, .int (x5 + (1 : Int32))), (0, .ref o), (1, .int x1), (2, .int x2), (3, .int x3), (4, .int x4)]) hx hb dX8_makeNew_121 hl (k := 5) rfl rfl (by decide) rfl (fun ls hl => ?_)
        refine lv_goto (tgt := 100) hx hb dX8_makeNew_124 (by decide) ?_
        exact ih100 w120 x1 x2 x3 x4 (x5 + (1 : Int32)) ls H locs hf (lv_sub hl [1, 2, 3, 4, 5, 0] rfl) X
  have j72 : ∀ (n : Nat) (w : RS) (x1 : Int32) (x2 : Int32) (x3 : Int32) (x4 : Int32) (x5 : Int32) (ls : Array Slot) (H : Heap) (locs : List Loc), fR_makeNew_72 n w x1 x2 x3 x4 x5 = some (r, w') → lv_has ls 6 [(0, .ref o), (1, .int x1), (2, .int x2), (3, .int x3), (4, .int x4), (5, .int x5)] → g_W E A s H locs (wsR E o ad w) → W p l e ({ frames := 3, cells := 0, slots := 0, locals := 67 }) s m ([.ref o, .int a1, .int a2, .int a3] : List Value).toArray below meth c H locs 0 0 (MQ below (va_Qi (fun (r' : Int32) (u' : va_W) => r' = r ∧ u' = wsR E o ad w') (g_B E A) A) ([.ref o, .int a1, .int a2, .int a3] : List Value).toArray s 0 0 A) (F0 m 72 ls []) := by
    intro n
    induction n with
    | zero => intro w x1 x2 x3 x4 x5 ls H locs hf; exact absurd hf (by simp [fR_makeNew_72])
    | succ n72 ih72 =>
      intro w x1 x2 x3 x4 x5 ls H locs hf hl X
      unfold fR_makeNew_72 at hf
      refine lv_iload hx hb dX8_makeNew_72 (lv_at hl 5 rfl) ?_
      refine lv_sipush (v := 540) hx hb dX8_makeNew_74 (by decide) ?_
      refine lv_icmp_ge (tgt := 97) hx hb dX8_makeNew_77 (by decide) (fun c77 => ?_) (fun c77 => ?_)
      · have hf := g_t hf c77
        refine lv_iconst (v := 0) hx hb dX8_makeNew_97 (by decide) ?_
        refine lv_istore (lv' := [(5, .int (0 : Int32)), (0, .ref o), (1, .int x1), (2, .int x2), (3, .int x3), (4, .int x4)]) hx hb dX8_makeNew_98 hl (by decide) rfl (fun ls hl => ?_)
        exact j100 g_fuel w x1 x2 x3 x4 (0 : Int32) ls H locs hf (lv_sub hl [1, 2, 3, 4, 5, 0] rfl) X
      · have hf := g_f hf c77
        refine lv_aload_n hx hb dX8_makeNew_80 rfl (lv_at hl 0 rfl) ?_
        refine g_get C X g_iX8 0 rfl rfl 2 (by decide) rfl m_643 rfl dX8_makeNew_81 ?_
        refine lv_iload hx hb dX8_makeNew_84 (lv_at hl 5 rfl) ?_
        refine lv_iload hx hb dX8_makeNew_86 (lv_at hl 4 rfl) ?_
        refine lv_iadd hx hb dX8_makeNew_88 ?_
        refine lv_iconst (v := 0) hx hb dX8_makeNew_89 (by decide) ?_
        obtain ⟨h90, hf⟩ := g_cke hf
        obtain ⟨w90, e90, hf⟩ := g_le hf
        refine g_iast C X 3 rfl h90 dX8_makeNew_90 (ws2 := wsR E o ad w90) (by subst e90; rfl) (fun H locs X => ?_)
        refine lv_iinc (v := x5 + (60 : Int32)) (lv' := [(5, .int (x5 + (60 : Int32))), (0, .ref o), (1, .int x1), (2, .int x2), (3, .int x3), (4, .int x4)]) hx hb dX8_makeNew_91 hl (k := 5) rfl rfl (by decide) rfl (fun ls hl => ?_)
        refine lv_goto (tgt := 72) hx hb dX8_makeNew_94 (by decide) ?_
        exact ih72 w90 x1 x2 x3 x4 (x5 + (60 : Int32)) ls H locs hf (lv_sub hl [1, 2, 3, 4, 5, 0] rfl) X
  unfold fR_makeNew at hf
  refine lv_iload_n hx hb dX8_makeNew_0 rfl (lv_at hl 1 rfl) ?_
  obtain ⟨q1, e1, hf⟩ := g_be hf
  refine g_calli X (g_runS (As := [.int a1]) (rest := []) C X (cR_isShelf l E A o ad w q1.2 q1.1 a1 e1) kX8_isShelf m_723 hl.1 rfl ⟨Nat.le_of_ble_eq_true rfl, Nat.le_of_ble_eq_true rfl⟩ rfl (Nat.le_of_ble_eq_true rfl) dX8_makeNew_1 ⟨Nat.le_of_ble_eq_true rfl, Nat.le_of_ble_eq_true rfl⟩) rfl rfl (fun H locs X => ?_)
  refine lv_if_eq (tgt := 33) hx hb dX8_makeNew_4 (by decide) (fun c4 => ?_) (fun c4 => ?_)
  · have hf := g_t hf c4
    refine lv_aload_n hx hb dX8_makeNew_33 rfl (lv_at hl 0 rfl) ?_
    refine lv_iconst (v := 1) hx hb dX8_makeNew_34 (by decide) ?_
    obtain ⟨q35, e35, hf⟩ := g_be hf
    refine g_calli X (g_runV (As := [.int (1 : Int32)]) (rest := []) C X (cR_refuse l E A o ad q1.2 q35.2 q35.1 (1 : Int32) e35) kX8_refuse m_708 0 6 rfl rfl hl.1 rfl ⟨Nat.le_of_ble_eq_true rfl, Nat.le_of_ble_eq_true rfl⟩ rfl (Nat.le_of_ble_eq_true rfl) dX8_makeNew_35 ⟨Nat.le_of_ble_eq_true rfl, Nat.le_of_ble_eq_true rfl⟩) rfl rfl (fun H locs X => ?_)
    exact g_iret (wsR E o ad) C hr hk X hf dX8_makeNew_38
  · have hf := g_f hf c4
    refine lv_iload_n hx hb dX8_makeNew_7 rfl (lv_at hl 2 rfl) ?_
    refine lv_if_lt (tgt := 33) hx hb dX8_makeNew_8 (by decide) (fun c8 => ?_) (fun c8 => ?_)
    · have hf := g_t hf c8
      refine lv_aload_n hx hb dX8_makeNew_33 rfl (lv_at hl 0 rfl) ?_
      refine lv_iconst (v := 1) hx hb dX8_makeNew_34 (by decide) ?_
      obtain ⟨q35, e35, hf⟩ := g_be hf
      refine g_calli X (g_runV (As := [.int (1 : Int32)]) (rest := []) C X (cR_refuse l E A o ad q1.2 q35.2 q35.1 (1 : Int32) e35) kX8_refuse m_708 0 6 rfl rfl hl.1 rfl ⟨Nat.le_of_ble_eq_true rfl, Nat.le_of_ble_eq_true rfl⟩ rfl (Nat.le_of_ble_eq_true rfl) dX8_makeNew_35 ⟨Nat.le_of_ble_eq_true rfl, Nat.le_of_ble_eq_true rfl⟩) rfl rfl (fun H locs X => ?_)
      exact g_iret (wsR E o ad) C hr hk X hf dX8_makeNew_38
    · have hf := g_f hf c8
      refine lv_iload_n hx hb dX8_makeNew_11 rfl (lv_at hl 2 rfl) ?_
      refine lv_bipush (v := 24) hx hb dX8_makeNew_12 (by decide) ?_
      refine lv_icmp_gt (tgt := 33) hx hb dX8_makeNew_14 (by decide) (fun c14 => ?_) (fun c14 => ?_)
      · have hf := g_t hf c14
        refine lv_aload_n hx hb dX8_makeNew_33 rfl (lv_at hl 0 rfl) ?_
        refine lv_iconst (v := 1) hx hb dX8_makeNew_34 (by decide) ?_
        obtain ⟨q35, e35, hf⟩ := g_be hf
        refine g_calli X (g_runV (As := [.int (1 : Int32)]) (rest := []) C X (cR_refuse l E A o ad q1.2 q35.2 q35.1 (1 : Int32) e35) kX8_refuse m_708 0 6 rfl rfl hl.1 rfl ⟨Nat.le_of_ble_eq_true rfl, Nat.le_of_ble_eq_true rfl⟩ rfl (Nat.le_of_ble_eq_true rfl) dX8_makeNew_35 ⟨Nat.le_of_ble_eq_true rfl, Nat.le_of_ble_eq_true rfl⟩) rfl rfl (fun H locs X => ?_)
        exact g_iret (wsR E o ad) C hr hk X hf dX8_makeNew_38
      · have hf := g_f hf c14
        refine lv_iload_n hx hb dX8_makeNew_17 rfl (lv_at hl 2 rfl) ?_
        refine lv_bipush (v := 12) hx hb dX8_makeNew_18 (by decide) ?_
        refine lv_icmp_eq (tgt := 33) hx hb dX8_makeNew_20 (by decide) (fun c20 => ?_) (fun c20 => ?_)
        · have hf := g_t hf c20
          refine lv_aload_n hx hb dX8_makeNew_33 rfl (lv_at hl 0 rfl) ?_
          refine lv_iconst (v := 1) hx hb dX8_makeNew_34 (by decide) ?_
          obtain ⟨q35, e35, hf⟩ := g_be hf
          refine g_calli X (g_runV (As := [.int (1 : Int32)]) (rest := []) C X (cR_refuse l E A o ad q1.2 q35.2 q35.1 (1 : Int32) e35) kX8_refuse m_708 0 6 rfl rfl hl.1 rfl ⟨Nat.le_of_ble_eq_true rfl, Nat.le_of_ble_eq_true rfl⟩ rfl (Nat.le_of_ble_eq_true rfl) dX8_makeNew_35 ⟨Nat.le_of_ble_eq_true rfl, Nat.le_of_ble_eq_true rfl⟩) rfl rfl (fun H locs X => ?_)
          exact g_iret (wsR E o ad) C hr hk X hf dX8_makeNew_38
        · have hf := g_f hf c20
          refine lv_iload_n hx hb dX8_makeNew_23 rfl (lv_at hl 3 rfl) ?_
          refine lv_if_lt (tgt := 33) hx hb dX8_makeNew_24 (by decide) (fun c24 => ?_) (fun c24 => ?_)
          · have hf := g_t hf c24
            refine lv_aload_n hx hb dX8_makeNew_33 rfl (lv_at hl 0 rfl) ?_
            refine lv_iconst (v := 1) hx hb dX8_makeNew_34 (by decide) ?_
            obtain ⟨q35, e35, hf⟩ := g_be hf
            refine g_calli X (g_runV (As := [.int (1 : Int32)]) (rest := []) C X (cR_refuse l E A o ad q1.2 q35.2 q35.1 (1 : Int32) e35) kX8_refuse m_708 0 6 rfl rfl hl.1 rfl ⟨Nat.le_of_ble_eq_true rfl, Nat.le_of_ble_eq_true rfl⟩ rfl (Nat.le_of_ble_eq_true rfl) dX8_makeNew_35 ⟨Nat.le_of_ble_eq_true rfl, Nat.le_of_ble_eq_true rfl⟩) rfl rfl (fun H locs X => ?_)
            exact g_iret (wsR E o ad) C hr hk X hf dX8_makeNew_38
          · have hf := g_f hf c24
            refine lv_iload_n hx hb dX8_makeNew_27 rfl (lv_at hl 3 rfl) ?_
            refine lv_bipush (v := 12) hx hb dX8_makeNew_28 (by decide) ?_
            refine lv_icmp_le (tgt := 39) hx hb dX8_makeNew_30 (by decide) (fun c30 => ?_) (fun c30 => ?_)
            · have hf := g_t hf c30
              refine lv_aload_n hx hb dX8_makeNew_39 rfl (lv_at hl 0 rfl) ?_
              refine g_get C X g_iX8 0 rfl rfl 2 (by decide) rfl m_643 rfl dX8_makeNew_40 ?_
              refine lv_sipush (v := 556) hx hb dX8_makeNew_43 (by decide) ?_
              obtain ⟨h46, hf⟩ := g_cke hf
              obtain ⟨v46, e46, hf⟩ := g_le hf
              refine g_iald C X 3 rfl h46 e46 dX8_makeNew_46 ?_
              refine lv_bipush (v := 60) hx hb dX8_makeNew_47 (by decide) ?_
              refine lv_icmp_ne (tgt := 59) hx hb dX8_makeNew_49 (by decide) (fun c49 => ?_) (fun c49 => ?_)
              · have hf := g_f hf c49
                refine lv_aload_n hx hb dX8_makeNew_59 rfl (lv_at hl 0 rfl) ?_
                refine g_get C X g_iX8 0 rfl rfl 2 (by decide) rfl m_643 rfl dX8_makeNew_60 ?_
                refine lv_sipush (v := 556) hx hb dX8_makeNew_63 (by decide) ?_
                obtain ⟨h66, hf⟩ := g_cke hf
                obtain ⟨v66, e66, hf⟩ := g_le hf
                refine g_iald C X 3 rfl h66 e66 dX8_makeNew_66 ?_
                refine lv_istore (lv' := [(4, .int v66), (0, .ref o), (1, .int a1), (2, .int a2), (3, .int a3)]) hx hb dX8_makeNew_67 hl (by decide) rfl (fun ls hl => ?_)
                refine lv_iconst (v := 0) hx hb dX8_makeNew_69 (by decide) ?_
                refine lv_istore (lv' := [(5, .int (0 : Int32)), (4, .int v66), (0, .ref o), (1, .int a1), (2, .int a2), (3, .int a3)]) hx hb dX8_makeNew_70 hl (by decide) rfl (fun ls hl => ?_)
                exact j72 g_fuel q1.2 a1 a2 a3 v66 (0 : Int32) ls H locs hf (lv_sub hl [2, 3, 4, 5, 1, 0] rfl) X
              · have hf := g_t hf c49
                refine lv_aload_n hx hb dX8_makeNew_52 rfl (lv_at hl 0 rfl) ?_
                refine lv_bipush (v := 6) hx hb dX8_makeNew_53 (by decide) ?_
                obtain ⟨q55, e55, hf⟩ := g_be hf
                refine g_calli X (g_runV (As := [.int (6 : Int32)]) (rest := []) C X (cR_refuse l E A o ad q1.2 q55.2 q55.1 (6 : Int32) e55) kX8_refuse m_708 0 6 rfl rfl hl.1 rfl ⟨Nat.le_of_ble_eq_true rfl, Nat.le_of_ble_eq_true rfl⟩ rfl (Nat.le_of_ble_eq_true rfl) dX8_makeNew_55 ⟨Nat.le_of_ble_eq_true rfl, Nat.le_of_ble_eq_true rfl⟩) rfl rfl (fun H locs X => ?_)
                exact g_iret (wsR E o ad) C hr hk X hf dX8_makeNew_58
            · have hf := g_f hf c30
              refine lv_aload_n hx hb dX8_makeNew_33 rfl (lv_at hl 0 rfl) ?_
              refine lv_iconst (v := 1) hx hb dX8_makeNew_34 (by decide) ?_
              obtain ⟨q35, e35, hf⟩ := g_be hf
              refine g_calli X (g_runV (As := [.int (1 : Int32)]) (rest := []) C X (cR_refuse l E A o ad q1.2 q35.2 q35.1 (1 : Int32) e35) kX8_refuse m_708 0 6 rfl rfl hl.1 rfl ⟨Nat.le_of_ble_eq_true rfl, Nat.le_of_ble_eq_true rfl⟩ rfl (Nat.le_of_ble_eq_true rfl) dX8_makeNew_35 ⟨Nat.le_of_ble_eq_true rfl, Nat.le_of_ble_eq_true rfl⟩) rfl rfl (fun H locs X => ?_)
              exact g_iret (wsR E o ad) C hr hk X hf dX8_makeNew_38
set_option maxRecDepth 100000 in
set_option maxHeartbeats 4000000 in
theorem cR_layOn (l : Launch) (E : g_Env) (A : Nat → Prop) (o : Nat) (ad : Nat → Nat) (w : RS) (w' : RS) (r : Int32) (a1 : Int32) (a2 : Int32) (hf : fR_layOn w a1 a2 = some (r, w')) : g_Mi l yX8_layOn cX8_layOn 3 ((some .int)) ({ frames := 1, cells := 0, slots := 0, locals := 21 }) E A [.ref o, .int a1, .int a2] (wsR E o ad w) r (wsR E o ad w') := by
  refine g_start (by decide) (Nat.le_of_ble_eq_true rfl) ?_
  intro p e s m below meth c C hr hk hnm ls hl H locs X
  have hx := C.1.1
  have hb := C.1.2.1
  have hl : lv_has ls 3 [(0, .ref o), (1, .int a1), (2, .int a2)] := hl
  unfold fR_layOn at hf
  refine lv_iload_n hx hb dX8_layOn_0 rfl (lv_at hl 1 rfl) ?_
  obtain ⟨q1, e1, hf⟩ := g_be hf
  refine g_calli X (g_runS (As := [.int a1]) (rest := []) C X (cR_isShelf l E A o ad w q1.2 q1.1 a1 e1) kX8_isShelf m_723 hl.1 rfl ⟨Nat.le_of_ble_eq_true rfl, Nat.le_of_ble_eq_true rfl⟩ rfl (Nat.le_of_ble_eq_true rfl) dX8_layOn_1 ⟨Nat.le_of_ble_eq_true rfl, Nat.le_of_ble_eq_true rfl⟩) rfl rfl (fun H locs X => ?_)
  refine lv_if_eq (tgt := 14) hx hb dX8_layOn_4 (by decide) (fun c4 => ?_) (fun c4 => ?_)
  · have hf := g_t hf c4
    refine lv_aload_n hx hb dX8_layOn_14 rfl (lv_at hl 0 rfl) ?_
    refine lv_iconst (v := 1) hx hb dX8_layOn_15 (by decide) ?_
    obtain ⟨q16, e16, hf⟩ := g_be hf
    refine g_calli X (g_runV (As := [.int (1 : Int32)]) (rest := []) C X (cR_refuse l E A o ad q1.2 q16.2 q16.1 (1 : Int32) e16) kX8_refuse m_708 0 6 rfl rfl hl.1 rfl ⟨Nat.le_of_ble_eq_true rfl, Nat.le_of_ble_eq_true rfl⟩ rfl (Nat.le_of_ble_eq_true rfl) dX8_layOn_16 ⟨Nat.le_of_ble_eq_true rfl, Nat.le_of_ble_eq_true rfl⟩) rfl rfl (fun H locs X => ?_)
    exact g_iret (wsR E o ad) C hr hk X hf dX8_layOn_19
  · have hf := g_f hf c4
    refine lv_iload_n hx hb dX8_layOn_7 rfl (lv_at hl 2 rfl) ?_
    obtain ⟨q8, e8, hf⟩ := g_be hf
    refine g_calli X (g_runS (As := [.int a2]) (rest := []) C X (cR_isShelf l E A o ad q1.2 q8.2 q8.1 a2 e8) kX8_isShelf m_723 hl.1 rfl ⟨Nat.le_of_ble_eq_true rfl, Nat.le_of_ble_eq_true rfl⟩ rfl (Nat.le_of_ble_eq_true rfl) dX8_layOn_8 ⟨Nat.le_of_ble_eq_true rfl, Nat.le_of_ble_eq_true rfl⟩) rfl rfl (fun H locs X => ?_)
    refine lv_if_ne (tgt := 20) hx hb dX8_layOn_11 (by decide) (fun c11 => ?_) (fun c11 => ?_)
    · have hf := g_f hf c11
      refine lv_aload_n hx hb dX8_layOn_20 rfl (lv_at hl 0 rfl) ?_
      refine g_get C X g_iX8 0 rfl rfl 2 (by decide) rfl m_643 rfl dX8_layOn_21 ?_
      refine lv_sipush (v := 540) hx hb dX8_layOn_24 (by decide) ?_
      refine lv_iload_n hx hb dX8_layOn_27 rfl (lv_at hl 2 rfl) ?_
      refine lv_iadd hx hb dX8_layOn_28 ?_
      refine lv_aload_n hx hb dX8_layOn_29 rfl (lv_at hl 0 rfl) ?_
      refine g_get C X g_iX8 0 rfl rfl 2 (by decide) rfl m_643 rfl dX8_layOn_30 ?_
      refine lv_sipush (v := 540) hx hb dX8_layOn_33 (by decide) ?_
      refine lv_iload_n hx hb dX8_layOn_36 rfl (lv_at hl 1 rfl) ?_
      refine lv_iadd hx hb dX8_layOn_37 ?_
      obtain ⟨h38, hf⟩ := g_cke hf
      obtain ⟨v38, e38, hf⟩ := g_le hf
      refine g_iald C X 3 rfl h38 e38 dX8_layOn_38 ?_
      obtain ⟨h39, hf⟩ := g_cke hf
      obtain ⟨w39, e39, hf⟩ := g_le hf
      refine g_iast C X 3 rfl h39 dX8_layOn_39 (ws2 := wsR E o ad w39) (by subst e39; rfl) (fun H locs X => ?_)
      refine lv_aload_n hx hb dX8_layOn_40 rfl (lv_at hl 0 rfl) ?_
      refine g_get C X g_iX8 0 rfl rfl 2 (by decide) rfl m_643 rfl dX8_layOn_41 ?_
      refine lv_sipush (v := 540) hx hb dX8_layOn_44 (by decide) ?_
      refine lv_iload_n hx hb dX8_layOn_47 rfl (lv_at hl 2 rfl) ?_
      refine lv_iadd hx hb dX8_layOn_48 ?_
      obtain ⟨h49, hf⟩ := g_cke hf
      obtain ⟨v49, e49, hf⟩ := g_le hf
      refine g_iald C X 3 rfl h49 e49 dX8_layOn_49 ?_
      refine lv_if_le (tgt := 57) hx hb dX8_layOn_50 (by decide) (fun c50 => ?_) (fun c50 => ?_)
      · have hf := g_t hf c50
        refine lv_iconst (v := 0) hx hb dX8_layOn_57 (by decide) ?_
        exact g_iret (wsR E o ad) C hr hk X hf dX8_layOn_58
      · have hf := g_f hf c50
        refine lv_iconst (v := 1) hx hb dX8_layOn_53 (by decide) ?_
        refine lv_goto (tgt := 58) hx hb dX8_layOn_54 (by decide) ?_
        exact g_iret (wsR E o ad) C hr hk X hf dX8_layOn_58
    · have hf := g_t hf c11
      refine lv_aload_n hx hb dX8_layOn_14 rfl (lv_at hl 0 rfl) ?_
      refine lv_iconst (v := 1) hx hb dX8_layOn_15 (by decide) ?_
      obtain ⟨q16, e16, hf⟩ := g_be hf
      refine g_calli X (g_runV (As := [.int (1 : Int32)]) (rest := []) C X (cR_refuse l E A o ad q8.2 q16.2 q16.1 (1 : Int32) e16) kX8_refuse m_708 0 6 rfl rfl hl.1 rfl ⟨Nat.le_of_ble_eq_true rfl, Nat.le_of_ble_eq_true rfl⟩ rfl (Nat.le_of_ble_eq_true rfl) dX8_layOn_16 ⟨Nat.le_of_ble_eq_true rfl, Nat.le_of_ble_eq_true rfl⟩) rfl rfl (fun H locs X => ?_)
      exact g_iret (wsR E o ad) C hr hk X hf dX8_layOn_19
set_option maxRecDepth 100000 in
set_option maxHeartbeats 4000000 in
theorem cR_reasonOfPlace (l : Launch) (E : g_Env) (A : Nat → Prop) (o : Nat) (ad : Nat → Nat) (w : RS) (w' : RS) (r : Int32) (a1 : Int32) (a2 : Int32) (hf : fR_reasonOfPlace w a1 a2 = some (r, w')) : g_Mi l yX8_reasonOfPlace cX8_reasonOfPlace 3 ((some .int)) ({ frames := 2, cells := 0, slots := 0, locals := 43 }) E A [.ref o, .int a1, .int a2] (wsR E o ad w) r (wsR E o ad w') := by
  refine g_start (by decide) (Nat.le_of_ble_eq_true rfl) ?_
  intro p e s m below meth c C hr hk hnm ls hl H locs X
  have hx := C.1.1
  have hb := C.1.2.1
  have hl : lv_has ls 3 [(0, .ref o), (1, .int a1), (2, .int a2)] := hl
  unfold fR_reasonOfPlace at hf
  refine lv_aload_n hx hb dX8_reasonOfPlace_0 rfl (lv_at hl 0 rfl) ?_
  refine lv_iload_n hx hb dX8_reasonOfPlace_1 rfl (lv_at hl 1 rfl) ?_
  obtain ⟨q2, e2, hf⟩ := g_be hf
  refine g_calli X (g_runV (As := [.int a1]) (rest := []) C X (cR_on l E A o ad w q2.2 q2.1 a1 e2) kX8_on m_760 0 6 rfl rfl hl.1 rfl ⟨Nat.le_of_ble_eq_true rfl, Nat.le_of_ble_eq_true rfl⟩ rfl (Nat.le_of_ble_eq_true rfl) dX8_reasonOfPlace_2 ⟨Nat.le_of_ble_eq_true rfl, Nat.le_of_ble_eq_true rfl⟩) rfl rfl (fun H locs X => ?_)
  refine lv_if_ge (tgt := 10) hx hb dX8_reasonOfPlace_5 (by decide) (fun c5 => ?_) (fun c5 => ?_)
  · have hf := g_t hf c5
    refine lv_aload_n hx hb dX8_reasonOfPlace_10 rfl (lv_at hl 0 rfl) ?_
    refine lv_aload_n hx hb dX8_reasonOfPlace_11 rfl (lv_at hl 0 rfl) ?_
    refine lv_iload_n hx hb dX8_reasonOfPlace_12 rfl (lv_at hl 1 rfl) ?_
    obtain ⟨q13, e13, hf⟩ := g_be hf
    refine g_calli X (g_runV (As := [.int a1]) (rest := [.ref o]) C X (cR_on l E A o ad q2.2 q13.2 q13.1 a1 e13) kX8_on m_760 0 6 rfl rfl hl.1 rfl ⟨Nat.le_of_ble_eq_true rfl, Nat.le_of_ble_eq_true rfl⟩ rfl (Nat.le_of_ble_eq_true rfl) dX8_reasonOfPlace_13 ⟨Nat.le_of_ble_eq_true rfl, Nat.le_of_ble_eq_true rfl⟩) rfl rfl (fun H locs X => ?_)
    obtain ⟨q16, e16, hf⟩ := g_be hf
    refine g_calli X (g_runV (As := [.int q13.1]) (rest := []) C X (cR_kindOf l E A o ad q13.2 q16.2 q16.1 q13.1 e16) kX8_kindOf m_764 0 6 rfl rfl hl.1 rfl ⟨Nat.le_of_ble_eq_true rfl, Nat.le_of_ble_eq_true rfl⟩ rfl (Nat.le_of_ble_eq_true rfl) dX8_reasonOfPlace_16 ⟨Nat.le_of_ble_eq_true rfl, Nat.le_of_ble_eq_true rfl⟩) rfl rfl (fun H locs X => ?_)
    obtain ⟨q19, e19, hf⟩ := g_be hf
    refine g_calli X (g_runS (As := [.int q16.1]) (rest := []) C X (cR_isRowOfThings l E A o ad q16.2 q19.2 q19.1 q16.1 e19) kX8_isRowOfThings m_768 hl.1 rfl ⟨Nat.le_of_ble_eq_true rfl, Nat.le_of_ble_eq_true rfl⟩ rfl (Nat.le_of_ble_eq_true rfl) dX8_reasonOfPlace_19 ⟨Nat.le_of_ble_eq_true rfl, Nat.le_of_ble_eq_true rfl⟩) rfl rfl (fun H locs X => ?_)
    refine lv_if_ne (tgt := 27) hx hb dX8_reasonOfPlace_22 (by decide) (fun c22 => ?_) (fun c22 => ?_)
    · have hf := g_f hf c22
      refine lv_aload_n hx hb dX8_reasonOfPlace_27 rfl (lv_at hl 0 rfl) ?_
      refine lv_aload_n hx hb dX8_reasonOfPlace_28 rfl (lv_at hl 0 rfl) ?_
      refine lv_iload_n hx hb dX8_reasonOfPlace_29 rfl (lv_at hl 1 rfl) ?_
      obtain ⟨q30, e30, hf⟩ := g_be hf
      refine g_calli X (g_runV (As := [.int a1]) (rest := [.ref o]) C X (cR_on l E A o ad q19.2 q30.2 q30.1 a1 e30) kX8_on m_760 0 6 rfl rfl hl.1 rfl ⟨Nat.le_of_ble_eq_true rfl, Nat.le_of_ble_eq_true rfl⟩ rfl (Nat.le_of_ble_eq_true rfl) dX8_reasonOfPlace_30 ⟨Nat.le_of_ble_eq_true rfl, Nat.le_of_ble_eq_true rfl⟩) rfl rfl (fun H locs X => ?_)
      refine lv_iload_n hx hb dX8_reasonOfPlace_33 rfl (lv_at hl 2 rfl) ?_
      obtain ⟨q34, e34, hf⟩ := g_be hf
      refine g_calli X (g_runV (As := [.int q30.1, .int a2]) (rest := []) C X (cR_hasPlace l E A o ad q30.2 q34.2 q34.1 q30.1 a2 e34) kX8_hasPlace m_771 0 6 rfl rfl hl.1 rfl ⟨Nat.le_of_ble_eq_true rfl, Nat.le_of_ble_eq_true rfl⟩ rfl (Nat.le_of_ble_eq_true rfl) dX8_reasonOfPlace_34 ⟨Nat.le_of_ble_eq_true rfl, Nat.le_of_ble_eq_true rfl⟩) rfl rfl (fun H locs X => ?_)
      refine lv_if_eq (tgt := 44) hx hb dX8_reasonOfPlace_37 (by decide) (fun c37 => ?_) (fun c37 => ?_)
      · have hf := g_t hf c37
        refine lv_iconst (v := 4) hx hb dX8_reasonOfPlace_44 (by decide) ?_
        exact g_iret (wsR E o ad) C hr hk X hf dX8_reasonOfPlace_45
      · have hf := g_f hf c37
        refine lv_iconst (v := 0) hx hb dX8_reasonOfPlace_40 (by decide) ?_
        refine lv_goto (tgt := 45) hx hb dX8_reasonOfPlace_41 (by decide) ?_
        exact g_iret (wsR E o ad) C hr hk X hf dX8_reasonOfPlace_45
    · have hf := g_t hf c22
      refine lv_iconst (v := 3) hx hb dX8_reasonOfPlace_25 (by decide) ?_
      exact g_iret (wsR E o ad) C hr hk X hf dX8_reasonOfPlace_26
  · have hf := g_f hf c5
    refine lv_iconst (v := 2) hx hb dX8_reasonOfPlace_8 (by decide) ?_
    exact g_iret (wsR E o ad) C hr hk X hf dX8_reasonOfPlace_9
set_option maxRecDepth 100000 in
set_option maxHeartbeats 4000000 in
theorem cR_plugIn (l : Launch) (E : g_Env) (A : Nat → Prop) (o : Nat) (ad : Nat → Nat) (w : RS) (w' : RS) (r : Int32) (a1 : Int32) (a2 : Int32) (a3 : Int32) (hf : fR_plugIn w a1 a2 a3 = some (r, w')) : g_Mi l yX8_plugIn cX8_plugIn 8 ((some .int)) ({ frames := 3, cells := 0, slots := 0, locals := 70 }) E A [.ref o, .int a1, .int a2, .int a3] (wsR E o ad w) r (wsR E o ad w') := by
  refine g_start (by decide) (Nat.le_of_ble_eq_true rfl) ?_
  intro p e s m below meth c C hr hk hnm ls hl H locs X
  have hx := C.1.1
  have hb := C.1.2.1
  have hl : lv_has ls 8 [(0, .ref o), (1, .int a1), (2, .int a2), (3, .int a3)] := hl
  have j95 : ∀ (w : RS) (x1 : Int32) (x2 : Int32) (x5 : Int64) (t0 : Int32) (ls : Array Slot) (H : Heap) (locs : List Loc), fR_plugIn_95 w x1 x2 x5 t0 = some (r, w') → lv_has ls 8 [(0, .ref o), (1, .int x1), (2, .int x2), (5, .long x5)] → g_W E A s H locs (wsR E o ad w) → W p l e ({ frames := 3, cells := 0, slots := 0, locals := 70 }) s m ([.ref o, .int a1, .int a2, .int a3] : List Value).toArray below meth c H locs 0 0 (MQ below (va_Qi (fun (r' : Int32) (u' : va_W) => r' = r ∧ u' = wsR E o ad w') (g_B E A) A) ([.ref o, .int a1, .int a2, .int a3] : List Value).toArray s 0 0 A) (F0 m 95 ls [.int t0]) := by
    intro w x1 x2 x5 t0 ls H locs hf hl X
    unfold fR_plugIn_95 at hf
    refine lv_istore (lv' := [(7, .int t0), (0, .ref o), (1, .int x1), (2, .int x2), (5, .long x5)]) hx hb dX8_plugIn_95 hl (by decide) rfl (fun ls hl => ?_)
    refine lv_aload_n hx hb dX8_plugIn_97 rfl (lv_at hl 1 rfl) ?_
    refine g_get C X g_iX8 0 rfl rfl 3 (by decide) rfl m_644 rfl dX8_plugIn_98 ?_
    refine lv_bipush (v := 12) hx hb dX8_plugIn_101 (by decide) ?_
    refine lv_aload_n hx hb dX8_plugIn_103 rfl (lv_at hl 1 rfl) ?_
    refine lv_iload_n hx hb dX8_plugIn_104 rfl (lv_at hl 2 rfl) ?_
    obtain ⟨q105, e105, hf⟩ := g_be hf
    refine g_calli X (g_runV (As := [.int x1]) (rest := [.int (12 : Int32), .ref (ad 3)]) C X (cR_on l E A o ad w q105.2 q105.1 x1 e105) kX8_on m_760 0 6 rfl rfl hl.1 rfl ⟨Nat.le_of_ble_eq_true rfl, Nat.le_of_ble_eq_true rfl⟩ rfl (Nat.le_of_ble_eq_true rfl) dX8_plugIn_105 ⟨Nat.le_of_ble_eq_true rfl, Nat.le_of_ble_eq_true rfl⟩) rfl rfl (fun H locs X => ?_)
    refine lv_imul hx hb dX8_plugIn_108 ?_
    refine lv_iload_n hx hb dX8_plugIn_109 rfl (lv_at hl 3 rfl) ?_
    refine lv_iadd hx hb dX8_plugIn_110 ?_
    refine lv_lload hx hb dX8_plugIn_111 (lv_at hl 4 rfl) ?_
    obtain ⟨h113, hf⟩ := g_cke hf
    obtain ⟨w113, e113, hf⟩ := g_le hf
    refine g_last C X 4 rfl h113 dX8_plugIn_113 (ws2 := wsR E o ad w113) (by subst e113; rfl) (fun H locs X => ?_)
    refine lv_iload hx hb dX8_plugIn_114 (lv_at hl 0 rfl) ?_
    exact g_iret (wsR E o ad) C hr hk X hf dX8_plugIn_116
  unfold fR_plugIn at hf
  refine lv_iload_n hx hb dX8_plugIn_0 rfl (lv_at hl 1 rfl) ?_
  obtain ⟨q1, e1, hf⟩ := g_be hf
  refine g_calli X (g_runS (As := [.int a1]) (rest := []) C X (cR_isShelf l E A o ad w q1.2 q1.1 a1 e1) kX8_isShelf m_723 hl.1 rfl ⟨Nat.le_of_ble_eq_true rfl, Nat.le_of_ble_eq_true rfl⟩ rfl (Nat.le_of_ble_eq_true rfl) dX8_plugIn_1 ⟨Nat.le_of_ble_eq_true rfl, Nat.le_of_ble_eq_true rfl⟩) rfl rfl (fun H locs X => ?_)
  refine lv_if_eq (tgt := 14) hx hb dX8_plugIn_4 (by decide) (fun c4 => ?_) (fun c4 => ?_)
  · have hf := g_t hf c4
    refine lv_aload_n hx hb dX8_plugIn_14 rfl (lv_at hl 0 rfl) ?_
    refine lv_iconst (v := 1) hx hb dX8_plugIn_15 (by decide) ?_
    obtain ⟨q16, e16, hf⟩ := g_be hf
    refine g_calli X (g_runV (As := [.int (1 : Int32)]) (rest := []) C X (cR_refuse l E A o ad q1.2 q16.2 q16.1 (1 : Int32) e16) kX8_refuse m_708 0 6 rfl rfl hl.1 rfl ⟨Nat.le_of_ble_eq_true rfl, Nat.le_of_ble_eq_true rfl⟩ rfl (Nat.le_of_ble_eq_true rfl) dX8_plugIn_16 ⟨Nat.le_of_ble_eq_true rfl, Nat.le_of_ble_eq_true rfl⟩) rfl rfl (fun H locs X => ?_)
    exact g_iret (wsR E o ad) C hr hk X hf dX8_plugIn_19
  · have hf := g_f hf c4
    refine lv_iload_n hx hb dX8_plugIn_7 rfl (lv_at hl 3 rfl) ?_
    obtain ⟨q8, e8, hf⟩ := g_be hf
    refine g_calli X (g_runS (As := [.int a3]) (rest := []) C X (cR_isShelf l E A o ad q1.2 q8.2 q8.1 a3 e8) kX8_isShelf m_723 hl.1 rfl ⟨Nat.le_of_ble_eq_true rfl, Nat.le_of_ble_eq_true rfl⟩ rfl (Nat.le_of_ble_eq_true rfl) dX8_plugIn_8 ⟨Nat.le_of_ble_eq_true rfl, Nat.le_of_ble_eq_true rfl⟩) rfl rfl (fun H locs X => ?_)
    refine lv_if_ne (tgt := 20) hx hb dX8_plugIn_11 (by decide) (fun c11 => ?_) (fun c11 => ?_)
    · have hf := g_f hf c11
      refine lv_aload_n hx hb dX8_plugIn_20 rfl (lv_at hl 0 rfl) ?_
      refine lv_iload_n hx hb dX8_plugIn_21 rfl (lv_at hl 1 rfl) ?_
      refine lv_iload_n hx hb dX8_plugIn_22 rfl (lv_at hl 2 rfl) ?_
      obtain ⟨q23, e23, hf⟩ := g_be hf
      refine g_calli X (g_runV (As := [.int a1, .int a2]) (rest := []) C X (cR_reasonOfPlace l E A o ad q8.2 q23.2 q23.1 a1 a2 e23) kX8_reasonOfPlace m_756 0 6 rfl rfl hl.1 rfl ⟨Nat.le_of_ble_eq_true rfl, Nat.le_of_ble_eq_true rfl⟩ rfl (Nat.le_of_ble_eq_true rfl) dX8_plugIn_23 ⟨Nat.le_of_ble_eq_true rfl, Nat.le_of_ble_eq_true rfl⟩) rfl rfl (fun H locs X => ?_)
      refine lv_istore (lv' := [(4, .int q23.1), (0, .ref o), (1, .int a1), (2, .int a2), (3, .int a3)]) hx hb dX8_plugIn_26 hl (by decide) rfl (fun ls hl => ?_)
      refine lv_iload hx hb dX8_plugIn_28 (lv_at hl 0 rfl) ?_
      refine lv_if_le (tgt := 40) hx hb dX8_plugIn_30 (by decide) (fun c30 => ?_) (fun c30 => ?_)
      · have hf := g_t hf c30
        refine lv_aload_n hx hb dX8_plugIn_40 rfl (lv_at hl 1 rfl) ?_
        refine g_get C X g_iX8 0 rfl rfl 2 (by decide) rfl m_643 rfl dX8_plugIn_41 ?_
        refine lv_sipush (v := 540) hx hb dX8_plugIn_44 (by decide) ?_
        refine lv_iload_n hx hb dX8_plugIn_47 rfl (lv_at hl 4 rfl) ?_
        refine lv_iadd hx hb dX8_plugIn_48 ?_
        obtain ⟨h49, hf⟩ := g_cke hf
        obtain ⟨v49, e49, hf⟩ := g_le hf
        refine g_iald C X 3 rfl h49 e49 dX8_plugIn_49 ?_
        refine lv_i2l hx hb dX8_plugIn_50 rfl ?_
        refine lv_lstore (lv' := [(5, .long v49.toInt64), (4, .int q23.1), (0, .ref o), (1, .int a1), (2, .int a2), (3, .int a3)]) hx hb dX8_plugIn_51 hl (by decide) rfl (fun ls hl => ?_)
        refine lv_aload_n hx hb dX8_plugIn_53 rfl (lv_at hl 2 rfl) ?_
        refine lv_aload_n hx hb dX8_plugIn_54 rfl (lv_at hl 2 rfl) ?_
        refine lv_aload_n hx hb dX8_plugIn_55 rfl (lv_at hl 2 rfl) ?_
        refine lv_iload_n hx hb dX8_plugIn_56 rfl (lv_at hl 3 rfl) ?_
        obtain ⟨q57, e57, hf⟩ := g_be hf
        refine g_calli X (g_runV (As := [.int a1]) (rest := [.ref o, .ref o]) C X (cR_on l E A o ad q23.2 q57.2 q57.1 a1 e57) kX8_on m_760 0 6 rfl rfl hl.1 rfl ⟨Nat.le_of_ble_eq_true rfl, Nat.le_of_ble_eq_true rfl⟩ rfl (Nat.le_of_ble_eq_true rfl) dX8_plugIn_57 ⟨Nat.le_of_ble_eq_true rfl, Nat.le_of_ble_eq_true rfl⟩) rfl rfl (fun H locs X => ?_)
        obtain ⟨q60, e60, hf⟩ := g_be hf
        refine g_calli X (g_runV (As := [.int q57.1]) (rest := [.ref o]) C X (cR_kindOf l E A o ad q57.2 q60.2 q60.1 q57.1 e60) kX8_kindOf m_764 0 6 rfl rfl hl.1 rfl ⟨Nat.le_of_ble_eq_true rfl, Nat.le_of_ble_eq_true rfl⟩ rfl (Nat.le_of_ble_eq_true rfl) dX8_plugIn_60 ⟨Nat.le_of_ble_eq_true rfl, Nat.le_of_ble_eq_true rfl⟩) rfl rfl (fun H locs X => ?_)
        refine lv_lload hx hb dX8_plugIn_63 (lv_at hl 0 rfl) ?_
        obtain ⟨q65, e65, hf⟩ := g_be hf
        refine g_calli X (g_runV (As := [.int q60.1, .long v49.toInt64]) (rest := []) C X (cR_fits l E A o ad q60.2 q65.2 q65.1 q60.1 v49.toInt64 e65) kX8_fits m_779 0 6 rfl rfl hl.1 rfl ⟨Nat.le_of_ble_eq_true rfl, Nat.le_of_ble_eq_true rfl⟩ rfl (Nat.le_of_ble_eq_true rfl) dX8_plugIn_65 ⟨Nat.le_of_ble_eq_true rfl, Nat.le_of_ble_eq_true rfl⟩) rfl rfl (fun H locs X => ?_)
        refine lv_if_ne (tgt := 77) hx hb dX8_plugIn_68 (by decide) (fun c68 => ?_) (fun c68 => ?_)
        · have hf := g_f hf c68
          refine lv_aload_n hx hb dX8_plugIn_77 rfl (lv_at hl 2 rfl) ?_
          refine lv_aload_n hx hb dX8_plugIn_78 rfl (lv_at hl 2 rfl) ?_
          refine lv_iload_n hx hb dX8_plugIn_79 rfl (lv_at hl 3 rfl) ?_
          obtain ⟨q80, e80, hf⟩ := g_be hf
          refine g_calli X (g_runV (As := [.int a1]) (rest := [.ref o]) C X (cR_on l E A o ad q65.2 q80.2 q80.1 a1 e80) kX8_on m_760 0 6 rfl rfl hl.1 rfl ⟨Nat.le_of_ble_eq_true rfl, Nat.le_of_ble_eq_true rfl⟩ rfl (Nat.le_of_ble_eq_true rfl) dX8_plugIn_80 ⟨Nat.le_of_ble_eq_true rfl, Nat.le_of_ble_eq_true rfl⟩) rfl rfl (fun H locs X => ?_)
          refine lv_iload_n hx hb dX8_plugIn_83 rfl (lv_at hl 4 rfl) ?_
          obtain ⟨q84, e84, hf⟩ := g_be hf
          refine g_calli X (g_runV (As := [.int q80.1, .int a2]) (rest := []) C X (cR_thingAt l E A o ad q80.2 q84.2 q84.1 q80.1 a2 e84) kX8_thingAt m_783 0 6 rfl rfl hl.1 rfl ⟨Nat.le_of_ble_eq_true rfl, Nat.le_of_ble_eq_true rfl⟩ rfl (Nat.le_of_ble_eq_true rfl) dX8_plugIn_84 ⟨Nat.le_of_ble_eq_true rfl, Nat.le_of_ble_eq_true rfl⟩) rfl rfl (fun H locs X => ?_)
          refine lv_if_lt (tgt := 94) hx hb dX8_plugIn_87 (by decide) (fun c87 => ?_) (fun c87 => ?_)
          · have hf := g_t hf c87
            refine lv_iconst (v := 0) hx hb dX8_plugIn_94 (by decide) ?_
            exact j95 q84.2 a1 a2 v49.toInt64 (0 : Int32) ls H locs hf (lv_sub hl [2, 3, 4, 0] rfl) X
          · have hf := g_f hf c87
            refine lv_iconst (v := 1) hx hb dX8_plugIn_90 (by decide) ?_
            refine lv_goto (tgt := 95) hx hb dX8_plugIn_91 (by decide) ?_
            exact j95 q84.2 a1 a2 v49.toInt64 (1 : Int32) ls H locs hf (lv_sub hl [2, 3, 4, 0] rfl) X
        · have hf := g_t hf c68
          refine lv_aload_n hx hb dX8_plugIn_71 rfl (lv_at hl 2 rfl) ?_
          refine lv_iconst (v := 5) hx hb dX8_plugIn_72 (by decide) ?_
          obtain ⟨q73, e73, hf⟩ := g_be hf
          refine g_calli X (g_runV (As := [.int (5 : Int32)]) (rest := []) C X (cR_refuse l E A o ad q65.2 q73.2 q73.1 (5 : Int32) e73) kX8_refuse m_708 0 6 rfl rfl hl.1 rfl ⟨Nat.le_of_ble_eq_true rfl, Nat.le_of_ble_eq_true rfl⟩ rfl (Nat.le_of_ble_eq_true rfl) dX8_plugIn_73 ⟨Nat.le_of_ble_eq_true rfl, Nat.le_of_ble_eq_true rfl⟩) rfl rfl (fun H locs X => ?_)
          exact g_iret (wsR E o ad) C hr hk X hf dX8_plugIn_76
      · have hf := g_f hf c30
        refine lv_aload_n hx hb dX8_plugIn_33 rfl (lv_at hl 1 rfl) ?_
        refine lv_iload hx hb dX8_plugIn_34 (lv_at hl 0 rfl) ?_
        obtain ⟨q36, e36, hf⟩ := g_be hf
        refine g_calli X (g_runV (As := [.int q23.1]) (rest := []) C X (cR_refuse l E A o ad q23.2 q36.2 q36.1 q23.1 e36) kX8_refuse m_708 0 6 rfl rfl hl.1 rfl ⟨Nat.le_of_ble_eq_true rfl, Nat.le_of_ble_eq_true rfl⟩ rfl (Nat.le_of_ble_eq_true rfl) dX8_plugIn_36 ⟨Nat.le_of_ble_eq_true rfl, Nat.le_of_ble_eq_true rfl⟩) rfl rfl (fun H locs X => ?_)
        exact g_iret (wsR E o ad) C hr hk X hf dX8_plugIn_39
    · have hf := g_t hf c11
      refine lv_aload_n hx hb dX8_plugIn_14 rfl (lv_at hl 0 rfl) ?_
      refine lv_iconst (v := 1) hx hb dX8_plugIn_15 (by decide) ?_
      obtain ⟨q16, e16, hf⟩ := g_be hf
      refine g_calli X (g_runV (As := [.int (1 : Int32)]) (rest := []) C X (cR_refuse l E A o ad q8.2 q16.2 q16.1 (1 : Int32) e16) kX8_refuse m_708 0 6 rfl rfl hl.1 rfl ⟨Nat.le_of_ble_eq_true rfl, Nat.le_of_ble_eq_true rfl⟩ rfl (Nat.le_of_ble_eq_true rfl) dX8_plugIn_16 ⟨Nat.le_of_ble_eq_true rfl, Nat.le_of_ble_eq_true rfl⟩) rfl rfl (fun H locs X => ?_)
      exact g_iret (wsR E o ad) C hr hk X hf dX8_plugIn_19
set_option maxRecDepth 100000 in
set_option maxHeartbeats 4000000 in
theorem cR_pullOut (l : Launch) (E : g_Env) (A : Nat → Prop) (o : Nat) (ad : Nat → Nat) (w : RS) (w' : RS) (r : Int32) (a1 : Int32) (a2 : Int32) (a3 : Int32) (hf : fR_pullOut w a1 a2 a3 = some (r, w')) : g_Mi l yX8_pullOut cX8_pullOut 5 ((some .int)) ({ frames := 3, cells := 0, slots := 0, locals := 65 }) E A [.ref o, .int a1, .int a2, .int a3] (wsR E o ad w) r (wsR E o ad w') := by
  refine g_start (by decide) (Nat.le_of_ble_eq_true rfl) ?_
  intro p e s m below meth c C hr hk hnm ls hl H locs X
  have hx := C.1.1
  have hb := C.1.2.1
  have hl : lv_has ls 5 [(0, .ref o), (1, .int a1), (2, .int a2), (3, .int a3)] := hl
  unfold fR_pullOut at hf
  refine lv_iload_n hx hb dX8_pullOut_0 rfl (lv_at hl 1 rfl) ?_
  obtain ⟨q1, e1, hf⟩ := g_be hf
  refine g_calli X (g_runS (As := [.int a1]) (rest := []) C X (cR_isShelf l E A o ad w q1.2 q1.1 a1 e1) kX8_isShelf m_723 hl.1 rfl ⟨Nat.le_of_ble_eq_true rfl, Nat.le_of_ble_eq_true rfl⟩ rfl (Nat.le_of_ble_eq_true rfl) dX8_pullOut_1 ⟨Nat.le_of_ble_eq_true rfl, Nat.le_of_ble_eq_true rfl⟩) rfl rfl (fun H locs X => ?_)
  refine lv_if_eq (tgt := 14) hx hb dX8_pullOut_4 (by decide) (fun c4 => ?_) (fun c4 => ?_)
  · have hf := g_t hf c4
    refine lv_aload_n hx hb dX8_pullOut_14 rfl (lv_at hl 0 rfl) ?_
    refine lv_iconst (v := 1) hx hb dX8_pullOut_15 (by decide) ?_
    obtain ⟨q16, e16, hf⟩ := g_be hf
    refine g_calli X (g_runV (As := [.int (1 : Int32)]) (rest := []) C X (cR_refuse l E A o ad q1.2 q16.2 q16.1 (1 : Int32) e16) kX8_refuse m_708 0 6 rfl rfl hl.1 rfl ⟨Nat.le_of_ble_eq_true rfl, Nat.le_of_ble_eq_true rfl⟩ rfl (Nat.le_of_ble_eq_true rfl) dX8_pullOut_16 ⟨Nat.le_of_ble_eq_true rfl, Nat.le_of_ble_eq_true rfl⟩) rfl rfl (fun H locs X => ?_)
    exact g_iret (wsR E o ad) C hr hk X hf dX8_pullOut_19
  · have hf := g_f hf c4
    refine lv_iload_n hx hb dX8_pullOut_7 rfl (lv_at hl 3 rfl) ?_
    obtain ⟨q8, e8, hf⟩ := g_be hf
    refine g_calli X (g_runS (As := [.int a3]) (rest := []) C X (cR_isShelf l E A o ad q1.2 q8.2 q8.1 a3 e8) kX8_isShelf m_723 hl.1 rfl ⟨Nat.le_of_ble_eq_true rfl, Nat.le_of_ble_eq_true rfl⟩ rfl (Nat.le_of_ble_eq_true rfl) dX8_pullOut_8 ⟨Nat.le_of_ble_eq_true rfl, Nat.le_of_ble_eq_true rfl⟩) rfl rfl (fun H locs X => ?_)
    refine lv_if_ne (tgt := 20) hx hb dX8_pullOut_11 (by decide) (fun c11 => ?_) (fun c11 => ?_)
    · have hf := g_f hf c11
      refine lv_aload_n hx hb dX8_pullOut_20 rfl (lv_at hl 0 rfl) ?_
      refine lv_iload_n hx hb dX8_pullOut_21 rfl (lv_at hl 1 rfl) ?_
      refine lv_iload_n hx hb dX8_pullOut_22 rfl (lv_at hl 2 rfl) ?_
      obtain ⟨q23, e23, hf⟩ := g_be hf
      refine g_calli X (g_runV (As := [.int a1, .int a2]) (rest := []) C X (cR_reasonOfPlace l E A o ad q8.2 q23.2 q23.1 a1 a2 e23) kX8_reasonOfPlace m_756 0 6 rfl rfl hl.1 rfl ⟨Nat.le_of_ble_eq_true rfl, Nat.le_of_ble_eq_true rfl⟩ rfl (Nat.le_of_ble_eq_true rfl) dX8_pullOut_23 ⟨Nat.le_of_ble_eq_true rfl, Nat.le_of_ble_eq_true rfl⟩) rfl rfl (fun H locs X => ?_)
      refine lv_istore (lv' := [(4, .int q23.1), (0, .ref o), (1, .int a1), (2, .int a2), (3, .int a3)]) hx hb dX8_pullOut_26 hl (by decide) rfl (fun ls hl => ?_)
      refine lv_iload hx hb dX8_pullOut_28 (lv_at hl 0 rfl) ?_
      refine lv_if_le (tgt := 40) hx hb dX8_pullOut_30 (by decide) (fun c30 => ?_) (fun c30 => ?_)
      · have hf := g_t hf c30
        refine lv_aload_n hx hb dX8_pullOut_40 rfl (lv_at hl 1 rfl) ?_
        refine g_get C X g_iX8 0 rfl rfl 2 (by decide) rfl m_643 rfl dX8_pullOut_41 ?_
        refine lv_sipush (v := 540) hx hb dX8_pullOut_44 (by decide) ?_
        refine lv_iload_n hx hb dX8_pullOut_47 rfl (lv_at hl 4 rfl) ?_
        refine lv_iadd hx hb dX8_pullOut_48 ?_
        refine lv_aload_n hx hb dX8_pullOut_49 rfl (lv_at hl 1 rfl) ?_
        refine g_get C X g_iX8 0 rfl rfl 3 (by decide) rfl m_644 rfl dX8_pullOut_50 ?_
        refine lv_bipush (v := 12) hx hb dX8_pullOut_53 (by decide) ?_
        refine lv_aload_n hx hb dX8_pullOut_55 rfl (lv_at hl 1 rfl) ?_
        refine lv_iload_n hx hb dX8_pullOut_56 rfl (lv_at hl 2 rfl) ?_
        obtain ⟨q57, e57, hf⟩ := g_be hf
        refine g_calli X (g_runV (As := [.int a1]) (rest := [.int (12 : Int32), .ref (ad 3), .int ((540 : Int32) + a3), .ref (ad 2)]) C X (cR_on l E A o ad q23.2 q57.2 q57.1 a1 e57) kX8_on m_760 0 6 rfl rfl hl.1 rfl ⟨Nat.le_of_ble_eq_true rfl, Nat.le_of_ble_eq_true rfl⟩ rfl (Nat.le_of_ble_eq_true rfl) dX8_pullOut_57 ⟨Nat.le_of_ble_eq_true rfl, Nat.le_of_ble_eq_true rfl⟩) rfl rfl (fun H locs X => ?_)
        refine lv_imul hx hb dX8_pullOut_60 ?_
        refine lv_iload_n hx hb dX8_pullOut_61 rfl (lv_at hl 3 rfl) ?_
        refine lv_iadd hx hb dX8_pullOut_62 ?_
        obtain ⟨h63, hf⟩ := g_cke hf
        obtain ⟨v63, e63, hf⟩ := g_le hf
        refine g_lald C X 4 rfl h63 e63 dX8_pullOut_63 ?_
        refine lv_l2i hx hb dX8_pullOut_64 rfl ?_
        obtain ⟨h65, hf⟩ := g_cke hf
        obtain ⟨w65, e65, hf⟩ := g_le hf
        refine g_iast C X 3 rfl h65 dX8_pullOut_65 (ws2 := wsR E o ad w65) (by subst e65; rfl) (fun H locs X => ?_)
        refine lv_aload_n hx hb dX8_pullOut_66 rfl (lv_at hl 1 rfl) ?_
        refine g_get C X g_iX8 0 rfl rfl 2 (by decide) rfl m_643 rfl dX8_pullOut_67 ?_
        refine lv_sipush (v := 540) hx hb dX8_pullOut_70 (by decide) ?_
        refine lv_iload_n hx hb dX8_pullOut_73 rfl (lv_at hl 4 rfl) ?_
        refine lv_iadd hx hb dX8_pullOut_74 ?_
        obtain ⟨h75, hf⟩ := g_cke hf
        obtain ⟨v75, e75, hf⟩ := g_le hf
        refine g_iald C X 3 rfl h75 e75 dX8_pullOut_75 ?_
        refine lv_if_le (tgt := 83) hx hb dX8_pullOut_76 (by decide) (fun c76 => ?_) (fun c76 => ?_)
        · have hf := g_t hf c76
          refine lv_iconst (v := 0) hx hb dX8_pullOut_83 (by decide) ?_
          exact g_iret (wsR E o ad) C hr hk X hf dX8_pullOut_84
        · have hf := g_f hf c76
          refine lv_iconst (v := 1) hx hb dX8_pullOut_79 (by decide) ?_
          refine lv_goto (tgt := 84) hx hb dX8_pullOut_80 (by decide) ?_
          exact g_iret (wsR E o ad) C hr hk X hf dX8_pullOut_84
      · have hf := g_f hf c30
        refine lv_aload_n hx hb dX8_pullOut_33 rfl (lv_at hl 1 rfl) ?_
        refine lv_iload hx hb dX8_pullOut_34 (lv_at hl 0 rfl) ?_
        obtain ⟨q36, e36, hf⟩ := g_be hf
        refine g_calli X (g_runV (As := [.int q23.1]) (rest := []) C X (cR_refuse l E A o ad q23.2 q36.2 q36.1 q23.1 e36) kX8_refuse m_708 0 6 rfl rfl hl.1 rfl ⟨Nat.le_of_ble_eq_true rfl, Nat.le_of_ble_eq_true rfl⟩ rfl (Nat.le_of_ble_eq_true rfl) dX8_pullOut_36 ⟨Nat.le_of_ble_eq_true rfl, Nat.le_of_ble_eq_true rfl⟩) rfl rfl (fun H locs X => ?_)
        exact g_iret (wsR E o ad) C hr hk X hf dX8_pullOut_39
    · have hf := g_t hf c11
      refine lv_aload_n hx hb dX8_pullOut_14 rfl (lv_at hl 0 rfl) ?_
      refine lv_iconst (v := 1) hx hb dX8_pullOut_15 (by decide) ?_
      obtain ⟨q16, e16, hf⟩ := g_be hf
      refine g_calli X (g_runV (As := [.int (1 : Int32)]) (rest := []) C X (cR_refuse l E A o ad q8.2 q16.2 q16.1 (1 : Int32) e16) kX8_refuse m_708 0 6 rfl rfl hl.1 rfl ⟨Nat.le_of_ble_eq_true rfl, Nat.le_of_ble_eq_true rfl⟩ rfl (Nat.le_of_ble_eq_true rfl) dX8_pullOut_16 ⟨Nat.le_of_ble_eq_true rfl, Nat.le_of_ble_eq_true rfl⟩) rfl rfl (fun H locs X => ?_)
      exact g_iret (wsR E o ad) C hr hk X hf dX8_pullOut_19
set_option maxRecDepth 100000 in
set_option maxHeartbeats 4000000 in
theorem cR_reasonOfCopy (l : Launch) (E : g_Env) (A : Nat → Prop) (o : Nat) (ad : Nat → Nat) (w : RS) (w' : RS) (r : Int32) (a1 : Int32) (a2 : Int32) (a3 : Int32) (a4 : Int32) (a5 : Int32) (hf : fR_reasonOfCopy w a1 a2 a3 a4 a5 = some (r, w')) : g_Mi l yX8_reasonOfCopy cX8_reasonOfCopy 8 ((some .int)) ({ frames := 1, cells := 0, slots := 0, locals := 21 }) E A [.ref o, .int a1, .int a2, .int a3, .int a4, .int a5] (wsR E o ad w) r (wsR E o ad w') := by
  refine g_start (by decide) (Nat.le_of_ble_eq_true rfl) ?_
  intro p e s m below meth c C hr hk hnm ls hl H locs X
  have hx := C.1.1
  have hb := C.1.2.1
  have hl : lv_has ls 8 [(0, .ref o), (1, .int a1), (2, .int a2), (3, .int a3), (4, .int a4), (5, .int a5)] := hl
  have j81 : ∀ (w : RS) (x1 : Int32) (x2 : Int32) (x3 : Int32) (x4 : Int32) (x5 : Int32) (ls : Array Slot) (H : Heap) (locs : List Loc), fR_reasonOfCopy_81 w x1 x2 x3 x4 x5 = some (r, w') → lv_has ls 8 [(0, .ref o), (1, .int x1), (2, .int x2), (3, .int x3), (4, .int x4), (5, .int x5)] → g_W E A s H locs (wsR E o ad w) → W p l e ({ frames := 1, cells := 0, slots := 0, locals := 21 }) s m ([.ref o, .int a1, .int a2, .int a3, .int a4, .int a5] : List Value).toArray below meth c H locs 0 0 (MQ below (va_Qi (fun (r' : Int32) (u' : va_W) => r' = r ∧ u' = wsR E o ad w') (g_B E A) A) ([.ref o, .int a1, .int a2, .int a3, .int a4, .int a5] : List Value).toArray s 0 0 A) (F0 m 81 ls []) := by
    intro w x1 x2 x3 x4 x5 ls H locs hf hl X
    unfold fR_reasonOfCopy_81 at hf
    refine lv_iload_n hx hb dX8_reasonOfCopy_81 rfl (lv_at hl 2 rfl) ?_
    refine lv_if_lt (tgt := 95) hx hb dX8_reasonOfCopy_82 (by decide) (fun c82 => ?_) (fun c82 => ?_)
    · have hf := g_t hf c82
      refine lv_iconst (v := 4) hx hb dX8_reasonOfCopy_95 (by decide) ?_
      exact g_iret (wsR E o ad) C hr hk X hf dX8_reasonOfCopy_96
    · have hf := g_f hf c82
      refine lv_iload hx hb dX8_reasonOfCopy_85 (lv_at hl 4 rfl) ?_
      refine lv_if_lt (tgt := 95) hx hb dX8_reasonOfCopy_87 (by decide) (fun c87 => ?_) (fun c87 => ?_)
      · have hf := g_t hf c87
        refine lv_iconst (v := 4) hx hb dX8_reasonOfCopy_95 (by decide) ?_
        exact g_iret (wsR E o ad) C hr hk X hf dX8_reasonOfCopy_96
      · have hf := g_f hf c87
        refine lv_iload hx hb dX8_reasonOfCopy_90 (lv_at hl 5 rfl) ?_
        refine lv_if_ge (tgt := 97) hx hb dX8_reasonOfCopy_92 (by decide) (fun c92 => ?_) (fun c92 => ?_)
        · have hf := g_t hf c92
          refine lv_iload_n hx hb dX8_reasonOfCopy_97 rfl (lv_at hl 2 rfl) ?_
          refine lv_i2l hx hb dX8_reasonOfCopy_98 rfl ?_
          refine lv_iload hx hb dX8_reasonOfCopy_99 (lv_at hl 5 rfl) ?_
          refine lv_i2l hx hb dX8_reasonOfCopy_101 rfl ?_
          refine lv_ladd hx hb dX8_reasonOfCopy_102 ?_
          refine lv_aload_n hx hb dX8_reasonOfCopy_103 rfl (lv_at hl 0 rfl) ?_
          refine lv_aload_n hx hb dX8_reasonOfCopy_104 rfl (lv_at hl 0 rfl) ?_
          refine lv_iload_n hx hb dX8_reasonOfCopy_105 rfl (lv_at hl 1 rfl) ?_
          obtain ⟨q106, e106, hf⟩ := g_be hf
          refine g_calli X (g_runV (As := [.int x1]) (rest := [.ref o, .long (x2.toInt64 + x5.toInt64)]) C X (cR_on l E A o ad w q106.2 q106.1 x1 e106) kX8_on m_760 0 6 rfl rfl hl.1 rfl ⟨Nat.le_of_ble_eq_true rfl, Nat.le_of_ble_eq_true rfl⟩ rfl (Nat.le_of_ble_eq_true rfl) dX8_reasonOfCopy_106 ⟨Nat.le_of_ble_eq_true rfl, Nat.le_of_ble_eq_true rfl⟩) rfl rfl (fun H locs X => ?_)
          obtain ⟨q109, e109, hf⟩ := g_be hf
          refine g_calli X (g_runV (As := [.int q106.1]) (rest := [.long (x2.toInt64 + x5.toInt64)]) C X (cR_lengthOf l E A o ad q106.2 q109.2 q109.1 q106.1 e109) kX8_lengthOf m_775 0 6 rfl rfl hl.1 rfl ⟨Nat.le_of_ble_eq_true rfl, Nat.le_of_ble_eq_true rfl⟩ rfl (Nat.le_of_ble_eq_true rfl) dX8_reasonOfCopy_109 ⟨Nat.le_of_ble_eq_true rfl, Nat.le_of_ble_eq_true rfl⟩) rfl rfl (fun H locs X => ?_)
          refine lv_i2l hx hb dX8_reasonOfCopy_112 rfl ?_
          refine W.lcmp hx hb dX8_reasonOfCopy_113 ?_
          refine lv_if_gt (tgt := 138) hx hb dX8_reasonOfCopy_114 (by decide) (fun c114 => ?_) (fun c114 => ?_)
          · have hf := g_t hf c114
            refine lv_iconst (v := 4) hx hb dX8_reasonOfCopy_138 (by decide) ?_
            refine lv_goto (tgt := 143) hx hb dX8_reasonOfCopy_139 (by decide) ?_
            exact g_iret (wsR E o ad) C hr hk X hf dX8_reasonOfCopy_143
          · have hf := g_f hf c114
            refine lv_iload hx hb dX8_reasonOfCopy_117 (lv_at hl 4 rfl) ?_
            refine lv_i2l hx hb dX8_reasonOfCopy_119 rfl ?_
            refine lv_iload hx hb dX8_reasonOfCopy_120 (lv_at hl 5 rfl) ?_
            refine lv_i2l hx hb dX8_reasonOfCopy_122 rfl ?_
            refine lv_ladd hx hb dX8_reasonOfCopy_123 ?_
            refine lv_aload_n hx hb dX8_reasonOfCopy_124 rfl (lv_at hl 0 rfl) ?_
            refine lv_aload_n hx hb dX8_reasonOfCopy_125 rfl (lv_at hl 0 rfl) ?_
            refine lv_iload_n hx hb dX8_reasonOfCopy_126 rfl (lv_at hl 3 rfl) ?_
            obtain ⟨q127, e127, hf⟩ := g_be hf
            refine g_calli X (g_runV (As := [.int x3]) (rest := [.ref o, .long (x4.toInt64 + x5.toInt64)]) C X (cR_on l E A o ad q109.2 q127.2 q127.1 x3 e127) kX8_on m_760 0 6 rfl rfl hl.1 rfl ⟨Nat.le_of_ble_eq_true rfl, Nat.le_of_ble_eq_true rfl⟩ rfl (Nat.le_of_ble_eq_true rfl) dX8_reasonOfCopy_127 ⟨Nat.le_of_ble_eq_true rfl, Nat.le_of_ble_eq_true rfl⟩) rfl rfl (fun H locs X => ?_)
            obtain ⟨q130, e130, hf⟩ := g_be hf
            refine g_calli X (g_runV (As := [.int q127.1]) (rest := [.long (x4.toInt64 + x5.toInt64)]) C X (cR_lengthOf l E A o ad q127.2 q130.2 q130.1 q127.1 e130) kX8_lengthOf m_775 0 6 rfl rfl hl.1 rfl ⟨Nat.le_of_ble_eq_true rfl, Nat.le_of_ble_eq_true rfl⟩ rfl (Nat.le_of_ble_eq_true rfl) dX8_reasonOfCopy_130 ⟨Nat.le_of_ble_eq_true rfl, Nat.le_of_ble_eq_true rfl⟩) rfl rfl (fun H locs X => ?_)
            refine lv_i2l hx hb dX8_reasonOfCopy_133 rfl ?_
            refine W.lcmp hx hb dX8_reasonOfCopy_134 ?_
            refine lv_if_le (tgt := 142) hx hb dX8_reasonOfCopy_135 (by decide) (fun c135 => ?_) (fun c135 => ?_)
            · have hf := g_t hf c135
              refine lv_iconst (v := 0) hx hb dX8_reasonOfCopy_142 (by decide) ?_
              exact g_iret (wsR E o ad) C hr hk X hf dX8_reasonOfCopy_143
            · have hf := g_f hf c135
              refine lv_iconst (v := 4) hx hb dX8_reasonOfCopy_138 (by decide) ?_
              refine lv_goto (tgt := 143) hx hb dX8_reasonOfCopy_139 (by decide) ?_
              exact g_iret (wsR E o ad) C hr hk X hf dX8_reasonOfCopy_143
        · have hf := g_f hf c92
          refine lv_iconst (v := 4) hx hb dX8_reasonOfCopy_95 (by decide) ?_
          exact g_iret (wsR E o ad) C hr hk X hf dX8_reasonOfCopy_96
  have j72 : ∀ (w : RS) (x1 : Int32) (x2 : Int32) (x3 : Int32) (x4 : Int32) (x5 : Int32) (x6 : Int32) (x7 : Int32) (ls : Array Slot) (H : Heap) (locs : List Loc), fR_reasonOfCopy_72 w x1 x2 x3 x4 x5 x6 x7 = some (r, w') → lv_has ls 8 [(0, .ref o), (1, .int x1), (2, .int x2), (3, .int x3), (4, .int x4), (5, .int x5), (6, .int x6), (7, .int x7)] → g_W E A s H locs (wsR E o ad w) → W p l e ({ frames := 1, cells := 0, slots := 0, locals := 21 }) s m ([.ref o, .int a1, .int a2, .int a3, .int a4, .int a5] : List Value).toArray below meth c H locs 0 0 (MQ below (va_Qi (fun (r' : Int32) (u' : va_W) => r' = r ∧ u' = wsR E o ad w') (g_B E A) A) ([.ref o, .int a1, .int a2, .int a3, .int a4, .int a5] : List Value).toArray s 0 0 A) (F0 m 72 ls []) := by
    intro w x1 x2 x3 x4 x5 x6 x7 ls H locs hf hl X
    unfold fR_reasonOfCopy_72 at hf
    refine lv_iload hx hb dX8_reasonOfCopy_72 (lv_at hl 6 rfl) ?_
    refine lv_iload hx hb dX8_reasonOfCopy_74 (lv_at hl 7 rfl) ?_
    refine lv_icmp_eq (tgt := 81) hx hb dX8_reasonOfCopy_76 (by decide) (fun c76 => ?_) (fun c76 => ?_)
    · have hf := g_t hf c76
      exact j81 w x1 x2 x3 x4 x5 ls H locs hf (lv_sub hl [0, 1, 2, 3, 4, 5] rfl) X
    · have hf := g_f hf c76
      refine lv_iconst (v := 3) hx hb dX8_reasonOfCopy_79 (by decide) ?_
      exact g_iret (wsR E o ad) C hr hk X hf dX8_reasonOfCopy_80
  unfold fR_reasonOfCopy at hf
  refine lv_aload_n hx hb dX8_reasonOfCopy_0 rfl (lv_at hl 0 rfl) ?_
  refine lv_iload_n hx hb dX8_reasonOfCopy_1 rfl (lv_at hl 1 rfl) ?_
  obtain ⟨q2, e2, hf⟩ := g_be hf
  refine g_calli X (g_runV (As := [.int a1]) (rest := []) C X (cR_on l E A o ad w q2.2 q2.1 a1 e2) kX8_on m_760 0 6 rfl rfl hl.1 rfl ⟨Nat.le_of_ble_eq_true rfl, Nat.le_of_ble_eq_true rfl⟩ rfl (Nat.le_of_ble_eq_true rfl) dX8_reasonOfCopy_2 ⟨Nat.le_of_ble_eq_true rfl, Nat.le_of_ble_eq_true rfl⟩) rfl rfl (fun H locs X => ?_)
  refine lv_if_lt (tgt := 16) hx hb dX8_reasonOfCopy_5 (by decide) (fun c5 => ?_) (fun c5 => ?_)
  · have hf := g_t hf c5
    refine lv_iconst (v := 2) hx hb dX8_reasonOfCopy_16 (by decide) ?_
    exact g_iret (wsR E o ad) C hr hk X hf dX8_reasonOfCopy_17
  · have hf := g_f hf c5
    refine lv_aload_n hx hb dX8_reasonOfCopy_8 rfl (lv_at hl 0 rfl) ?_
    refine lv_iload_n hx hb dX8_reasonOfCopy_9 rfl (lv_at hl 3 rfl) ?_
    obtain ⟨q10, e10, hf⟩ := g_be hf
    refine g_calli X (g_runV (As := [.int a3]) (rest := []) C X (cR_on l E A o ad q2.2 q10.2 q10.1 a3 e10) kX8_on m_760 0 6 rfl rfl hl.1 rfl ⟨Nat.le_of_ble_eq_true rfl, Nat.le_of_ble_eq_true rfl⟩ rfl (Nat.le_of_ble_eq_true rfl) dX8_reasonOfCopy_10 ⟨Nat.le_of_ble_eq_true rfl, Nat.le_of_ble_eq_true rfl⟩) rfl rfl (fun H locs X => ?_)
    refine lv_if_ge (tgt := 18) hx hb dX8_reasonOfCopy_13 (by decide) (fun c13 => ?_) (fun c13 => ?_)
    · have hf := g_t hf c13
      refine lv_aload_n hx hb dX8_reasonOfCopy_18 rfl (lv_at hl 0 rfl) ?_
      refine lv_aload_n hx hb dX8_reasonOfCopy_19 rfl (lv_at hl 0 rfl) ?_
      refine lv_iload_n hx hb dX8_reasonOfCopy_20 rfl (lv_at hl 1 rfl) ?_
      obtain ⟨q21, e21, hf⟩ := g_be hf
      refine g_calli X (g_runV (As := [.int a1]) (rest := [.ref o]) C X (cR_on l E A o ad q10.2 q21.2 q21.1 a1 e21) kX8_on m_760 0 6 rfl rfl hl.1 rfl ⟨Nat.le_of_ble_eq_true rfl, Nat.le_of_ble_eq_true rfl⟩ rfl (Nat.le_of_ble_eq_true rfl) dX8_reasonOfCopy_21 ⟨Nat.le_of_ble_eq_true rfl, Nat.le_of_ble_eq_true rfl⟩) rfl rfl (fun H locs X => ?_)
      obtain ⟨q24, e24, hf⟩ := g_be hf
      refine g_calli X (g_runV (As := [.int q21.1]) (rest := []) C X (cR_kindOf l E A o ad q21.2 q24.2 q24.1 q21.1 e24) kX8_kindOf m_764 0 6 rfl rfl hl.1 rfl ⟨Nat.le_of_ble_eq_true rfl, Nat.le_of_ble_eq_true rfl⟩ rfl (Nat.le_of_ble_eq_true rfl) dX8_reasonOfCopy_24 ⟨Nat.le_of_ble_eq_true rfl, Nat.le_of_ble_eq_true rfl⟩) rfl rfl (fun H locs X => ?_)
      refine lv_istore (lv' := [(6, .int q24.1), (0, .ref o), (1, .int a1), (2, .int a2), (3, .int a3), (4, .int a4), (5, .int a5)]) hx hb dX8_reasonOfCopy_27 hl (by decide) rfl (fun ls hl => ?_)
      refine lv_aload_n hx hb dX8_reasonOfCopy_29 rfl (lv_at hl 1 rfl) ?_
      refine lv_aload_n hx hb dX8_reasonOfCopy_30 rfl (lv_at hl 1 rfl) ?_
      refine lv_iload_n hx hb dX8_reasonOfCopy_31 rfl (lv_at hl 4 rfl) ?_
      obtain ⟨q32, e32, hf⟩ := g_be hf
      refine g_calli X (g_runV (As := [.int a3]) (rest := [.ref o]) C X (cR_on l E A o ad q24.2 q32.2 q32.1 a3 e32) kX8_on m_760 0 6 rfl rfl hl.1 rfl ⟨Nat.le_of_ble_eq_true rfl, Nat.le_of_ble_eq_true rfl⟩ rfl (Nat.le_of_ble_eq_true rfl) dX8_reasonOfCopy_32 ⟨Nat.le_of_ble_eq_true rfl, Nat.le_of_ble_eq_true rfl⟩) rfl rfl (fun H locs X => ?_)
      obtain ⟨q35, e35, hf⟩ := g_be hf
      refine g_calli X (g_runV (As := [.int q32.1]) (rest := []) C X (cR_kindOf l E A o ad q32.2 q35.2 q35.1 q32.1 e35) kX8_kindOf m_764 0 6 rfl rfl hl.1 rfl ⟨Nat.le_of_ble_eq_true rfl, Nat.le_of_ble_eq_true rfl⟩ rfl (Nat.le_of_ble_eq_true rfl) dX8_reasonOfCopy_35 ⟨Nat.le_of_ble_eq_true rfl, Nat.le_of_ble_eq_true rfl⟩) rfl rfl (fun H locs X => ?_)
      refine lv_istore (lv' := [(7, .int q35.1), (6, .int q24.1), (0, .ref o), (1, .int a1), (2, .int a2), (3, .int a3), (4, .int a4), (5, .int a5)]) hx hb dX8_reasonOfCopy_38 hl (by decide) rfl (fun ls hl => ?_)
      refine lv_iload hx hb dX8_reasonOfCopy_40 (lv_at hl 1 rfl) ?_
      refine lv_bipush (v := 13) hx hb dX8_reasonOfCopy_42 (by decide) ?_
      refine lv_icmp_lt (tgt := 54) hx hb dX8_reasonOfCopy_44 (by decide) (fun c44 => ?_) (fun c44 => ?_)
      · have hf := g_t hf c44
        refine lv_iconst (v := 3) hx hb dX8_reasonOfCopy_54 (by decide) ?_
        exact g_iret (wsR E o ad) C hr hk X hf dX8_reasonOfCopy_55
      · have hf := g_f hf c44
        refine lv_iload hx hb dX8_reasonOfCopy_47 (lv_at hl 0 rfl) ?_
        refine lv_bipush (v := 13) hx hb dX8_reasonOfCopy_49 (by decide) ?_
        refine lv_icmp_ge (tgt := 56) hx hb dX8_reasonOfCopy_51 (by decide) (fun c51 => ?_) (fun c51 => ?_)
        · have hf := g_t hf c51
          refine lv_iload hx hb dX8_reasonOfCopy_56 (lv_at hl 1 rfl) ?_
          obtain ⟨q58, e58, hf⟩ := g_be hf
          refine g_calli X (g_runS (As := [.int q24.1]) (rest := []) C X (cR_isNumberRow l E A o ad q35.2 q58.2 q58.1 q24.1 e58) kX8_isNumberRow m_799 hl.1 rfl ⟨Nat.le_of_ble_eq_true rfl, Nat.le_of_ble_eq_true rfl⟩ rfl (Nat.le_of_ble_eq_true rfl) dX8_reasonOfCopy_58 ⟨Nat.le_of_ble_eq_true rfl, Nat.le_of_ble_eq_true rfl⟩) rfl rfl (fun H locs X => ?_)
          refine lv_if_ne (tgt := 72) hx hb dX8_reasonOfCopy_61 (by decide) (fun c61 => ?_) (fun c61 => ?_)
          · have hf := g_f hf c61
            exact j72 q58.2 a1 a2 a3 a4 a5 q24.1 q35.1 ls H locs hf (lv_sub hl [2, 3, 4, 5, 6, 7, 1, 0] rfl) X
          · have hf := g_t hf c61
            refine lv_iload hx hb dX8_reasonOfCopy_64 (lv_at hl 0 rfl) ?_
            obtain ⟨q66, e66, hf⟩ := g_be hf
            refine g_calli X (g_runS (As := [.int q35.1]) (rest := []) C X (cR_isNumberRow l E A o ad q58.2 q66.2 q66.1 q35.1 e66) kX8_isNumberRow m_799 hl.1 rfl ⟨Nat.le_of_ble_eq_true rfl, Nat.le_of_ble_eq_true rfl⟩ rfl (Nat.le_of_ble_eq_true rfl) dX8_reasonOfCopy_66 ⟨Nat.le_of_ble_eq_true rfl, Nat.le_of_ble_eq_true rfl⟩) rfl rfl (fun H locs X => ?_)
            refine lv_if_eq (tgt := 81) hx hb dX8_reasonOfCopy_69 (by decide) (fun c69 => ?_) (fun c69 => ?_)
            · have hf := g_t hf c69
              exact j81 q66.2 a1 a2 a3 a4 a5 ls H locs hf (lv_sub hl [2, 3, 4, 5, 6, 7] rfl) X
            · have hf := g_f hf c69
              exact j72 q66.2 a1 a2 a3 a4 a5 q24.1 q35.1 ls H locs hf (lv_sub hl [2, 3, 4, 5, 6, 7, 1, 0] rfl) X
        · have hf := g_f hf c51
          refine lv_iconst (v := 3) hx hb dX8_reasonOfCopy_54 (by decide) ?_
          exact g_iret (wsR E o ad) C hr hk X hf dX8_reasonOfCopy_55
    · have hf := g_f hf c13
      refine lv_iconst (v := 2) hx hb dX8_reasonOfCopy_16 (by decide) ?_
      exact g_iret (wsR E o ad) C hr hk X hf dX8_reasonOfCopy_17
