set_option maxRecDepth 100000 in
set_option maxHeartbeats 4000000 in
theorem cR_copyInts_before_state (l : Launch) (E : g_Env) (A : Nat → Prop) (o : Nat) (ad : Nat → Nat) (w : RS) (w' : RS) (a1 : Int32) (a3 : Int32) (a4 : Int32) (hf : fR_copyInts_before_state w a1 a3 a4 = some w') : g_Mv l yX8_copyInts cX8_copyInts 6 ({ frames := 0, cells := 0, slots := 0, locals := 0 }) E A [.ref (ad 4), .int a1, .ref (ad 2), .int a3, .int a4] (wsR E o ad w) (wsR E o ad w') := by
  refine g_start (by decide) (Nat.le_of_ble_eq_true rfl) ?_
  intro p e s m below meth c C hr hk hnm ls hl H locs X
  have hx := C.1.1
  have hb := C.1.2.1
  have hl : lv_has ls 6 [(0, .ref (ad 4)), (1, .int a1), (2, .ref (ad 2)), (3, .int a3), (4, .int a4)] := hl
  have j3 : ∀ (n : Nat) (w : RS) (x1 : Int32) (x3 : Int32) (x4 : Int32) (x5 : Int32) (ls : Array Slot) (H : Heap) (locs : List Loc), fR_copyInts_before_state_3 n w x1 x3 x4 x5 = some w' → lv_has ls 6 [(0, .ref (ad 4)), (1, .int x1), (2, .ref (ad 2)), (3, .int x3), (4, .int x4), (5, .int x5)] → g_W E A s H locs (wsR E o ad w) → W p l e ({ frames := 0, cells := 0, slots := 0, locals := 0 }) s m ([.ref (ad 4), .int a1, .ref (ad 2), .int a3, .int a4] : List Value).toArray below meth c H locs 0 0 (MQ below (va_Qv (fun (u' : va_W) => u' = wsR E o ad w') (g_B E A) A) ([.ref (ad 4), .int a1, .ref (ad 2), .int a3, .int a4] : List Value).toArray s 0 0 A) (F0 m 3 ls []) := by
    intro n
    induction n with
    | zero => intro w x1 x3 x4 x5 ls H locs hf; exact absurd hf (by simp [fR_copyInts_before_state_3])
    | succ n3 ih3 =>
      intro w x1 x3 x4 x5 ls H locs hf hl X
      unfold fR_copyInts_before_state_3 at hf
      refine lv_iload hx hb dX8_copyInts_3 (lv_at hl 5 rfl) ?_
      refine lv_iload hx hb dX8_copyInts_5 (lv_at hl 4 rfl) ?_
      refine lv_icmp_ge (tgt := 28) hx hb dX8_copyInts_7 (by decide) (fun c7 => ?_) (fun c7 => ?_)
      · have hf := g_t hf c7
        exact g_vret (wsR E o ad) C hr hk X hf dX8_copyInts_28
      · have hf := g_f hf c7
        refine lv_aload_n hx hb dX8_copyInts_10 rfl (lv_at hl 2 rfl) ?_
        refine lv_iload_n hx hb dX8_copyInts_11 rfl (lv_at hl 3 rfl) ?_
        refine lv_iload hx hb dX8_copyInts_12 (lv_at hl 5 rfl) ?_
        refine lv_iadd hx hb dX8_copyInts_14 ?_
        refine lv_aload_n hx hb dX8_copyInts_15 rfl (lv_at hl 0 rfl) ?_
        refine lv_iload_n hx hb dX8_copyInts_16 rfl (lv_at hl 1 rfl) ?_
        refine lv_iload hx hb dX8_copyInts_17 (lv_at hl 5 rfl) ?_
        refine lv_iadd hx hb dX8_copyInts_19 ?_
        obtain ⟨h20, hf⟩ := g_cke hf
        obtain ⟨v20, e20, hf⟩ := g_le hf
        refine g_iald C X 5 rfl h20 e20 dX8_copyInts_20 ?_
        obtain ⟨h21, hf⟩ := g_cke hf
        obtain ⟨w21, e21, hf⟩ := g_le hf
        refine g_iast C X 3 rfl h21 dX8_copyInts_21 (ws2 := wsR E o ad w21) (by subst e21; rfl) (fun H locs X => ?_)
        refine lv_iinc (v := x5 + (1 : Int32)) (lv' := [(5, .int (x5 + (1 : Int32))), (0, .ref (ad 4)), (1, .int x1), (2, .ref (ad 2)), (3, .int x3), (4, .int x4)]) hx hb dX8_copyInts_22 hl (k := 5) rfl rfl (by decide) rfl (fun ls hl => ?_)
        refine lv_goto (tgt := 3) hx hb dX8_copyInts_25 (by decide) ?_
        exact ih3 w21 x1 x3 x4 (x5 + (1 : Int32)) ls H locs hf (lv_sub hl [1, 2, 3, 4, 5, 0] rfl) X
  unfold fR_copyInts_before_state at hf
  refine lv_iconst (v := 0) hx hb dX8_copyInts_0 (by decide) ?_
  refine lv_istore (lv' := [(5, .int (0 : Int32)), (0, .ref (ad 4)), (1, .int a1), (2, .ref (ad 2)), (3, .int a3), (4, .int a4)]) hx hb dX8_copyInts_1 hl (by decide) rfl (fun ls hl => ?_)
  exact j3 g_fuel w a1 a3 a4 (0 : Int32) ls H locs hf (lv_sub hl [1, 2, 3, 4, 5, 0] rfl) X
set_option maxRecDepth 100000 in
set_option maxHeartbeats 4000000 in
theorem cR_keepAct (l : Launch) (E : g_Env) (A : Nat → Prop) (o : Nat) (ad : Nat → Nat) (w : RS) (w' : RS) (a1 : Int64) (hf : fR_keepAct w a1 = some w') : g_Mv l yX8_keepAct cX8_keepAct 3 ({ frames := 1, cells := 0, slots := 0, locals := 25 }) E A [.ref o, .long a1] (wsR E o ad w) (wsR E o ad w') := by
  refine g_start (by decide) (Nat.le_of_ble_eq_true rfl) ?_
  intro p e s m below meth c C hr hk hnm ls hl H locs X
  have hx := C.1.1
  have hb := C.1.2.1
  have hl : lv_has ls 3 [(0, .ref o), (1, .long a1)] := hl
  unfold fR_keepAct at hf
  refine lv_aload_n hx hb dX8_keepAct_0 rfl (lv_at hl 0 rfl) ?_
  refine g_get C X g_iX8 0 rfl rfl 17 (by decide) rfl m_658 rfl dX8_keepAct_1 ?_
  refine lv_iconst (v := 0) hx hb dX8_keepAct_4 (by decide) ?_
  refine lv_aload_n hx hb dX8_keepAct_5 rfl (lv_at hl 0 rfl) ?_
  refine g_get C X g_iX8 0 rfl rfl 6 (by decide) rfl m_647 rfl dX8_keepAct_6 ?_
  refine lv_bipush (v := 6) hx hb dX8_keepAct_9 (by decide) ?_
  refine lv_aload_n hx hb dX8_keepAct_11 rfl (lv_at hl 0 rfl) ?_
  refine g_get C X g_iX8 0 rfl rfl 8 (by decide) rfl m_649 rfl dX8_keepAct_12 ?_
  refine lv_imul hx hb dX8_keepAct_15 ?_
  refine lv_bipush (v := 6) hx hb dX8_keepAct_16 (by decide) ?_
  obtain ⟨q18, e18, hf⟩ := g_be hf
  refine g_callv X (g_runS (As := [.ref (ad 17), .int (0 : Int32), .ref (ad 6), .int ((6 : Int32) * (w.1 8)), .int (6 : Int32)]) (rest := []) C X (cR_copyInts_call_acts l E A o ad w q18  (0 : Int32) ((6 : Int32) * (w.1 8)) (6 : Int32) e18) kX8_copyInts m_712 hl.1 rfl ⟨Nat.le_of_ble_eq_true rfl, Nat.le_of_ble_eq_true rfl⟩ rfl (Nat.le_of_ble_eq_true rfl) dX8_keepAct_18 ⟨Nat.le_of_ble_eq_true rfl, Nat.le_of_ble_eq_true rfl⟩) rfl rfl (fun H locs X => ?_)
  refine lv_aload_n hx hb dX8_keepAct_21 rfl (lv_at hl 0 rfl) ?_
  refine g_get C X g_iX8 0 rfl rfl 7 (by decide) rfl m_648 rfl dX8_keepAct_22 ?_
  refine lv_aload_n hx hb dX8_keepAct_25 rfl (lv_at hl 0 rfl) ?_
  refine g_get C X g_iX8 0 rfl rfl 8 (by decide) rfl m_649 rfl dX8_keepAct_26 ?_
  refine lv_lload_n hx hb dX8_keepAct_29 rfl (lv_at hl 1 rfl) ?_
  obtain ⟨h30, hf⟩ := g_cke hf
  obtain ⟨w30, e30, hf⟩ := g_le hf
  refine g_last C X 8 rfl h30 dX8_keepAct_30 (ws2 := wsR E o ad w30) (by subst e30; rfl) (fun H locs X => ?_)
  refine lv_aload_n hx hb dX8_keepAct_31 rfl (lv_at hl 0 rfl) ?_
  refine lv_dup hx hb dX8_keepAct_32 rfl ?_
  refine g_get C X g_iX8 0 rfl rfl 8 (by decide) rfl m_649 rfl dX8_keepAct_33 ?_
  refine lv_iconst (v := 1) hx hb dX8_keepAct_36 (by decide) ?_
  refine lv_iadd hx hb dX8_keepAct_37 ?_
  obtain ⟨w38, e38, hf⟩ := g_le hf
  refine g_put C X g_iX8 tyX8_ok nmX8 0 rfl rfl 8 (by decide) rfl m_649 rfl rfl rfl (Nat.le_of_ble_eq_true rfl) dX8_keepAct_38 (ws2 := wsR E o ad w38) (by subst e38; rfl) (fun H locs X => ?_)
  exact g_vret (wsR E o ad) C hr hk X hf dX8_keepAct_41
set_option maxRecDepth 100000 in
set_option maxHeartbeats 4000000 in
theorem cR_lineMore (l : Launch) (E : g_Env) (A : Nat → Prop) (o : Nat) (ad : Nat → Nat) (w : RS) (w' : RS) (r : Int32) (a1 : Int64) (hf : fR_lineMore w a1 = some (r, w')) : g_Mi l yX8_lineMore cX8_lineMore 3 ((some .int)) ({ frames := 1, cells := 0, slots := 0, locals := 25 }) E A [.ref o, .long a1] (wsR E o ad w) r (wsR E o ad w') := by
  refine g_start (by decide) (Nat.le_of_ble_eq_true rfl) ?_
  intro p e s m below meth c C hr hk hnm ls hl H locs X
  have hx := C.1.1
  have hb := C.1.2.1
  have hl : lv_has ls 3 [(0, .ref o), (1, .long a1)] := hl
  unfold fR_lineMore at hf
  refine lv_aload_n hx hb dX8_lineMore_0 rfl (lv_at hl 0 rfl) ?_
  refine g_get C X g_iX8 0 rfl rfl 13 (by decide) rfl m_654 rfl dX8_lineMore_1 ?_
  refine lv_bipush (v := 16) hx hb dX8_lineMore_4 (by decide) ?_
  refine lv_icmp_ne (tgt := 16) hx hb dX8_lineMore_6 (by decide) (fun c6 => ?_) (fun c6 => ?_)
  · have hf := g_f hf c6
    refine lv_aload_n hx hb dX8_lineMore_16 rfl (lv_at hl 0 rfl) ?_
    refine g_get C X g_iX8 0 rfl rfl 17 (by decide) rfl m_658 rfl dX8_lineMore_17 ?_
    refine lv_iconst (v := 0) hx hb dX8_lineMore_20 (by decide) ?_
    refine lv_aload_n hx hb dX8_lineMore_21 rfl (lv_at hl 0 rfl) ?_
    refine g_get C X g_iX8 0 rfl rfl 9 (by decide) rfl m_650 rfl dX8_lineMore_22 ?_
    refine lv_bipush (v := 6) hx hb dX8_lineMore_25 (by decide) ?_
    refine lv_aload_n hx hb dX8_lineMore_27 rfl (lv_at hl 0 rfl) ?_
    refine g_get C X g_iX8 0 rfl rfl 11 (by decide) rfl m_652 rfl dX8_lineMore_28 ?_
    refine lv_imul hx hb dX8_lineMore_31 ?_
    refine lv_bipush (v := 6) hx hb dX8_lineMore_32 (by decide) ?_
    obtain ⟨q34, e34, hf⟩ := g_be hf
    refine g_callv X (g_runS (As := [.ref (ad 17), .int (0 : Int32), .ref (ad 9), .int ((6 : Int32) * (w.1 11)), .int (6 : Int32)]) (rest := []) C X (cR_copyInts_call_lines l E A o ad w q34  (0 : Int32) ((6 : Int32) * (w.1 11)) (6 : Int32) e34) kX8_copyInts m_712 hl.1 rfl ⟨Nat.le_of_ble_eq_true rfl, Nat.le_of_ble_eq_true rfl⟩ rfl (Nat.le_of_ble_eq_true rfl) dX8_lineMore_34 ⟨Nat.le_of_ble_eq_true rfl, Nat.le_of_ble_eq_true rfl⟩) rfl rfl (fun H locs X => ?_)
    refine lv_aload_n hx hb dX8_lineMore_37 rfl (lv_at hl 0 rfl) ?_
    refine g_get C X g_iX8 0 rfl rfl 10 (by decide) rfl m_651 rfl dX8_lineMore_38 ?_
    refine lv_aload_n hx hb dX8_lineMore_41 rfl (lv_at hl 0 rfl) ?_
    refine g_get C X g_iX8 0 rfl rfl 11 (by decide) rfl m_652 rfl dX8_lineMore_42 ?_
    refine lv_lload_n hx hb dX8_lineMore_45 rfl (lv_at hl 1 rfl) ?_
    obtain ⟨h46, hf⟩ := g_cke hf
    obtain ⟨w46, e46, hf⟩ := g_le hf
    refine g_last C X 10 rfl h46 dX8_lineMore_46 (ws2 := wsR E o ad w46) (by subst e46; rfl) (fun H locs X => ?_)
    refine lv_aload_n hx hb dX8_lineMore_47 rfl (lv_at hl 0 rfl) ?_
    refine lv_dup hx hb dX8_lineMore_48 rfl ?_
    refine g_get C X g_iX8 0 rfl rfl 11 (by decide) rfl m_652 rfl dX8_lineMore_49 ?_
    refine lv_iconst (v := 1) hx hb dX8_lineMore_52 (by decide) ?_
    refine lv_iadd hx hb dX8_lineMore_53 ?_
    obtain ⟨w54, e54, hf⟩ := g_le hf
    refine g_put C X g_iX8 tyX8_ok nmX8 0 rfl rfl 11 (by decide) rfl m_652 rfl rfl rfl (Nat.le_of_ble_eq_true rfl) dX8_lineMore_54 (ws2 := wsR E o ad w54) (by subst e54; rfl) (fun H locs X => ?_)
    refine lv_aload_n hx hb dX8_lineMore_57 rfl (lv_at hl 0 rfl) ?_
    refine lv_dup hx hb dX8_lineMore_58 rfl ?_
    refine g_get C X g_iX8 0 rfl rfl 13 (by decide) rfl m_654 rfl dX8_lineMore_59 ?_
    refine lv_iconst (v := 1) hx hb dX8_lineMore_62 (by decide) ?_
    refine lv_iadd hx hb dX8_lineMore_63 ?_
    obtain ⟨w64, e64, hf⟩ := g_le hf
    refine g_put C X g_iX8 tyX8_ok nmX8 0 rfl rfl 13 (by decide) rfl m_654 rfl rfl rfl (Nat.le_of_ble_eq_true rfl) dX8_lineMore_64 (ws2 := wsR E o ad w64) (by subst e64; rfl) (fun H locs X => ?_)
    refine lv_aload_n hx hb dX8_lineMore_67 rfl (lv_at hl 0 rfl) ?_
    refine lv_iconst (v := 0) hx hb dX8_lineMore_68 (by decide) ?_
    obtain ⟨w69, e69, hf⟩ := g_le hf
    refine g_put C X g_iX8 tyX8_ok nmX8 0 rfl rfl 15 (by decide) rfl m_656 rfl rfl rfl (Nat.le_of_ble_eq_true rfl) dX8_lineMore_69 (ws2 := wsR E o ad w69) (by subst e69; rfl) (fun H locs X => ?_)
    refine lv_aload_n hx hb dX8_lineMore_72 rfl (lv_at hl 0 rfl) ?_
    refine g_get C X g_iX8 0 rfl rfl 13 (by decide) rfl m_654 rfl dX8_lineMore_73 ?_
    exact g_iret (wsR E o ad) C hr hk X hf dX8_lineMore_76
  · have hf := g_t hf c6
    refine lv_aload_n hx hb dX8_lineMore_9 rfl (lv_at hl 0 rfl) ?_
    refine lv_bipush (v := 6) hx hb dX8_lineMore_10 (by decide) ?_
    obtain ⟨q12, e12, hf⟩ := g_be hf
    refine g_calli X (g_runV (As := [.int (6 : Int32)]) (rest := []) C X (cR_refuse l E A o ad w q12.2 q12.1 (6 : Int32) e12) kX8_refuse m_708 0 6 rfl rfl hl.1 rfl ⟨Nat.le_of_ble_eq_true rfl, Nat.le_of_ble_eq_true rfl⟩ rfl (Nat.le_of_ble_eq_true rfl) dX8_lineMore_12 ⟨Nat.le_of_ble_eq_true rfl, Nat.le_of_ble_eq_true rfl⟩) rfl rfl (fun H locs X => ?_)
    exact g_iret (wsR E o ad) C hr hk X hf dX8_lineMore_15
set_option maxRecDepth 100000 in
set_option maxHeartbeats 4000000 in
theorem cR_called (l : Launch) (E : g_Env) (A : Nat → Prop) (o : Nat) (ad : Nat → Nat) (w : RS) (w' : RS) (r : Int32) (a1 : Int32) (a2 : Int32) (a3 : Int32) (a4 : Int32) (a5 : Int32) (a6 : Int32) (a7 : Int64) (hf : fR_called w a1 a2 a3 a4 a5 a6 a7 = some (r, w')) : g_Mi l yX8_called cX8_called 10 ((some .int)) ({ frames := 7, cells := 0, slots := 0, locals := 168 }) E A [.ref o, .int a1, .int a2, .int a3, .int a4, .int a5, .int a6, .long a7] (wsR E o ad w) r (wsR E o ad w') := by
  refine g_start (by decide) (Nat.le_of_ble_eq_true rfl) ?_
  intro p e s m below meth c C hr hk hnm ls hl H locs X
  have hx := C.1.1
  have hb := C.1.2.1
  have hl : lv_has ls 10 [(0, .ref o), (1, .int a1), (2, .int a2), (3, .int a3), (4, .int a4), (5, .int a5), (6, .int a6), (7, .long a7)] := hl
  unfold fR_called at hf
  refine lv_aload_n hx hb dX8_called_0 rfl (lv_at hl 0 rfl) ?_
  refine g_get C X g_iX8 0 rfl rfl 17 (by decide) rfl m_658 rfl dX8_called_1 ?_
  refine lv_iconst (v := 0) hx hb dX8_called_4 (by decide) ?_
  refine lv_iload_n hx hb dX8_called_5 rfl (lv_at hl 1 rfl) ?_
  obtain ⟨h6, hf⟩ := g_cke hf
  obtain ⟨w6, e6, hf⟩ := g_le hf
  refine g_iast C X 12 rfl h6 dX8_called_6 (ws2 := wsR E o ad w6) (by subst e6; rfl) (fun H locs X => ?_)
  refine lv_aload_n hx hb dX8_called_7 rfl (lv_at hl 0 rfl) ?_
  refine g_get C X g_iX8 0 rfl rfl 17 (by decide) rfl m_658 rfl dX8_called_8 ?_
  refine lv_iconst (v := 1) hx hb dX8_called_11 (by decide) ?_
  refine lv_iload_n hx hb dX8_called_12 rfl (lv_at hl 2 rfl) ?_
  obtain ⟨h13, hf⟩ := g_cke hf
  obtain ⟨w13, e13, hf⟩ := g_le hf
  refine g_iast C X 12 rfl h13 dX8_called_13 (ws2 := wsR E o ad w13) (by subst e13; rfl) (fun H locs X => ?_)
  refine lv_aload_n hx hb dX8_called_14 rfl (lv_at hl 0 rfl) ?_
  refine g_get C X g_iX8 0 rfl rfl 17 (by decide) rfl m_658 rfl dX8_called_15 ?_
  refine lv_iconst (v := 2) hx hb dX8_called_18 (by decide) ?_
  refine lv_iload_n hx hb dX8_called_19 rfl (lv_at hl 3 rfl) ?_
  obtain ⟨h20, hf⟩ := g_cke hf
  obtain ⟨w20, e20, hf⟩ := g_le hf
  refine g_iast C X 12 rfl h20 dX8_called_20 (ws2 := wsR E o ad w20) (by subst e20; rfl) (fun H locs X => ?_)
  refine lv_aload_n hx hb dX8_called_21 rfl (lv_at hl 0 rfl) ?_
  refine g_get C X g_iX8 0 rfl rfl 17 (by decide) rfl m_658 rfl dX8_called_22 ?_
  refine lv_iconst (v := 3) hx hb dX8_called_25 (by decide) ?_
  refine lv_iload hx hb dX8_called_26 (lv_at hl 4 rfl) ?_
  obtain ⟨h28, hf⟩ := g_cke hf
  obtain ⟨w28, e28, hf⟩ := g_le hf
  refine g_iast C X 12 rfl h28 dX8_called_28 (ws2 := wsR E o ad w28) (by subst e28; rfl) (fun H locs X => ?_)
  refine lv_aload_n hx hb dX8_called_29 rfl (lv_at hl 0 rfl) ?_
  refine g_get C X g_iX8 0 rfl rfl 17 (by decide) rfl m_658 rfl dX8_called_30 ?_
  refine lv_iconst (v := 4) hx hb dX8_called_33 (by decide) ?_
  refine lv_iload hx hb dX8_called_34 (lv_at hl 5 rfl) ?_
  obtain ⟨h36, hf⟩ := g_cke hf
  obtain ⟨w36, e36, hf⟩ := g_le hf
  refine g_iast C X 12 rfl h36 dX8_called_36 (ws2 := wsR E o ad w36) (by subst e36; rfl) (fun H locs X => ?_)
  refine lv_aload_n hx hb dX8_called_37 rfl (lv_at hl 0 rfl) ?_
  refine g_get C X g_iX8 0 rfl rfl 17 (by decide) rfl m_658 rfl dX8_called_38 ?_
  refine lv_iconst (v := 5) hx hb dX8_called_41 (by decide) ?_
  refine lv_iload hx hb dX8_called_42 (lv_at hl 6 rfl) ?_
  obtain ⟨h44, hf⟩ := g_cke hf
  obtain ⟨w44, e44, hf⟩ := g_le hf
  refine g_iast C X 12 rfl h44 dX8_called_44 (ws2 := wsR E o ad w44) (by subst e44; rfl) (fun H locs X => ?_)
  refine lv_aload_n hx hb dX8_called_45 rfl (lv_at hl 0 rfl) ?_
  refine g_get C X g_iX8 0 rfl rfl 14 (by decide) rfl m_655 rfl dX8_called_46 ?_
  refine lv_if_eq (tgt := 59) hx hb dX8_called_49 (by decide) (fun c49 => ?_) (fun c49 => ?_)
  · have hf := g_t hf c49
    refine lv_aload_n hx hb dX8_called_59 rfl (lv_at hl 0 rfl) ?_
    refine lv_aload_n hx hb dX8_called_60 rfl (lv_at hl 0 rfl) ?_
    refine g_get C X g_iX8 0 rfl rfl 17 (by decide) rfl m_658 rfl dX8_called_61 ?_
    refine lv_iconst (v := 0) hx hb dX8_called_64 (by decide) ?_
    refine lv_lload hx hb dX8_called_65 (lv_at hl 7 rfl) ?_
    obtain ⟨q67, e67, hf⟩ := g_be hf
    refine g_calli X (g_runV (As := [.ref (ad 17), .int (0 : Int32), .long a7]) (rest := []) C X (cR_done_call l E A o ad w44 q67.2 q67.1 (0 : Int32) a7 e67) kX8_done m_715 0 6 rfl rfl hl.1 rfl ⟨Nat.le_of_ble_eq_true rfl, Nat.le_of_ble_eq_true rfl⟩ rfl (Nat.le_of_ble_eq_true rfl) dX8_called_67 ⟨Nat.le_of_ble_eq_true rfl, Nat.le_of_ble_eq_true rfl⟩) rfl rfl (fun H locs X => ?_)
    refine lv_istore (lv' := [(9, .int q67.1), (0, .ref o), (1, .int a1), (2, .int a2), (3, .int a3), (4, .int a4), (5, .int a5), (6, .int a6), (7, .long a7)]) hx hb dX8_called_70 hl (by decide) rfl (fun ls hl => ?_)
    refine lv_aload_n hx hb dX8_called_72 rfl (lv_at hl 1 rfl) ?_
    refine g_get C X g_iX8 0 rfl rfl 15 (by decide) rfl m_656 rfl dX8_called_73 ?_
    refine lv_if_eq (tgt := 92) hx hb dX8_called_76 (by decide) (fun c76 => ?_) (fun c76 => ?_)
    · have hf := g_t hf c76
      refine lv_aload_n hx hb dX8_called_92 rfl (lv_at hl 1 rfl) ?_
      refine lv_lload hx hb dX8_called_93 (lv_at hl 8 rfl) ?_
      obtain ⟨q95, e95, hf⟩ := g_be hf
      refine g_callv X (g_runV (As := [.long a7]) (rest := []) C X (cR_keepAct l E A o ad q67.2 q95  a7 e95) kX8_keepAct m_869 0 6 rfl rfl hl.1 rfl ⟨Nat.le_of_ble_eq_true rfl, Nat.le_of_ble_eq_true rfl⟩ rfl (Nat.le_of_ble_eq_true rfl) dX8_called_95 ⟨Nat.le_of_ble_eq_true rfl, Nat.le_of_ble_eq_true rfl⟩) rfl rfl (fun H locs X => ?_)
      refine lv_iload hx hb dX8_called_98 (lv_at hl 0 rfl) ?_
      exact g_iret (wsR E o ad) C hr hk X hf dX8_called_100
    · have hf := g_f hf c76
      refine lv_aload_n hx hb dX8_called_79 rfl (lv_at hl 1 rfl) ?_
      refine g_get C X g_iX8 0 rfl rfl 15 (by decide) rfl m_656 rfl dX8_called_80 ?_
      refine lv_iconst (v := 5) hx hb dX8_called_83 (by decide) ?_
      refine lv_icmp_ne (tgt := 98) hx hb dX8_called_84 (by decide) (fun c84 => ?_) (fun c84 => ?_)
      · have hf := g_f hf c84
        refine lv_iload hx hb dX8_called_98 (lv_at hl 0 rfl) ?_
        exact g_iret (wsR E o ad) C hr hk X hf dX8_called_100
      · have hf := g_t hf c84
        refine lv_iload_n hx hb dX8_called_87 rfl (lv_at hl 2 rfl) ?_
        refine lv_iconst (v := 5) hx hb dX8_called_88 (by decide) ?_
        refine lv_icmp_ne (tgt := 98) hx hb dX8_called_89 (by decide) (fun c89 => ?_) (fun c89 => ?_)
        · have hf := g_f hf c89
          refine lv_iload hx hb dX8_called_98 (lv_at hl 0 rfl) ?_
          exact g_iret (wsR E o ad) C hr hk X hf dX8_called_100
        · have hf := g_t hf c89
          refine lv_aload_n hx hb dX8_called_92 rfl (lv_at hl 1 rfl) ?_
          refine lv_lload hx hb dX8_called_93 (lv_at hl 8 rfl) ?_
          obtain ⟨q95, e95, hf⟩ := g_be hf
          refine g_callv X (g_runV (As := [.long a7]) (rest := []) C X (cR_keepAct l E A o ad q67.2 q95  a7 e95) kX8_keepAct m_869 0 6 rfl rfl hl.1 rfl ⟨Nat.le_of_ble_eq_true rfl, Nat.le_of_ble_eq_true rfl⟩ rfl (Nat.le_of_ble_eq_true rfl) dX8_called_95 ⟨Nat.le_of_ble_eq_true rfl, Nat.le_of_ble_eq_true rfl⟩) rfl rfl (fun H locs X => ?_)
          refine lv_iload hx hb dX8_called_98 (lv_at hl 0 rfl) ?_
          exact g_iret (wsR E o ad) C hr hk X hf dX8_called_100
  · have hf := g_f hf c49
    refine lv_aload_n hx hb dX8_called_52 rfl (lv_at hl 0 rfl) ?_
    refine lv_lload hx hb dX8_called_53 (lv_at hl 7 rfl) ?_
    obtain ⟨q55, e55, hf⟩ := g_be hf
    refine g_calli X (g_runV (As := [.long a7]) (rest := []) C X (cR_lineMore l E A o ad w44 q55.2 q55.1 a7 e55) kX8_lineMore m_704 0 6 rfl rfl hl.1 rfl ⟨Nat.le_of_ble_eq_true rfl, Nat.le_of_ble_eq_true rfl⟩ rfl (Nat.le_of_ble_eq_true rfl) dX8_called_55 ⟨Nat.le_of_ble_eq_true rfl, Nat.le_of_ble_eq_true rfl⟩) rfl rfl (fun H locs X => ?_)
    exact g_iret (wsR E o ad) C hr hk X hf dX8_called_58
set_option maxRecDepth 100000 in
set_option maxHeartbeats 4000000 in
theorem cR_make (l : Launch) (E : g_Env) (A : Nat → Prop) (o : Nat) (ad : Nat → Nat) (w : RS) (w' : RS) (r : Int32) (a1 : Int32) (a2 : Int32) (a3 : Int32) (hf : fR_make w a1 a2 a3 = some (r, w')) : g_Mi l yX8_make cX8_make 4 ((some .int)) ({ frames := 8, cells := 0, slots := 0, locals := 197 }) E A [.ref o, .int a1, .int a2, .int a3] (wsR E o ad w) r (wsR E o ad w') := by
  refine g_start (by decide) (Nat.le_of_ble_eq_true rfl) ?_
  intro p e s m below meth c C hr hk hnm ls hl H locs X
  have hx := C.1.1
  have hb := C.1.2.1
  have hl : lv_has ls 4 [(0, .ref o), (1, .int a1), (2, .int a2), (3, .int a3)] := hl
  unfold fR_make at hf
  refine lv_aload_n hx hb dX8_make_0 rfl (lv_at hl 0 rfl) ?_
  refine lv_iconst (v := 1) hx hb dX8_make_1 (by decide) ?_
  refine lv_iload_n hx hb dX8_make_2 rfl (lv_at hl 1 rfl) ?_
  refine lv_iload_n hx hb dX8_make_3 rfl (lv_at hl 2 rfl) ?_
  refine lv_iload_n hx hb dX8_make_4 rfl (lv_at hl 3 rfl) ?_
  refine lv_iconst (v := 0) hx hb dX8_make_5 (by decide) ?_
  refine lv_iconst (v := 0) hx hb dX8_make_6 (by decide) ?_
  refine lv_lconst (v := 0) hx hb dX8_make_7 (by decide) ?_
  obtain ⟨q8, e8, hf⟩ := g_be hf
  refine g_calli X (g_runV (As := [.int (1 : Int32), .int a1, .int a2, .int a3, .int (0 : Int32), .int (0 : Int32), .long (0 : Int64)]) (rest := []) C X (cR_called l E A o ad w q8.2 q8.1 (1 : Int32) a1 a2 a3 (0 : Int32) (0 : Int32) (0 : Int64) e8) kX8_called m_700 0 6 rfl rfl hl.1 rfl ⟨Nat.le_of_ble_eq_true rfl, Nat.le_of_ble_eq_true rfl⟩ rfl (Nat.le_of_ble_eq_true rfl) dX8_make_8 ⟨Nat.le_of_ble_eq_true rfl, Nat.le_of_ble_eq_true rfl⟩) rfl rfl (fun H locs X => ?_)
  exact g_iret (wsR E o ad) C hr hk X hf dX8_make_11
set_option maxRecDepth 100000 in
set_option maxHeartbeats 4000000 in
theorem cR_lay (l : Launch) (E : g_Env) (A : Nat → Prop) (o : Nat) (ad : Nat → Nat) (w : RS) (w' : RS) (r : Int32) (a1 : Int32) (a2 : Int32) (hf : fR_lay w a1 a2 = some (r, w')) : g_Mi l yX8_lay cX8_lay 3 ((some .int)) ({ frames := 8, cells := 0, slots := 0, locals := 197 }) E A [.ref o, .int a1, .int a2] (wsR E o ad w) r (wsR E o ad w') := by
  refine g_start (by decide) (Nat.le_of_ble_eq_true rfl) ?_
  intro p e s m below meth c C hr hk hnm ls hl H locs X
  have hx := C.1.1
  have hb := C.1.2.1
  have hl : lv_has ls 3 [(0, .ref o), (1, .int a1), (2, .int a2)] := hl
  unfold fR_lay at hf
  refine lv_aload_n hx hb dX8_lay_0 rfl (lv_at hl 0 rfl) ?_
  refine lv_iconst (v := 2) hx hb dX8_lay_1 (by decide) ?_
  refine lv_iload_n hx hb dX8_lay_2 rfl (lv_at hl 1 rfl) ?_
  refine lv_iload_n hx hb dX8_lay_3 rfl (lv_at hl 2 rfl) ?_
  refine lv_iconst (v := 0) hx hb dX8_lay_4 (by decide) ?_
  refine lv_iconst (v := 0) hx hb dX8_lay_5 (by decide) ?_
  refine lv_iconst (v := 0) hx hb dX8_lay_6 (by decide) ?_
  refine lv_lconst (v := 0) hx hb dX8_lay_7 (by decide) ?_
  obtain ⟨q8, e8, hf⟩ := g_be hf
  refine g_calli X (g_runV (As := [.int (2 : Int32), .int a1, .int a2, .int (0 : Int32), .int (0 : Int32), .int (0 : Int32), .long (0 : Int64)]) (rest := []) C X (cR_called l E A o ad w q8.2 q8.1 (2 : Int32) a1 a2 (0 : Int32) (0 : Int32) (0 : Int32) (0 : Int64) e8) kX8_called m_700 0 6 rfl rfl hl.1 rfl ⟨Nat.le_of_ble_eq_true rfl, Nat.le_of_ble_eq_true rfl⟩ rfl (Nat.le_of_ble_eq_true rfl) dX8_lay_8 ⟨Nat.le_of_ble_eq_true rfl, Nat.le_of_ble_eq_true rfl⟩) rfl rfl (fun H locs X => ?_)
  exact g_iret (wsR E o ad) C hr hk X hf dX8_lay_11
set_option maxRecDepth 100000 in
set_option maxHeartbeats 4000000 in
theorem cR_plug (l : Launch) (E : g_Env) (A : Nat → Prop) (o : Nat) (ad : Nat → Nat) (w : RS) (w' : RS) (r : Int32) (a1 : Int32) (a2 : Int32) (a3 : Int32) (hf : fR_plug w a1 a2 a3 = some (r, w')) : g_Mi l yX8_plug cX8_plug 4 ((some .int)) ({ frames := 8, cells := 0, slots := 0, locals := 197 }) E A [.ref o, .int a1, .int a2, .int a3] (wsR E o ad w) r (wsR E o ad w') := by
  refine g_start (by decide) (Nat.le_of_ble_eq_true rfl) ?_
  intro p e s m below meth c C hr hk hnm ls hl H locs X
  have hx := C.1.1
  have hb := C.1.2.1
  have hl : lv_has ls 4 [(0, .ref o), (1, .int a1), (2, .int a2), (3, .int a3)] := hl
  unfold fR_plug at hf
  refine lv_aload_n hx hb dX8_plug_0 rfl (lv_at hl 0 rfl) ?_
  refine lv_iconst (v := 3) hx hb dX8_plug_1 (by decide) ?_
  refine lv_iload_n hx hb dX8_plug_2 rfl (lv_at hl 1 rfl) ?_
  refine lv_iload_n hx hb dX8_plug_3 rfl (lv_at hl 2 rfl) ?_
  refine lv_iload_n hx hb dX8_plug_4 rfl (lv_at hl 3 rfl) ?_
  refine lv_iconst (v := 0) hx hb dX8_plug_5 (by decide) ?_
  refine lv_iconst (v := 0) hx hb dX8_plug_6 (by decide) ?_
  refine lv_lconst (v := 0) hx hb dX8_plug_7 (by decide) ?_
  obtain ⟨q8, e8, hf⟩ := g_be hf
  refine g_calli X (g_runV (As := [.int (3 : Int32), .int a1, .int a2, .int a3, .int (0 : Int32), .int (0 : Int32), .long (0 : Int64)]) (rest := []) C X (cR_called l E A o ad w q8.2 q8.1 (3 : Int32) a1 a2 a3 (0 : Int32) (0 : Int32) (0 : Int64) e8) kX8_called m_700 0 6 rfl rfl hl.1 rfl ⟨Nat.le_of_ble_eq_true rfl, Nat.le_of_ble_eq_true rfl⟩ rfl (Nat.le_of_ble_eq_true rfl) dX8_plug_8 ⟨Nat.le_of_ble_eq_true rfl, Nat.le_of_ble_eq_true rfl⟩) rfl rfl (fun H locs X => ?_)
  exact g_iret (wsR E o ad) C hr hk X hf dX8_plug_11
set_option maxRecDepth 100000 in
set_option maxHeartbeats 4000000 in
theorem cR_pull (l : Launch) (E : g_Env) (A : Nat → Prop) (o : Nat) (ad : Nat → Nat) (w : RS) (w' : RS) (r : Int32) (a1 : Int32) (a2 : Int32) (a3 : Int32) (hf : fR_pull w a1 a2 a3 = some (r, w')) : g_Mi l yX8_pull cX8_pull 4 ((some .int)) ({ frames := 8, cells := 0, slots := 0, locals := 197 }) E A [.ref o, .int a1, .int a2, .int a3] (wsR E o ad w) r (wsR E o ad w') := by
  refine g_start (by decide) (Nat.le_of_ble_eq_true rfl) ?_
  intro p e s m below meth c C hr hk hnm ls hl H locs X
  have hx := C.1.1
  have hb := C.1.2.1
  have hl : lv_has ls 4 [(0, .ref o), (1, .int a1), (2, .int a2), (3, .int a3)] := hl
  unfold fR_pull at hf
  refine lv_aload_n hx hb dX8_pull_0 rfl (lv_at hl 0 rfl) ?_
  refine lv_iconst (v := 4) hx hb dX8_pull_1 (by decide) ?_
  refine lv_iload_n hx hb dX8_pull_2 rfl (lv_at hl 1 rfl) ?_
  refine lv_iload_n hx hb dX8_pull_3 rfl (lv_at hl 2 rfl) ?_
  refine lv_iload_n hx hb dX8_pull_4 rfl (lv_at hl 3 rfl) ?_
  refine lv_iconst (v := 0) hx hb dX8_pull_5 (by decide) ?_
  refine lv_iconst (v := 0) hx hb dX8_pull_6 (by decide) ?_
  refine lv_lconst (v := 0) hx hb dX8_pull_7 (by decide) ?_
  obtain ⟨q8, e8, hf⟩ := g_be hf
  refine g_calli X (g_runV (As := [.int (4 : Int32), .int a1, .int a2, .int a3, .int (0 : Int32), .int (0 : Int32), .long (0 : Int64)]) (rest := []) C X (cR_called l E A o ad w q8.2 q8.1 (4 : Int32) a1 a2 a3 (0 : Int32) (0 : Int32) (0 : Int64) e8) kX8_called m_700 0 6 rfl rfl hl.1 rfl ⟨Nat.le_of_ble_eq_true rfl, Nat.le_of_ble_eq_true rfl⟩ rfl (Nat.le_of_ble_eq_true rfl) dX8_pull_8 ⟨Nat.le_of_ble_eq_true rfl, Nat.le_of_ble_eq_true rfl⟩) rfl rfl (fun H locs X => ?_)
  exact g_iret (wsR E o ad) C hr hk X hf dX8_pull_11
set_option maxRecDepth 100000 in
set_option maxHeartbeats 4000000 in
theorem cR_copy (l : Launch) (E : g_Env) (A : Nat → Prop) (o : Nat) (ad : Nat → Nat) (w : RS) (w' : RS) (r : Int32) (a1 : Int32) (a2 : Int32) (a3 : Int32) (a4 : Int32) (a5 : Int32) (hf : fR_copy w a1 a2 a3 a4 a5 = some (r, w')) : g_Mi l yX8_copy cX8_copy 6 ((some .int)) ({ frames := 8, cells := 0, slots := 0, locals := 197 }) E A [.ref o, .int a1, .int a2, .int a3, .int a4, .int a5] (wsR E o ad w) r (wsR E o ad w') := by
  refine g_start (by decide) (Nat.le_of_ble_eq_true rfl) ?_
  intro p e s m below meth c C hr hk hnm ls hl H locs X
  have hx := C.1.1
  have hb := C.1.2.1
  have hl : lv_has ls 6 [(0, .ref o), (1, .int a1), (2, .int a2), (3, .int a3), (4, .int a4), (5, .int a5)] := hl
  unfold fR_copy at hf
  refine lv_aload_n hx hb dX8_copy_0 rfl (lv_at hl 0 rfl) ?_
  refine lv_iconst (v := 5) hx hb dX8_copy_1 (by decide) ?_
  refine lv_iload_n hx hb dX8_copy_2 rfl (lv_at hl 1 rfl) ?_
  refine lv_iload_n hx hb dX8_copy_3 rfl (lv_at hl 2 rfl) ?_
  refine lv_iload_n hx hb dX8_copy_4 rfl (lv_at hl 3 rfl) ?_
  refine lv_iload hx hb dX8_copy_5 (lv_at hl 4 rfl) ?_
  refine lv_iload hx hb dX8_copy_7 (lv_at hl 5 rfl) ?_
  refine lv_lconst (v := 0) hx hb dX8_copy_9 (by decide) ?_
  obtain ⟨q10, e10, hf⟩ := g_be hf
  refine g_calli X (g_runV (As := [.int (5 : Int32), .int a1, .int a2, .int a3, .int a4, .int a5, .long (0 : Int64)]) (rest := []) C X (cR_called l E A o ad w q10.2 q10.1 (5 : Int32) a1 a2 a3 a4 a5 (0 : Int64) e10) kX8_called m_700 0 6 rfl rfl hl.1 rfl ⟨Nat.le_of_ble_eq_true rfl, Nat.le_of_ble_eq_true rfl⟩ rfl (Nat.le_of_ble_eq_true rfl) dX8_copy_10 ⟨Nat.le_of_ble_eq_true rfl, Nat.le_of_ble_eq_true rfl⟩) rfl rfl (fun H locs X => ?_)
  exact g_iret (wsR E o ad) C hr hk X hf dX8_copy_13
set_option maxRecDepth 100000 in
set_option maxHeartbeats 4000000 in
theorem cR_write (l : Launch) (E : g_Env) (A : Nat → Prop) (o : Nat) (ad : Nat → Nat) (w : RS) (w' : RS) (r : Int32) (a1 : Int32) (a2 : Int32) (a3 : Int64) (hf : fR_write w a1 a2 a3 = some (r, w')) : g_Mi l yX8_write cX8_write 5 ((some .int)) ({ frames := 8, cells := 0, slots := 0, locals := 197 }) E A [.ref o, .int a1, .int a2, .long a3] (wsR E o ad w) r (wsR E o ad w') := by
  refine g_start (by decide) (Nat.le_of_ble_eq_true rfl) ?_
  intro p e s m below meth c C hr hk hnm ls hl H locs X
  have hx := C.1.1
  have hb := C.1.2.1
  have hl : lv_has ls 5 [(0, .ref o), (1, .int a1), (2, .int a2), (3, .long a3)] := hl
  unfold fR_write at hf
  refine lv_aload_n hx hb dX8_write_0 rfl (lv_at hl 0 rfl) ?_
  refine lv_bipush (v := 6) hx hb dX8_write_1 (by decide) ?_
  refine lv_iload_n hx hb dX8_write_3 rfl (lv_at hl 1 rfl) ?_
  refine lv_iload_n hx hb dX8_write_4 rfl (lv_at hl 2 rfl) ?_
  refine lv_iconst (v := 0) hx hb dX8_write_5 (by decide) ?_
  refine lv_iconst (v := 0) hx hb dX8_write_6 (by decide) ?_
  refine lv_iconst (v := 0) hx hb dX8_write_7 (by decide) ?_
  refine lv_lload_n hx hb dX8_write_8 rfl (lv_at hl 3 rfl) ?_
  obtain ⟨q9, e9, hf⟩ := g_be hf
  refine g_calli X (g_runV (As := [.int (6 : Int32), .int a1, .int a2, .int (0 : Int32), .int (0 : Int32), .int (0 : Int32), .long a3]) (rest := []) C X (cR_called l E A o ad w q9.2 q9.1 (6 : Int32) a1 a2 (0 : Int32) (0 : Int32) (0 : Int32) a3 e9) kX8_called m_700 0 6 rfl rfl hl.1 rfl ⟨Nat.le_of_ble_eq_true rfl, Nat.le_of_ble_eq_true rfl⟩ rfl (Nat.le_of_ble_eq_true rfl) dX8_write_9 ⟨Nat.le_of_ble_eq_true rfl, Nat.le_of_ble_eq_true rfl⟩) rfl rfl (fun H locs X => ?_)
  exact g_iret (wsR E o ad) C hr hk X hf dX8_write_12
set_option maxRecDepth 100000 in
set_option maxHeartbeats 4000000 in
theorem cR_knob (l : Launch) (E : g_Env) (A : Nat → Prop) (o : Nat) (ad : Nat → Nat) (w : RS) (w' : RS) (r : Int32) (a1 : Int32) (a2 : Int32) (hf : fR_knob w a1 a2 = some (r, w')) : g_Mi l yX8_knob cX8_knob 3 ((some .int)) ({ frames := 8, cells := 0, slots := 0, locals := 197 }) E A [.ref o, .int a1, .int a2] (wsR E o ad w) r (wsR E o ad w') := by
  refine g_start (by decide) (Nat.le_of_ble_eq_true rfl) ?_
  intro p e s m below meth c C hr hk hnm ls hl H locs X
  have hx := C.1.1
  have hb := C.1.2.1
  have hl : lv_has ls 3 [(0, .ref o), (1, .int a1), (2, .int a2)] := hl
  unfold fR_knob at hf
  refine lv_aload_n hx hb dX8_knob_0 rfl (lv_at hl 0 rfl) ?_
  refine lv_bipush (v := 7) hx hb dX8_knob_1 (by decide) ?_
  refine lv_iload_n hx hb dX8_knob_3 rfl (lv_at hl 1 rfl) ?_
  refine lv_iload_n hx hb dX8_knob_4 rfl (lv_at hl 2 rfl) ?_
  refine lv_iconst (v := 0) hx hb dX8_knob_5 (by decide) ?_
  refine lv_iconst (v := 0) hx hb dX8_knob_6 (by decide) ?_
  refine lv_iconst (v := 0) hx hb dX8_knob_7 (by decide) ?_
  refine lv_lconst (v := 0) hx hb dX8_knob_8 (by decide) ?_
  obtain ⟨q9, e9, hf⟩ := g_be hf
  refine g_calli X (g_runV (As := [.int (7 : Int32), .int a1, .int a2, .int (0 : Int32), .int (0 : Int32), .int (0 : Int32), .long (0 : Int64)]) (rest := []) C X (cR_called l E A o ad w q9.2 q9.1 (7 : Int32) a1 a2 (0 : Int32) (0 : Int32) (0 : Int32) (0 : Int64) e9) kX8_called m_700 0 6 rfl rfl hl.1 rfl ⟨Nat.le_of_ble_eq_true rfl, Nat.le_of_ble_eq_true rfl⟩ rfl (Nat.le_of_ble_eq_true rfl) dX8_knob_9 ⟨Nat.le_of_ble_eq_true rfl, Nat.le_of_ble_eq_true rfl⟩) rfl rfl (fun H locs X => ?_)
  exact g_iret (wsR E o ad) C hr hk X hf dX8_knob_12
set_option maxRecDepth 100000 in
set_option maxHeartbeats 4000000 in
theorem cR_play (l : Launch) (E : g_Env) (A : Nat → Prop) (o : Nat) (ad : Nat → Nat) (w : RS) (w' : RS) (r : Int32) (a1 : Int32) (a2 : Int32) (hf : fR_play w a1 a2 = some (r, w')) : g_Mi l yX8_play cX8_play 3 ((some .int)) ({ frames := 8, cells := 0, slots := 0, locals := 197 }) E A [.ref o, .int a1, .int a2] (wsR E o ad w) r (wsR E o ad w') := by
  refine g_start (by decide) (Nat.le_of_ble_eq_true rfl) ?_
  intro p e s m below meth c C hr hk hnm ls hl H locs X
  have hx := C.1.1
  have hb := C.1.2.1
  have hl : lv_has ls 3 [(0, .ref o), (1, .int a1), (2, .int a2)] := hl
  unfold fR_play at hf
  refine lv_aload_n hx hb dX8_play_0 rfl (lv_at hl 0 rfl) ?_
  refine lv_bipush (v := 8) hx hb dX8_play_1 (by decide) ?_
  refine lv_iload_n hx hb dX8_play_3 rfl (lv_at hl 1 rfl) ?_
  refine lv_iload_n hx hb dX8_play_4 rfl (lv_at hl 2 rfl) ?_
  refine lv_iconst (v := 0) hx hb dX8_play_5 (by decide) ?_
  refine lv_iconst (v := 0) hx hb dX8_play_6 (by decide) ?_
  refine lv_iconst (v := 0) hx hb dX8_play_7 (by decide) ?_
  refine lv_lconst (v := 0) hx hb dX8_play_8 (by decide) ?_
  obtain ⟨q9, e9, hf⟩ := g_be hf
  refine g_calli X (g_runV (As := [.int (8 : Int32), .int a1, .int a2, .int (0 : Int32), .int (0 : Int32), .int (0 : Int32), .long (0 : Int64)]) (rest := []) C X (cR_called l E A o ad w q9.2 q9.1 (8 : Int32) a1 a2 (0 : Int32) (0 : Int32) (0 : Int32) (0 : Int64) e9) kX8_called m_700 0 6 rfl rfl hl.1 rfl ⟨Nat.le_of_ble_eq_true rfl, Nat.le_of_ble_eq_true rfl⟩ rfl (Nat.le_of_ble_eq_true rfl) dX8_play_9 ⟨Nat.le_of_ble_eq_true rfl, Nat.le_of_ble_eq_true rfl⟩) rfl rfl (fun H locs X => ?_)
  exact g_iret (wsR E o ad) C hr hk X hf dX8_play_12
set_option maxRecDepth 100000 in
set_option maxHeartbeats 4000000 in
theorem cR_run (l : Launch) (E : g_Env) (A : Nat → Prop) (o : Nat) (ad : Nat → Nat) (w : RS) (w' : RS) (r : Int32) (a1 : Int32) (a2 : Int32) (hf : fR_run w a1 a2 = some (r, w')) : g_Mi l yX8_run cX8_run 3 ((some .int)) ({ frames := 8, cells := 0, slots := 0, locals := 197 }) E A [.ref o, .int a1, .int a2] (wsR E o ad w) r (wsR E o ad w') := by
  refine g_start (by decide) (Nat.le_of_ble_eq_true rfl) ?_
  intro p e s m below meth c C hr hk hnm ls hl H locs X
  have hx := C.1.1
  have hb := C.1.2.1
  have hl : lv_has ls 3 [(0, .ref o), (1, .int a1), (2, .int a2)] := hl
  unfold fR_run at hf
  refine lv_aload_n hx hb dX8_run_0 rfl (lv_at hl 0 rfl) ?_
  refine lv_bipush (v := 9) hx hb dX8_run_1 (by decide) ?_
  refine lv_iload_n hx hb dX8_run_3 rfl (lv_at hl 1 rfl) ?_
  refine lv_iload_n hx hb dX8_run_4 rfl (lv_at hl 2 rfl) ?_
  refine lv_iconst (v := 0) hx hb dX8_run_5 (by decide) ?_
  refine lv_iconst (v := 0) hx hb dX8_run_6 (by decide) ?_
  refine lv_iconst (v := 0) hx hb dX8_run_7 (by decide) ?_
  refine lv_lconst (v := 0) hx hb dX8_run_8 (by decide) ?_
  obtain ⟨q9, e9, hf⟩ := g_be hf
  refine g_calli X (g_runV (As := [.int (9 : Int32), .int a1, .int a2, .int (0 : Int32), .int (0 : Int32), .int (0 : Int32), .long (0 : Int64)]) (rest := []) C X (cR_called l E A o ad w q9.2 q9.1 (9 : Int32) a1 a2 (0 : Int32) (0 : Int32) (0 : Int32) (0 : Int64) e9) kX8_called m_700 0 6 rfl rfl hl.1 rfl ⟨Nat.le_of_ble_eq_true rfl, Nat.le_of_ble_eq_true rfl⟩ rfl (Nat.le_of_ble_eq_true rfl) dX8_run_9 ⟨Nat.le_of_ble_eq_true rfl, Nat.le_of_ble_eq_true rfl⟩) rfl rfl (fun H locs X => ?_)
  exact g_iret (wsR E o ad) C hr hk X hf dX8_run_12
set_option maxRecDepth 100000 in
set_option maxHeartbeats 4000000 in
theorem cR_ticks (l : Launch) (E : g_Env) (A : Nat → Prop) (o : Nat) (ad : Nat → Nat) (w : RS) (w' : RS) (r : Int32) (a1 : Int32) (a2 : Int32) (hf : fR_ticks w a1 a2 = some (r, w')) : g_Mi l yX8_ticks cX8_ticks 3 ((some .int)) ({ frames := 8, cells := 0, slots := 0, locals := 197 }) E A [.ref o, .int a1, .int a2] (wsR E o ad w) r (wsR E o ad w') := by
  refine g_start (by decide) (Nat.le_of_ble_eq_true rfl) ?_
  intro p e s m below meth c C hr hk hnm ls hl H locs X
  have hx := C.1.1
  have hb := C.1.2.1
  have hl : lv_has ls 3 [(0, .ref o), (1, .int a1), (2, .int a2)] := hl
  unfold fR_ticks at hf
  refine lv_aload_n hx hb dX8_ticks_0 rfl (lv_at hl 0 rfl) ?_
  refine lv_bipush (v := 10) hx hb dX8_ticks_1 (by decide) ?_
  refine lv_iload_n hx hb dX8_ticks_3 rfl (lv_at hl 1 rfl) ?_
  refine lv_iload_n hx hb dX8_ticks_4 rfl (lv_at hl 2 rfl) ?_
  refine lv_iconst (v := 0) hx hb dX8_ticks_5 (by decide) ?_
  refine lv_iconst (v := 0) hx hb dX8_ticks_6 (by decide) ?_
  refine lv_iconst (v := 0) hx hb dX8_ticks_7 (by decide) ?_
  refine lv_lconst (v := 0) hx hb dX8_ticks_8 (by decide) ?_
  obtain ⟨q9, e9, hf⟩ := g_be hf
  refine g_calli X (g_runV (As := [.int (10 : Int32), .int a1, .int a2, .int (0 : Int32), .int (0 : Int32), .int (0 : Int32), .long (0 : Int64)]) (rest := []) C X (cR_called l E A o ad w q9.2 q9.1 (10 : Int32) a1 a2 (0 : Int32) (0 : Int32) (0 : Int32) (0 : Int64) e9) kX8_called m_700 0 6 rfl rfl hl.1 rfl ⟨Nat.le_of_ble_eq_true rfl, Nat.le_of_ble_eq_true rfl⟩ rfl (Nat.le_of_ble_eq_true rfl) dX8_ticks_9 ⟨Nat.le_of_ble_eq_true rfl, Nat.le_of_ble_eq_true rfl⟩) rfl rfl (fun H locs X => ?_)
  exact g_iret (wsR E o ad) C hr hk X hf dX8_ticks_12
set_option maxRecDepth 100000 in
set_option maxHeartbeats 4000000 in
theorem cR_rest (l : Launch) (E : g_Env) (A : Nat → Prop) (o : Nat) (ad : Nat → Nat) (w : RS) (w' : RS) (r : Int32) (a1 : Int32) (hf : fR_rest w a1 = some (r, w')) : g_Mi l yX8_rest cX8_rest 2 ((some .int)) ({ frames := 8, cells := 0, slots := 0, locals := 197 }) E A [.ref o, .int a1] (wsR E o ad w) r (wsR E o ad w') := by
  refine g_start (by decide) (Nat.le_of_ble_eq_true rfl) ?_
  intro p e s m below meth c C hr hk hnm ls hl H locs X
  have hx := C.1.1
  have hb := C.1.2.1
  have hl : lv_has ls 2 [(0, .ref o), (1, .int a1)] := hl
  unfold fR_rest at hf
  refine lv_aload_n hx hb dX8_rest_0 rfl (lv_at hl 0 rfl) ?_
  refine lv_bipush (v := 11) hx hb dX8_rest_1 (by decide) ?_
  refine lv_iload_n hx hb dX8_rest_3 rfl (lv_at hl 1 rfl) ?_
  refine lv_iconst (v := 0) hx hb dX8_rest_4 (by decide) ?_
  refine lv_iconst (v := 0) hx hb dX8_rest_5 (by decide) ?_
  refine lv_iconst (v := 0) hx hb dX8_rest_6 (by decide) ?_
  refine lv_iconst (v := 0) hx hb dX8_rest_7 (by decide) ?_
  refine lv_lconst (v := 0) hx hb dX8_rest_8 (by decide) ?_
  obtain ⟨q9, e9, hf⟩ := g_be hf
  refine g_calli X (g_runV (As := [.int (11 : Int32), .int a1, .int (0 : Int32), .int (0 : Int32), .int (0 : Int32), .int (0 : Int32), .long (0 : Int64)]) (rest := []) C X (cR_called l E A o ad w q9.2 q9.1 (11 : Int32) a1 (0 : Int32) (0 : Int32) (0 : Int32) (0 : Int32) (0 : Int64) e9) kX8_called m_700 0 6 rfl rfl hl.1 rfl ⟨Nat.le_of_ble_eq_true rfl, Nat.le_of_ble_eq_true rfl⟩ rfl (Nat.le_of_ble_eq_true rfl) dX8_rest_9 ⟨Nat.le_of_ble_eq_true rfl, Nat.le_of_ble_eq_true rfl⟩) rfl rfl (fun H locs X => ?_)
  exact g_iret (wsR E o ad) C hr hk X hf dX8_rest_12
set_option maxRecDepth 100000 in
set_option maxHeartbeats 4000000 in
theorem cR_when (l : Launch) (E : g_Env) (A : Nat → Prop) (o : Nat) (ad : Nat → Nat) (w : RS) (w' : RS) (r : Int32) (a1 : Int32) (a2 : Int32) (hf : fR_when w a1 a2 = some (r, w')) : g_Mi l yX8_when cX8_when 3 ((some .int)) ({ frames := 8, cells := 0, slots := 0, locals := 197 }) E A [.ref o, .int a1, .int a2] (wsR E o ad w) r (wsR E o ad w') := by
  refine g_start (by decide) (Nat.le_of_ble_eq_true rfl) ?_
  intro p e s m below meth c C hr hk hnm ls hl H locs X
  have hx := C.1.1
  have hb := C.1.2.1
  have hl : lv_has ls 3 [(0, .ref o), (1, .int a1), (2, .int a2)] := hl
  unfold fR_when at hf
  refine lv_aload_n hx hb dX8_when_0 rfl (lv_at hl 0 rfl) ?_
  refine g_get C X g_iX8 0 rfl rfl 14 (by decide) rfl m_655 rfl dX8_when_1 ?_
  refine lv_if_ne (tgt := 14) hx hb dX8_when_4 (by decide) (fun c4 => ?_) (fun c4 => ?_)
  · have hf := g_f hf c4
    refine lv_aload_n hx hb dX8_when_14 rfl (lv_at hl 0 rfl) ?_
    refine lv_bipush (v := 12) hx hb dX8_when_15 (by decide) ?_
    refine lv_iload_n hx hb dX8_when_17 rfl (lv_at hl 1 rfl) ?_
    refine lv_iload_n hx hb dX8_when_18 rfl (lv_at hl 2 rfl) ?_
    refine lv_iconst (v := 0) hx hb dX8_when_19 (by decide) ?_
    refine lv_iconst (v := 0) hx hb dX8_when_20 (by decide) ?_
    refine lv_iconst (v := 0) hx hb dX8_when_21 (by decide) ?_
    refine lv_lconst (v := 0) hx hb dX8_when_22 (by decide) ?_
    obtain ⟨q23, e23, hf⟩ := g_be hf
    refine g_calli X (g_runV (As := [.int (12 : Int32), .int a1, .int a2, .int (0 : Int32), .int (0 : Int32), .int (0 : Int32), .long (0 : Int64)]) (rest := []) C X (cR_called l E A o ad w q23.2 q23.1 (12 : Int32) a1 a2 (0 : Int32) (0 : Int32) (0 : Int32) (0 : Int64) e23) kX8_called m_700 0 6 rfl rfl hl.1 rfl ⟨Nat.le_of_ble_eq_true rfl, Nat.le_of_ble_eq_true rfl⟩ rfl (Nat.le_of_ble_eq_true rfl) dX8_when_23 ⟨Nat.le_of_ble_eq_true rfl, Nat.le_of_ble_eq_true rfl⟩) rfl rfl (fun H locs X => ?_)
    exact g_iret (wsR E o ad) C hr hk X hf dX8_when_26
  · have hf := g_t hf c4
    refine lv_aload_n hx hb dX8_when_7 rfl (lv_at hl 0 rfl) ?_
    refine lv_bipush (v := 7) hx hb dX8_when_8 (by decide) ?_
    obtain ⟨q10, e10, hf⟩ := g_be hf
    refine g_calli X (g_runV (As := [.int (7 : Int32)]) (rest := []) C X (cR_refuse l E A o ad w q10.2 q10.1 (7 : Int32) e10) kX8_refuse m_708 0 6 rfl rfl hl.1 rfl ⟨Nat.le_of_ble_eq_true rfl, Nat.le_of_ble_eq_true rfl⟩ rfl (Nat.le_of_ble_eq_true rfl) dX8_when_10 ⟨Nat.le_of_ble_eq_true rfl, Nat.le_of_ble_eq_true rfl⟩) rfl rfl (fun H locs X => ?_)
    exact g_iret (wsR E o ad) C hr hk X hf dX8_when_13
set_option maxRecDepth 100000 in
set_option maxHeartbeats 4000000 in
theorem cR_begin (l : Launch) (E : g_Env) (A : Nat → Prop) (o : Nat) (ad : Nat → Nat) (w : RS) (w' : RS) (r : Int32)  (hf : fR_begin w  = some (r, w')) : g_Mi l yX8_begin cX8_begin 1 ((some .int)) ({ frames := 1, cells := 0, slots := 0, locals := 21 }) E A [.ref o] (wsR E o ad w) r (wsR E o ad w') := by
  refine g_start (by decide) (Nat.le_of_ble_eq_true rfl) ?_
  intro p e s m below meth c C hr hk hnm ls hl H locs X
  have hx := C.1.1
  have hb := C.1.2.1
  have hl : lv_has ls 1 [(0, .ref o)] := hl
  unfold fR_begin at hf
  refine lv_aload_n hx hb dX8_begin_0 rfl (lv_at hl 0 rfl) ?_
  refine g_get C X g_iX8 0 rfl rfl 14 (by decide) rfl m_655 rfl dX8_begin_1 ?_
  refine lv_if_eq (tgt := 14) hx hb dX8_begin_4 (by decide) (fun c4 => ?_) (fun c4 => ?_)
  · have hf := g_t hf c4
    refine lv_aload_n hx hb dX8_begin_14 rfl (lv_at hl 0 rfl) ?_
    refine lv_iconst (v := 1) hx hb dX8_begin_15 (by decide) ?_
    obtain ⟨w16, e16, hf⟩ := g_le hf
    refine g_put C X g_iX8 tyX8_ok nmX8 0 rfl rfl 14 (by decide) rfl m_655 rfl rfl rfl (Nat.le_of_ble_eq_true rfl) dX8_begin_16 (ws2 := wsR E o ad w16) (by subst e16; rfl) (fun H locs X => ?_)
    refine lv_aload_n hx hb dX8_begin_19 rfl (lv_at hl 0 rfl) ?_
    refine lv_aload_n hx hb dX8_begin_20 rfl (lv_at hl 0 rfl) ?_
    refine g_get C X g_iX8 0 rfl rfl 11 (by decide) rfl m_652 rfl dX8_begin_21 ?_
    obtain ⟨w24, e24, hf⟩ := g_le hf
    refine g_put C X g_iX8 tyX8_ok nmX8 0 rfl rfl 12 (by decide) rfl m_653 rfl rfl rfl (Nat.le_of_ble_eq_true rfl) dX8_begin_24 (ws2 := wsR E o ad w24) (by subst e24; rfl) (fun H locs X => ?_)
    refine lv_aload_n hx hb dX8_begin_27 rfl (lv_at hl 0 rfl) ?_
    refine lv_iconst (v := 0) hx hb dX8_begin_28 (by decide) ?_
    obtain ⟨w29, e29, hf⟩ := g_le hf
    refine g_put C X g_iX8 tyX8_ok nmX8 0 rfl rfl 13 (by decide) rfl m_654 rfl rfl rfl (Nat.le_of_ble_eq_true rfl) dX8_begin_29 (ws2 := wsR E o ad w29) (by subst e29; rfl) (fun H locs X => ?_)
    refine lv_aload_n hx hb dX8_begin_32 rfl (lv_at hl 0 rfl) ?_
    refine lv_iconst (v := 0) hx hb dX8_begin_33 (by decide) ?_
    obtain ⟨w34, e34, hf⟩ := g_le hf
    refine g_put C X g_iX8 tyX8_ok nmX8 0 rfl rfl 15 (by decide) rfl m_656 rfl rfl rfl (Nat.le_of_ble_eq_true rfl) dX8_begin_34 (ws2 := wsR E o ad w34) (by subst e34; rfl) (fun H locs X => ?_)
    refine lv_iconst (v := 1) hx hb dX8_begin_37 (by decide) ?_
    exact g_iret (wsR E o ad) C hr hk X hf dX8_begin_38
  · have hf := g_f hf c4
    refine lv_aload_n hx hb dX8_begin_7 rfl (lv_at hl 0 rfl) ?_
    refine lv_bipush (v := 7) hx hb dX8_begin_8 (by decide) ?_
    obtain ⟨q10, e10, hf⟩ := g_be hf
    refine g_calli X (g_runV (As := [.int (7 : Int32)]) (rest := []) C X (cR_refuse l E A o ad w q10.2 q10.1 (7 : Int32) e10) kX8_refuse m_708 0 6 rfl rfl hl.1 rfl ⟨Nat.le_of_ble_eq_true rfl, Nat.le_of_ble_eq_true rfl⟩ rfl (Nat.le_of_ble_eq_true rfl) dX8_begin_10 ⟨Nat.le_of_ble_eq_true rfl, Nat.le_of_ble_eq_true rfl⟩) rfl rfl (fun H locs X => ?_)
    exact g_iret (wsR E o ad) C hr hk X hf dX8_begin_13
set_option maxRecDepth 100000 in
set_option maxHeartbeats 4000000 in
theorem cR_end (l : Launch) (E : g_Env) (A : Nat → Prop) (o : Nat) (ad : Nat → Nat) (w : RS) (w' : RS) (r : Int32)  (hf : fR_end w  = some (r, w')) : g_Mi l yX8_end cX8_end 1 ((some .int)) ({ frames := 1, cells := 0, slots := 0, locals := 21 }) E A [.ref o] (wsR E o ad w) r (wsR E o ad w') := by
  refine g_start (by decide) (Nat.le_of_ble_eq_true rfl) ?_
  intro p e s m below meth c C hr hk hnm ls hl H locs X
  have hx := C.1.1
  have hb := C.1.2.1
  have hl : lv_has ls 1 [(0, .ref o)] := hl
  unfold fR_end at hf
  refine lv_aload_n hx hb dX8_end_0 rfl (lv_at hl 0 rfl) ?_
  refine g_get C X g_iX8 0 rfl rfl 14 (by decide) rfl m_655 rfl dX8_end_1 ?_
  refine lv_if_ne (tgt := 14) hx hb dX8_end_4 (by decide) (fun c4 => ?_) (fun c4 => ?_)
  · have hf := g_f hf c4
    refine lv_aload_n hx hb dX8_end_14 rfl (lv_at hl 0 rfl) ?_
    refine lv_iconst (v := 0) hx hb dX8_end_15 (by decide) ?_
    obtain ⟨w16, e16, hf⟩ := g_le hf
    refine g_put C X g_iX8 tyX8_ok nmX8 0 rfl rfl 14 (by decide) rfl m_655 rfl rfl rfl (Nat.le_of_ble_eq_true rfl) dX8_end_16 (ws2 := wsR E o ad w16) (by subst e16; rfl) (fun H locs X => ?_)
    refine lv_aload_n hx hb dX8_end_19 rfl (lv_at hl 0 rfl) ?_
    refine lv_iconst (v := 0) hx hb dX8_end_20 (by decide) ?_
    obtain ⟨w21, e21, hf⟩ := g_le hf
    refine g_put C X g_iX8 tyX8_ok nmX8 0 rfl rfl 15 (by decide) rfl m_656 rfl rfl rfl (Nat.le_of_ble_eq_true rfl) dX8_end_21 (ws2 := wsR E o ad w21) (by subst e21; rfl) (fun H locs X => ?_)
    refine lv_aload_n hx hb dX8_end_24 rfl (lv_at hl 0 rfl) ?_
    refine g_get C X g_iX8 0 rfl rfl 13 (by decide) rfl m_654 rfl dX8_end_25 ?_
    exact g_iret (wsR E o ad) C hr hk X hf dX8_end_28
  · have hf := g_t hf c4
    refine lv_aload_n hx hb dX8_end_7 rfl (lv_at hl 0 rfl) ?_
    refine lv_bipush (v := 7) hx hb dX8_end_8 (by decide) ?_
    obtain ⟨q10, e10, hf⟩ := g_be hf
    refine g_calli X (g_runV (As := [.int (7 : Int32)]) (rest := []) C X (cR_refuse l E A o ad w q10.2 q10.1 (7 : Int32) e10) kX8_refuse m_708 0 6 rfl rfl hl.1 rfl ⟨Nat.le_of_ble_eq_true rfl, Nat.le_of_ble_eq_true rfl⟩ rfl (Nat.le_of_ble_eq_true rfl) dX8_end_10 ⟨Nat.le_of_ble_eq_true rfl, Nat.le_of_ble_eq_true rfl⟩) rfl rfl (fun H locs X => ?_)
    exact g_iret (wsR E o ad) C hr hk X hf dX8_end_13
set_option maxRecDepth 100000 in
set_option maxHeartbeats 4000000 in
theorem cR_keepState (l : Launch) (E : g_Env) (A : Nat → Prop) (o : Nat) (ad : Nat → Nat) (w : RS) (w' : RS)  (hf : fR_keepState w  = some w') : g_Mv l yX8_keepState cX8_keepState 2 ({ frames := 1, cells := 0, slots := 0, locals := 25 }) E A [.ref o] (wsR E o ad w) (wsR E o ad w') := by
  refine g_start (by decide) (Nat.le_of_ble_eq_true rfl) ?_
  intro p e s m below meth c C hr hk hnm ls hl H locs X
  have hx := C.1.1
  have hb := C.1.2.1
  have hl : lv_has ls 2 [(0, .ref o)] := hl
  have j18 : ∀ (n : Nat) (w : RS) (x1 : Int32) (ls : Array Slot) (H : Heap) (locs : List Loc), fR_keepState_18 n w x1 = some w' → lv_has ls 2 [(0, .ref o), (1, .int x1)] → g_W E A s H locs (wsR E o ad w) → W p l e ({ frames := 1, cells := 0, slots := 0, locals := 25 }) s m ([.ref o] : List Value).toArray below meth c H locs 0 0 (MQ below (va_Qv (fun (u' : va_W) => u' = wsR E o ad w') (g_B E A) A) ([.ref o] : List Value).toArray s 0 0 A) (F0 m 18 ls []) := by
    intro n
    induction n with
    | zero => intro w x1 ls H locs hf; exact absurd hf (by simp [fR_keepState_18])
    | succ n18 ih18 =>
      intro w x1 ls H locs hf hl X
      unfold fR_keepState_18 at hf
      refine lv_iload_n hx hb dX8_keepState_18 rfl (lv_at hl 1 rfl) ?_
      refine lv_sipush (v := 720) hx hb dX8_keepState_19 (by decide) ?_
      refine lv_icmp_ge (tgt := 43) hx hb dX8_keepState_22 (by decide) (fun c22 => ?_) (fun c22 => ?_)
      · have hf := g_t hf c22
        exact g_vret (wsR E o ad) C hr hk X hf dX8_keepState_43
      · have hf := g_f hf c22
        refine lv_aload_n hx hb dX8_keepState_25 rfl (lv_at hl 0 rfl) ?_
        refine g_get C X g_iX8 0 rfl rfl 5 (by decide) rfl m_646 rfl dX8_keepState_26 ?_
        refine lv_iload_n hx hb dX8_keepState_29 rfl (lv_at hl 1 rfl) ?_
        refine lv_aload_n hx hb dX8_keepState_30 rfl (lv_at hl 0 rfl) ?_
        refine g_get C X g_iX8 0 rfl rfl 3 (by decide) rfl m_644 rfl dX8_keepState_31 ?_
        refine lv_iload_n hx hb dX8_keepState_34 rfl (lv_at hl 1 rfl) ?_
        obtain ⟨h35, hf⟩ := g_cke hf
        obtain ⟨v35, e35, hf⟩ := g_le hf
        refine g_lald C X 4 rfl h35 e35 dX8_keepState_35 ?_
        obtain ⟨h36, hf⟩ := g_cke hf
        obtain ⟨w36, e36, hf⟩ := g_le hf
        refine g_last C X 6 rfl h36 dX8_keepState_36 (ws2 := wsR E o ad w36) (by subst e36; rfl) (fun H locs X => ?_)
        refine lv_iinc (v := x1 + (1 : Int32)) (lv' := [(1, .int (x1 + (1 : Int32))), (0, .ref o)]) hx hb dX8_keepState_37 hl (k := 1) rfl rfl (by decide) rfl (fun ls hl => ?_)
        refine lv_goto (tgt := 18) hx hb dX8_keepState_40 (by decide) ?_
        exact ih18 w36 (x1 + (1 : Int32)) ls H locs hf (lv_sub hl [1, 0] rfl) X
  unfold fR_keepState at hf
  refine lv_aload_n hx hb dX8_keepState_0 rfl (lv_at hl 0 rfl) ?_
  refine g_get C X g_iX8 0 rfl rfl 2 (by decide) rfl m_643 rfl dX8_keepState_1 ?_
  refine lv_iconst (v := 0) hx hb dX8_keepState_4 (by decide) ?_
  refine lv_aload_n hx hb dX8_keepState_5 rfl (lv_at hl 0 rfl) ?_
  refine g_get C X g_iX8 0 rfl rfl 4 (by decide) rfl m_645 rfl dX8_keepState_6 ?_
  refine lv_iconst (v := 0) hx hb dX8_keepState_9 (by decide) ?_
  refine lv_sipush (v := 557) hx hb dX8_keepState_10 (by decide) ?_
  obtain ⟨q13, e13, hf⟩ := g_be hf
  refine g_callv X (g_runS (As := [.ref (ad 2), .int (0 : Int32), .ref (ad 4), .int (0 : Int32), .int (557 : Int32)]) (rest := []) C X (cR_copyInts_state_before l E A o ad w q13  (0 : Int32) (0 : Int32) (557 : Int32) e13) kX8_copyInts m_712 hl.1 rfl ⟨Nat.le_of_ble_eq_true rfl, Nat.le_of_ble_eq_true rfl⟩ rfl (Nat.le_of_ble_eq_true rfl) dX8_keepState_13 ⟨Nat.le_of_ble_eq_true rfl, Nat.le_of_ble_eq_true rfl⟩) rfl rfl (fun H locs X => ?_)
  refine lv_iconst (v := 0) hx hb dX8_keepState_16 (by decide) ?_
  refine lv_istore_n (lv' := [(1, .int (0 : Int32)), (0, .ref o)]) hx hb dX8_keepState_17 rfl hl (by decide) rfl (fun ls hl => ?_)
  exact j18 g_fuel q13 (0 : Int32) ls H locs hf (lv_sub hl [1, 0] rfl) X
set_option maxRecDepth 100000 in
set_option maxHeartbeats 4000000 in
theorem cR_putBack (l : Launch) (E : g_Env) (A : Nat → Prop) (o : Nat) (ad : Nat → Nat) (w : RS) (w' : RS)  (hf : fR_putBack w  = some w') : g_Mv l yX8_putBack cX8_putBack 2 ({ frames := 1, cells := 0, slots := 0, locals := 25 }) E A [.ref o] (wsR E o ad w) (wsR E o ad w') := by
  refine g_start (by decide) (Nat.le_of_ble_eq_true rfl) ?_
  intro p e s m below meth c C hr hk hnm ls hl H locs X
  have hx := C.1.1
  have hb := C.1.2.1
  have hl : lv_has ls 2 [(0, .ref o)] := hl
  have j18 : ∀ (n : Nat) (w : RS) (x1 : Int32) (ls : Array Slot) (H : Heap) (locs : List Loc), fR_putBack_18 n w x1 = some w' → lv_has ls 2 [(0, .ref o), (1, .int x1)] → g_W E A s H locs (wsR E o ad w) → W p l e ({ frames := 1, cells := 0, slots := 0, locals := 25 }) s m ([.ref o] : List Value).toArray below meth c H locs 0 0 (MQ below (va_Qv (fun (u' : va_W) => u' = wsR E o ad w') (g_B E A) A) ([.ref o] : List Value).toArray s 0 0 A) (F0 m 18 ls []) := by
    intro n
    induction n with
    | zero => intro w x1 ls H locs hf; exact absurd hf (by simp [fR_putBack_18])
    | succ n18 ih18 =>
      intro w x1 ls H locs hf hl X
      unfold fR_putBack_18 at hf
      refine lv_iload_n hx hb dX8_putBack_18 rfl (lv_at hl 1 rfl) ?_
      refine lv_sipush (v := 720) hx hb dX8_putBack_19 (by decide) ?_
      refine lv_icmp_ge (tgt := 43) hx hb dX8_putBack_22 (by decide) (fun c22 => ?_) (fun c22 => ?_)
      · have hf := g_t hf c22
        exact g_vret (wsR E o ad) C hr hk X hf dX8_putBack_43
      · have hf := g_f hf c22
        refine lv_aload_n hx hb dX8_putBack_25 rfl (lv_at hl 0 rfl) ?_
        refine g_get C X g_iX8 0 rfl rfl 3 (by decide) rfl m_644 rfl dX8_putBack_26 ?_
        refine lv_iload_n hx hb dX8_putBack_29 rfl (lv_at hl 1 rfl) ?_
        refine lv_aload_n hx hb dX8_putBack_30 rfl (lv_at hl 0 rfl) ?_
        refine g_get C X g_iX8 0 rfl rfl 5 (by decide) rfl m_646 rfl dX8_putBack_31 ?_
        refine lv_iload_n hx hb dX8_putBack_34 rfl (lv_at hl 1 rfl) ?_
        obtain ⟨h35, hf⟩ := g_cke hf
        obtain ⟨v35, e35, hf⟩ := g_le hf
        refine g_lald C X 6 rfl h35 e35 dX8_putBack_35 ?_
        obtain ⟨h36, hf⟩ := g_cke hf
        obtain ⟨w36, e36, hf⟩ := g_le hf
        refine g_last C X 4 rfl h36 dX8_putBack_36 (ws2 := wsR E o ad w36) (by subst e36; rfl) (fun H locs X => ?_)
        refine lv_iinc (v := x1 + (1 : Int32)) (lv' := [(1, .int (x1 + (1 : Int32))), (0, .ref o)]) hx hb dX8_putBack_37 hl (k := 1) rfl rfl (by decide) rfl (fun ls hl => ?_)
        refine lv_goto (tgt := 18) hx hb dX8_putBack_40 (by decide) ?_
        exact ih18 w36 (x1 + (1 : Int32)) ls H locs hf (lv_sub hl [1, 0] rfl) X
  unfold fR_putBack at hf
  refine lv_aload_n hx hb dX8_putBack_0 rfl (lv_at hl 0 rfl) ?_
  refine g_get C X g_iX8 0 rfl rfl 4 (by decide) rfl m_645 rfl dX8_putBack_1 ?_
  refine lv_iconst (v := 0) hx hb dX8_putBack_4 (by decide) ?_
  refine lv_aload_n hx hb dX8_putBack_5 rfl (lv_at hl 0 rfl) ?_
  refine g_get C X g_iX8 0 rfl rfl 2 (by decide) rfl m_643 rfl dX8_putBack_6 ?_
  refine lv_iconst (v := 0) hx hb dX8_putBack_9 (by decide) ?_
  refine lv_sipush (v := 557) hx hb dX8_putBack_10 (by decide) ?_
  obtain ⟨q13, e13, hf⟩ := g_be hf
  refine g_callv X (g_runS (As := [.ref (ad 4), .int (0 : Int32), .ref (ad 2), .int (0 : Int32), .int (557 : Int32)]) (rest := []) C X (cR_copyInts_before_state l E A o ad w q13  (0 : Int32) (0 : Int32) (557 : Int32) e13) kX8_copyInts m_712 hl.1 rfl ⟨Nat.le_of_ble_eq_true rfl, Nat.le_of_ble_eq_true rfl⟩ rfl (Nat.le_of_ble_eq_true rfl) dX8_putBack_13 ⟨Nat.le_of_ble_eq_true rfl, Nat.le_of_ble_eq_true rfl⟩) rfl rfl (fun H locs X => ?_)
  refine lv_iconst (v := 0) hx hb dX8_putBack_16 (by decide) ?_
  refine lv_istore_n (lv' := [(1, .int (0 : Int32)), (0, .ref o)]) hx hb dX8_putBack_17 rfl hl (by decide) rfl (fun ls hl => ?_)
  exact j18 g_fuel q13 (0 : Int32) ls H locs hf (lv_sub hl [1, 0] rfl) X
set_option maxRecDepth 100000 in
set_option maxHeartbeats 4000000 in
theorem cR_carry (l : Launch) (E : g_Env) (A : Nat → Prop) (o : Nat) (ad : Nat → Nat) (w : RS) (w' : RS) (r : Int32) (a1 : Int32) (hf : fR_carry w a1 = some (r, w')) : g_Mi l yX8_carry cX8_carry 3 ((some .int)) ({ frames := 8, cells := 0, slots := 0, locals := 196 }) E A [.ref o, .int a1] (wsR E o ad w) r (wsR E o ad w') := by
  refine g_start (by decide) (Nat.le_of_ble_eq_true rfl) ?_
  intro p e s m below meth c C hr hk hnm ls hl H locs X
  have hx := C.1.1
  have hb := C.1.2.1
  have hl : lv_has ls 3 [(0, .ref o), (1, .int a1)] := hl
  unfold fR_carry at hf
  refine lv_iload_n hx hb dX8_carry_0 rfl (lv_at hl 1 rfl) ?_
  refine lv_iconst (v := 1) hx hb dX8_carry_1 (by decide) ?_
  refine lv_icmp_lt (tgt := 10) hx hb dX8_carry_2 (by decide) (fun c2 => ?_) (fun c2 => ?_)
  · have hf := g_t hf c2
    refine lv_aload_n hx hb dX8_carry_10 rfl (lv_at hl 0 rfl) ?_
    refine lv_iconst (v := 1) hx hb dX8_carry_11 (by decide) ?_
    obtain ⟨q12, e12, hf⟩ := g_be hf
    refine g_calli X (g_runV (As := [.int (1 : Int32)]) (rest := []) C X (cR_refuse l E A o ad w q12.2 q12.1 (1 : Int32) e12) kX8_refuse m_708 0 6 rfl rfl hl.1 rfl ⟨Nat.le_of_ble_eq_true rfl, Nat.le_of_ble_eq_true rfl⟩ rfl (Nat.le_of_ble_eq_true rfl) dX8_carry_12 ⟨Nat.le_of_ble_eq_true rfl, Nat.le_of_ble_eq_true rfl⟩) rfl rfl (fun H locs X => ?_)
    exact g_iret (wsR E o ad) C hr hk X hf dX8_carry_15
  · have hf := g_f hf c2
    refine lv_iload_n hx hb dX8_carry_5 rfl (lv_at hl 1 rfl) ?_
    refine lv_iconst (v := 4) hx hb dX8_carry_6 (by decide) ?_
    refine lv_icmp_le (tgt := 16) hx hb dX8_carry_7 (by decide) (fun c7 => ?_) (fun c7 => ?_)
    · have hf := g_t hf c7
      refine lv_aload_n hx hb dX8_carry_16 rfl (lv_at hl 0 rfl) ?_
      refine g_get C X g_iX8 0 rfl rfl 14 (by decide) rfl m_655 rfl dX8_carry_17 ?_
      refine lv_if_eq (tgt := 30) hx hb dX8_carry_20 (by decide) (fun c20 => ?_) (fun c20 => ?_)
      · have hf := g_t hf c20
        refine lv_aload_n hx hb dX8_carry_30 rfl (lv_at hl 0 rfl) ?_
        obtain ⟨q31, e31, hf⟩ := g_be hf
        refine g_callv X (g_runV (As := []) (rest := []) C X (cR_keepState l E A o ad w q31   e31) kX8_keepState m_929 0 6 rfl rfl hl.1 rfl ⟨Nat.le_of_ble_eq_true rfl, Nat.le_of_ble_eq_true rfl⟩ rfl (Nat.le_of_ble_eq_true rfl) dX8_carry_31 ⟨Nat.le_of_ble_eq_true rfl, Nat.le_of_ble_eq_true rfl⟩) rfl rfl (fun H locs X => ?_)
        refine lv_aload_n hx hb dX8_carry_34 rfl (lv_at hl 0 rfl) ?_
        refine lv_iconst (v := 0) hx hb dX8_carry_35 (by decide) ?_
        obtain ⟨w36, e36, hf⟩ := g_le hf
        refine g_put C X g_iX8 tyX8_ok nmX8 0 rfl rfl 15 (by decide) rfl m_656 rfl rfl rfl (Nat.le_of_ble_eq_true rfl) dX8_carry_36 (ws2 := wsR E o ad w36) (by subst e36; rfl) (fun H locs X => ?_)
        refine lv_aload_n hx hb dX8_carry_39 rfl (lv_at hl 0 rfl) ?_
        refine lv_iload_n hx hb dX8_carry_40 rfl (lv_at hl 1 rfl) ?_
        refine lv_aload_n hx hb dX8_carry_41 rfl (lv_at hl 0 rfl) ?_
        refine g_get C X g_iX8 0 rfl rfl 12 (by decide) rfl m_653 rfl dX8_carry_42 ?_
        refine lv_aload_n hx hb dX8_carry_45 rfl (lv_at hl 0 rfl) ?_
        refine g_get C X g_iX8 0 rfl rfl 13 (by decide) rfl m_654 rfl dX8_carry_46 ?_
        obtain ⟨q49, e49, hf⟩ := g_be hf
        refine g_calli X (g_runV (As := [.int a1, .int (w36.1 12), .int (w36.1 13)]) (rest := []) C X (cR_carried l E A o ad w36 q49.2 q49.1 a1 (w36.1 12) (w36.1 13) e49) kX8_carried m_933 0 6 rfl rfl hl.1 rfl ⟨Nat.le_of_ble_eq_true rfl, Nat.le_of_ble_eq_true rfl⟩ rfl (Nat.le_of_ble_eq_true rfl) dX8_carry_49 ⟨Nat.le_of_ble_eq_true rfl, Nat.le_of_ble_eq_true rfl⟩) rfl rfl (fun H locs X => ?_)
        refine lv_istore_n (lv' := [(2, .int q49.1), (0, .ref o), (1, .int a1)]) hx hb dX8_carry_52 rfl hl (by decide) rfl (fun ls hl => ?_)
        refine lv_aload_n hx hb dX8_carry_53 rfl (lv_at hl 1 rfl) ?_
        refine g_get C X g_iX8 0 rfl rfl 15 (by decide) rfl m_656 rfl dX8_carry_54 ?_
        refine lv_if_le (tgt := 66) hx hb dX8_carry_57 (by decide) (fun c57 => ?_) (fun c57 => ?_)
        · have hf := g_t hf c57
          refine lv_aload_n hx hb dX8_carry_66 rfl (lv_at hl 1 rfl) ?_
          refine g_get C X g_iX8 0 rfl rfl 17 (by decide) rfl m_658 rfl dX8_carry_67 ?_
          refine lv_iconst (v := 0) hx hb dX8_carry_70 (by decide) ?_
          refine lv_bipush (v := 13) hx hb dX8_carry_71 (by decide) ?_
          obtain ⟨h73, hf⟩ := g_cke hf
          obtain ⟨w73, e73, hf⟩ := g_le hf
          refine g_iast C X 12 rfl h73 dX8_carry_73 (ws2 := wsR E o ad w73) (by subst e73; rfl) (fun H locs X => ?_)
          refine lv_aload_n hx hb dX8_carry_74 rfl (lv_at hl 1 rfl) ?_
          refine g_get C X g_iX8 0 rfl rfl 17 (by decide) rfl m_658 rfl dX8_carry_75 ?_
          refine lv_iconst (v := 1) hx hb dX8_carry_78 (by decide) ?_
          refine lv_iload_n hx hb dX8_carry_79 rfl (lv_at hl 2 rfl) ?_
          obtain ⟨h80, hf⟩ := g_cke hf
          obtain ⟨w80, e80, hf⟩ := g_le hf
          refine g_iast C X 12 rfl h80 dX8_carry_80 (ws2 := wsR E o ad w80) (by subst e80; rfl) (fun H locs X => ?_)
          refine lv_aload_n hx hb dX8_carry_81 rfl (lv_at hl 1 rfl) ?_
          refine g_get C X g_iX8 0 rfl rfl 17 (by decide) rfl m_658 rfl dX8_carry_82 ?_
          refine lv_iconst (v := 2) hx hb dX8_carry_85 (by decide) ?_
          refine lv_aload_n hx hb dX8_carry_86 rfl (lv_at hl 1 rfl) ?_
          refine g_get C X g_iX8 0 rfl rfl 12 (by decide) rfl m_653 rfl dX8_carry_87 ?_
          obtain ⟨h90, hf⟩ := g_cke hf
          obtain ⟨w90, e90, hf⟩ := g_le hf
          refine g_iast C X 12 rfl h90 dX8_carry_90 (ws2 := wsR E o ad w90) (by subst e90; rfl) (fun H locs X => ?_)
          refine lv_aload_n hx hb dX8_carry_91 rfl (lv_at hl 1 rfl) ?_
          refine g_get C X g_iX8 0 rfl rfl 17 (by decide) rfl m_658 rfl dX8_carry_92 ?_
          refine lv_iconst (v := 3) hx hb dX8_carry_95 (by decide) ?_
          refine lv_aload_n hx hb dX8_carry_96 rfl (lv_at hl 1 rfl) ?_
          refine g_get C X g_iX8 0 rfl rfl 13 (by decide) rfl m_654 rfl dX8_carry_97 ?_
          obtain ⟨h100, hf⟩ := g_cke hf
          obtain ⟨w100, e100, hf⟩ := g_le hf
          refine g_iast C X 12 rfl h100 dX8_carry_100 (ws2 := wsR E o ad w100) (by subst e100; rfl) (fun H locs X => ?_)
          refine lv_aload_n hx hb dX8_carry_101 rfl (lv_at hl 1 rfl) ?_
          refine lv_lconst (v := 0) hx hb dX8_carry_102 (by decide) ?_
          obtain ⟨q103, e103, hf⟩ := g_be hf
          refine g_callv X (g_runV (As := [.long (0 : Int64)]) (rest := []) C X (cR_keepAct l E A o ad w100 q103  (0 : Int64) e103) kX8_keepAct m_869 0 6 rfl rfl hl.1 rfl ⟨Nat.le_of_ble_eq_true rfl, Nat.le_of_ble_eq_true rfl⟩ rfl (Nat.le_of_ble_eq_true rfl) dX8_carry_103 ⟨Nat.le_of_ble_eq_true rfl, Nat.le_of_ble_eq_true rfl⟩) rfl rfl (fun H locs X => ?_)
          refine lv_iload_n hx hb dX8_carry_106 rfl (lv_at hl 0 rfl) ?_
          exact g_iret (wsR E o ad) C hr hk X hf dX8_carry_107
        · have hf := g_f hf c57
          refine lv_aload_n hx hb dX8_carry_60 rfl (lv_at hl 1 rfl) ?_
          obtain ⟨q61, e61, hf⟩ := g_be hf
          refine g_callv X (g_runV (As := []) (rest := []) C X (cR_putBack l E A o ad q49.2 q61   e61) kX8_putBack m_937 0 6 rfl rfl hl.1 rfl ⟨Nat.le_of_ble_eq_true rfl, Nat.le_of_ble_eq_true rfl⟩ rfl (Nat.le_of_ble_eq_true rfl) dX8_carry_61 ⟨Nat.le_of_ble_eq_true rfl, Nat.le_of_ble_eq_true rfl⟩) rfl rfl (fun H locs X => ?_)
          refine lv_iload_n hx hb dX8_carry_64 rfl (lv_at hl 0 rfl) ?_
          exact g_iret (wsR E o ad) C hr hk X hf dX8_carry_65
      · have hf := g_f hf c20
        refine lv_aload_n hx hb dX8_carry_23 rfl (lv_at hl 0 rfl) ?_
        refine lv_bipush (v := 7) hx hb dX8_carry_24 (by decide) ?_
        obtain ⟨q26, e26, hf⟩ := g_be hf
        refine g_calli X (g_runV (As := [.int (7 : Int32)]) (rest := []) C X (cR_refuse l E A o ad w q26.2 q26.1 (7 : Int32) e26) kX8_refuse m_708 0 6 rfl rfl hl.1 rfl ⟨Nat.le_of_ble_eq_true rfl, Nat.le_of_ble_eq_true rfl⟩ rfl (Nat.le_of_ble_eq_true rfl) dX8_carry_26 ⟨Nat.le_of_ble_eq_true rfl, Nat.le_of_ble_eq_true rfl⟩) rfl rfl (fun H locs X => ?_)
        exact g_iret (wsR E o ad) C hr hk X hf dX8_carry_29
    · have hf := g_f hf c7
      refine lv_aload_n hx hb dX8_carry_10 rfl (lv_at hl 0 rfl) ?_
      refine lv_iconst (v := 1) hx hb dX8_carry_11 (by decide) ?_
      obtain ⟨q12, e12, hf⟩ := g_be hf
      refine g_calli X (g_runV (As := [.int (1 : Int32)]) (rest := []) C X (cR_refuse l E A o ad w q12.2 q12.1 (1 : Int32) e12) kX8_refuse m_708 0 6 rfl rfl hl.1 rfl ⟨Nat.le_of_ble_eq_true rfl, Nat.le_of_ble_eq_true rfl⟩ rfl (Nat.le_of_ble_eq_true rfl) dX8_carry_12 ⟨Nat.le_of_ble_eq_true rfl, Nat.le_of_ble_eq_true rfl⟩) rfl rfl (fun H locs X => ?_)
      exact g_iret (wsR E o ad) C hr hk X hf dX8_carry_15
set_option maxRecDepth 100000 in
set_option maxHeartbeats 4000000 in
theorem cR_undo (l : Launch) (E : g_Env) (A : Nat → Prop) (o : Nat) (ad : Nat → Nat) (w : RS) (w' : RS) (r : Int32)  (hf : fR_undo w  = some (r, w')) : g_Mi l yX8_undo cX8_undo 4 ((some .int)) ({ frames := 8, cells := 0, slots := 0, locals := 196 }) E A [.ref o] (wsR E o ad w) r (wsR E o ad w') := by
  refine g_start (by decide) (Nat.le_of_ble_eq_true rfl) ?_
  intro p e s m below meth c C hr hk hnm ls hl H locs X
  have hx := C.1.1
  have hb := C.1.2.1
  have hl : lv_has ls 4 [(0, .ref o)] := hl
  have j79 : ∀ (n : Nat) (w : RS) (x2 : Int32) (ls : Array Slot) (H : Heap) (locs : List Loc), fR_undo_79 n w x2 = some (r, w') → lv_has ls 4 [(0, .ref o), (2, .int x2)] → g_W E A s H locs (wsR E o ad w) → W p l e ({ frames := 8, cells := 0, slots := 0, locals := 196 }) s m ([.ref o] : List Value).toArray below meth c H locs 0 0 (MQ below (va_Qi (fun (r' : Int32) (u' : va_W) => r' = r ∧ u' = wsR E o ad w') (g_B E A) A) ([.ref o] : List Value).toArray s 0 0 A) (F0 m 79 ls []) := by
    intro n
    induction n with
    | zero => intro w x2 ls H locs hf; exact absurd hf (by simp [fR_undo_79])
    | succ n79 ih79 =>
      intro w x2 ls H locs hf hl X
      have j149 : ∀ (w : RS) (x2 : Int32) (t0 : Int32) (ls : Array Slot) (H : Heap) (locs : List Loc), fR_undo_149 (fR_undo_79 n79) w x2 t0 = some (r, w') → lv_has ls 4 [(0, .ref o), (2, .int x2)] → g_W E A s H locs (wsR E o ad w) → W p l e ({ frames := 8, cells := 0, slots := 0, locals := 196 }) s m ([.ref o] : List Value).toArray below meth c H locs 0 0 (MQ below (va_Qi (fun (r' : Int32) (u' : va_W) => r' = r ∧ u' = wsR E o ad w') (g_B E A) A) ([.ref o] : List Value).toArray s 0 0 A) (F0 m 149 ls [.int t0]) := by
        intro w x2 t0 ls H locs hf hl X
        unfold fR_undo_149 at hf
        refine lv_istore_n (lv' := [(1, .int t0), (0, .ref o), (2, .int x2)]) hx hb dX8_undo_149 rfl hl (by decide) rfl (fun ls hl => ?_)
        refine lv_iinc (v := x2 + (1 : Int32)) (lv' := [(2, .int (x2 + (1 : Int32))), (1, .int t0), (0, .ref o)]) hx hb dX8_undo_150 hl (k := 2) rfl rfl (by decide) rfl (fun ls hl => ?_)
        refine lv_goto (tgt := 79) hx hb dX8_undo_153 (by decide) ?_
        exact ih79 w (x2 + (1 : Int32)) ls H locs hf (lv_sub hl [2, 0] rfl) X
      unfold fR_undo_79 at hf
      refine lv_iload_n hx hb dX8_undo_79 rfl (lv_at hl 1 rfl) ?_
      refine lv_aload_n hx hb dX8_undo_80 rfl (lv_at hl 0 rfl) ?_
      refine g_get C X g_iX8 0 rfl rfl 8 (by decide) rfl m_649 rfl dX8_undo_81 ?_
      refine lv_icmp_ge (tgt := 156) hx hb dX8_undo_84 (by decide) (fun c84 => ?_) (fun c84 => ?_)
      · have hf := g_t hf c84
        refine lv_aload_n hx hb dX8_undo_156 rfl (lv_at hl 0 rfl) ?_
        refine lv_iconst (v := 0) hx hb dX8_undo_157 (by decide) ?_
        obtain ⟨w158, e158, hf⟩ := g_le hf
        refine g_put C X g_iX8 tyX8_ok nmX8 0 rfl rfl 15 (by decide) rfl m_656 rfl rfl rfl (Nat.le_of_ble_eq_true rfl) dX8_undo_158 (ws2 := wsR E o ad w158) (by subst e158; rfl) (fun H locs X => ?_)
        refine lv_aload_n hx hb dX8_undo_161 rfl (lv_at hl 0 rfl) ?_
        refine g_get C X g_iX8 0 rfl rfl 8 (by decide) rfl m_649 rfl dX8_undo_162 ?_
        exact g_iret (wsR E o ad) C hr hk X hf dX8_undo_165
      · have hf := g_f hf c84
        refine lv_bipush (v := 6) hx hb dX8_undo_87 (by decide) ?_
        refine lv_iload_n hx hb dX8_undo_89 rfl (lv_at hl 1 rfl) ?_
        refine lv_imul hx hb dX8_undo_90 ?_
        refine lv_istore_n (lv' := [(3, .int ((6 : Int32) * x2)), (0, .ref o), (2, .int x2)]) hx hb dX8_undo_91 rfl hl (by decide) rfl (fun ls hl => ?_)
        refine lv_aload_n hx hb dX8_undo_92 rfl (lv_at hl 1 rfl) ?_
        refine g_get C X g_iX8 0 rfl rfl 6 (by decide) rfl m_647 rfl dX8_undo_93 ?_
        refine lv_iload_n hx hb dX8_undo_96 rfl (lv_at hl 0 rfl) ?_
        obtain ⟨h97, hf⟩ := g_cke hf
        obtain ⟨v97, e97, hf⟩ := g_le hf
        refine g_iald C X 7 rfl h97 e97 dX8_undo_97 ?_
        refine lv_bipush (v := 13) hx hb dX8_undo_98 (by decide) ?_
        refine lv_icmp_ne (tgt := 134) hx hb dX8_undo_100 (by decide) (fun c100 => ?_) (fun c100 => ?_)
        · have hf := g_f hf c100
          refine lv_aload_n hx hb dX8_undo_134 rfl (lv_at hl 1 rfl) ?_
          refine lv_aload_n hx hb dX8_undo_135 rfl (lv_at hl 1 rfl) ?_
          refine g_get C X g_iX8 0 rfl rfl 6 (by decide) rfl m_647 rfl dX8_undo_136 ?_
          refine lv_iload_n hx hb dX8_undo_139 rfl (lv_at hl 0 rfl) ?_
          refine lv_aload_n hx hb dX8_undo_140 rfl (lv_at hl 1 rfl) ?_
          refine g_get C X g_iX8 0 rfl rfl 7 (by decide) rfl m_648 rfl dX8_undo_141 ?_
          refine lv_iload_n hx hb dX8_undo_144 rfl (lv_at hl 2 rfl) ?_
          obtain ⟨h145, hf⟩ := g_cke hf
          obtain ⟨v145, e145, hf⟩ := g_le hf
          refine g_lald C X 8 rfl h145 e145 dX8_undo_145 ?_
          obtain ⟨q146, e146, hf⟩ := g_be hf
          refine g_calli X (g_runV (As := [.ref (ad 6), .int ((6 : Int32) * x2), .long v145]) (rest := []) C X (cR_done_acts l E A o ad w q146.2 q146.1 ((6 : Int32) * x2) v145 e146) kX8_done m_715 0 6 rfl rfl hl.1 rfl ⟨Nat.le_of_ble_eq_true rfl, Nat.le_of_ble_eq_true rfl⟩ rfl (Nat.le_of_ble_eq_true rfl) dX8_undo_146 ⟨Nat.le_of_ble_eq_true rfl, Nat.le_of_ble_eq_true rfl⟩) rfl rfl (fun H locs X => ?_)
          exact j149 q146.2 x2 q146.1 ls H locs hf (lv_sub hl [1, 2] rfl) X
        · have hf := g_t hf c100
          refine lv_aload_n hx hb dX8_undo_103 rfl (lv_at hl 1 rfl) ?_
          refine lv_aload_n hx hb dX8_undo_104 rfl (lv_at hl 1 rfl) ?_
          refine g_get C X g_iX8 0 rfl rfl 6 (by decide) rfl m_647 rfl dX8_undo_105 ?_
          refine lv_iload_n hx hb dX8_undo_108 rfl (lv_at hl 0 rfl) ?_
          refine lv_iconst (v := 1) hx hb dX8_undo_109 (by decide) ?_
          refine lv_iadd hx hb dX8_undo_110 ?_
          obtain ⟨h111, hf⟩ := g_cke hf
          obtain ⟨v111, e111, hf⟩ := g_le hf
          refine g_iald C X 7 rfl h111 e111 dX8_undo_111 ?_
          refine lv_aload_n hx hb dX8_undo_112 rfl (lv_at hl 1 rfl) ?_
          refine g_get C X g_iX8 0 rfl rfl 6 (by decide) rfl m_647 rfl dX8_undo_113 ?_
          refine lv_iload_n hx hb dX8_undo_116 rfl (lv_at hl 0 rfl) ?_
          refine lv_iconst (v := 2) hx hb dX8_undo_117 (by decide) ?_
          refine lv_iadd hx hb dX8_undo_118 ?_
          obtain ⟨h119, hf⟩ := g_cke hf
          obtain ⟨v119, e119, hf⟩ := g_le hf
          refine g_iald C X 7 rfl h119 e119 dX8_undo_119 ?_
          refine lv_aload_n hx hb dX8_undo_120 rfl (lv_at hl 1 rfl) ?_
          refine g_get C X g_iX8 0 rfl rfl 6 (by decide) rfl m_647 rfl dX8_undo_121 ?_
          refine lv_iload_n hx hb dX8_undo_124 rfl (lv_at hl 0 rfl) ?_
          refine lv_iconst (v := 3) hx hb dX8_undo_125 (by decide) ?_
          refine lv_iadd hx hb dX8_undo_126 ?_
          obtain ⟨h127, hf⟩ := g_cke hf
          obtain ⟨v127, e127, hf⟩ := g_le hf
          refine g_iald C X 7 rfl h127 e127 dX8_undo_127 ?_
          obtain ⟨q128, e128, hf⟩ := g_be hf
          refine g_calli X (g_runV (As := [.int v111, .int v119, .int v127]) (rest := []) C X (cR_carried l E A o ad w q128.2 q128.1 v111 v119 v127 e128) kX8_carried m_933 0 6 rfl rfl hl.1 rfl ⟨Nat.le_of_ble_eq_true rfl, Nat.le_of_ble_eq_true rfl⟩ rfl (Nat.le_of_ble_eq_true rfl) dX8_undo_128 ⟨Nat.le_of_ble_eq_true rfl, Nat.le_of_ble_eq_true rfl⟩) rfl rfl (fun H locs X => ?_)
          refine lv_goto (tgt := 149) hx hb dX8_undo_131 (by decide) ?_
          exact j149 q128.2 x2 q128.1 ls H locs hf (lv_sub hl [1, 2] rfl) X
  have j55 : ∀ (n : Nat) (w : RS) (x1 : Int32) (ls : Array Slot) (H : Heap) (locs : List Loc), fR_undo_55 n w x1 = some (r, w') → lv_has ls 4 [(0, .ref o), (1, .int x1)] → g_W E A s H locs (wsR E o ad w) → W p l e ({ frames := 8, cells := 0, slots := 0, locals := 196 }) s m ([.ref o] : List Value).toArray below meth c H locs 0 0 (MQ below (va_Qi (fun (r' : Int32) (u' : va_W) => r' = r ∧ u' = wsR E o ad w') (g_B E A) A) ([.ref o] : List Value).toArray s 0 0 A) (F0 m 55 ls []) := by
    intro n
    induction n with
    | zero => intro w x1 ls H locs hf; exact absurd hf (by simp [fR_undo_55])
    | succ n55 ih55 =>
      intro w x1 ls H locs hf hl X
      unfold fR_undo_55 at hf
      refine lv_iload_n hx hb dX8_undo_55 rfl (lv_at hl 1 rfl) ?_
      refine lv_sipush (v := 720) hx hb dX8_undo_56 (by decide) ?_
      refine lv_icmp_ge (tgt := 75) hx hb dX8_undo_59 (by decide) (fun c59 => ?_) (fun c59 => ?_)
      · have hf := g_t hf c59
        refine lv_iconst (v := 0) hx hb dX8_undo_75 (by decide) ?_
        refine lv_istore_n (lv' := [(1, .int (0 : Int32)), (0, .ref o)]) hx hb dX8_undo_76 rfl hl (by decide) rfl (fun ls hl => ?_)
        refine lv_iconst (v := 0) hx hb dX8_undo_77 (by decide) ?_
        refine lv_istore_n (lv' := [(2, .int (0 : Int32)), (1, .int (0 : Int32)), (0, .ref o)]) hx hb dX8_undo_78 rfl hl (by decide) rfl (fun ls hl => ?_)
        exact j79 g_fuel w (0 : Int32) ls H locs hf (lv_sub hl [2, 0] rfl) X
      · have hf := g_f hf c59
        refine lv_aload_n hx hb dX8_undo_62 rfl (lv_at hl 0 rfl) ?_
        refine g_get C X g_iX8 0 rfl rfl 3 (by decide) rfl m_644 rfl dX8_undo_63 ?_
        refine lv_iload_n hx hb dX8_undo_66 rfl (lv_at hl 1 rfl) ?_
        refine lv_lconst (v := 0) hx hb dX8_undo_67 (by decide) ?_
        obtain ⟨h68, hf⟩ := g_cke hf
        obtain ⟨w68, e68, hf⟩ := g_le hf
        refine g_last C X 4 rfl h68 dX8_undo_68 (ws2 := wsR E o ad w68) (by subst e68; rfl) (fun H locs X => ?_)
        refine lv_iinc (v := x1 + (1 : Int32)) (lv' := [(1, .int (x1 + (1 : Int32))), (0, .ref o)]) hx hb dX8_undo_69 hl (k := 1) rfl rfl (by decide) rfl (fun ls hl => ?_)
        refine lv_goto (tgt := 55) hx hb dX8_undo_72 (by decide) ?_
        exact ih55 w68 (x1 + (1 : Int32)) ls H locs hf (lv_sub hl [1, 0] rfl) X
  have j33 : ∀ (n : Nat) (w : RS) (x1 : Int32) (ls : Array Slot) (H : Heap) (locs : List Loc), fR_undo_33 n w x1 = some (r, w') → lv_has ls 4 [(0, .ref o), (1, .int x1)] → g_W E A s H locs (wsR E o ad w) → W p l e ({ frames := 8, cells := 0, slots := 0, locals := 196 }) s m ([.ref o] : List Value).toArray below meth c H locs 0 0 (MQ below (va_Qi (fun (r' : Int32) (u' : va_W) => r' = r ∧ u' = wsR E o ad w') (g_B E A) A) ([.ref o] : List Value).toArray s 0 0 A) (F0 m 33 ls []) := by
    intro n
    induction n with
    | zero => intro w x1 ls H locs hf; exact absurd hf (by simp [fR_undo_33])
    | succ n33 ih33 =>
      intro w x1 ls H locs hf hl X
      unfold fR_undo_33 at hf
      refine lv_iload_n hx hb dX8_undo_33 rfl (lv_at hl 1 rfl) ?_
      refine lv_sipush (v := 557) hx hb dX8_undo_34 (by decide) ?_
      refine lv_icmp_ge (tgt := 53) hx hb dX8_undo_37 (by decide) (fun c37 => ?_) (fun c37 => ?_)
      · have hf := g_t hf c37
        refine lv_iconst (v := 0) hx hb dX8_undo_53 (by decide) ?_
        refine lv_istore_n (lv' := [(1, .int (0 : Int32)), (0, .ref o)]) hx hb dX8_undo_54 rfl hl (by decide) rfl (fun ls hl => ?_)
        exact j55 g_fuel w (0 : Int32) ls H locs hf (lv_sub hl [1, 0] rfl) X
      · have hf := g_f hf c37
        refine lv_aload_n hx hb dX8_undo_40 rfl (lv_at hl 0 rfl) ?_
        refine g_get C X g_iX8 0 rfl rfl 2 (by decide) rfl m_643 rfl dX8_undo_41 ?_
        refine lv_iload_n hx hb dX8_undo_44 rfl (lv_at hl 1 rfl) ?_
        refine lv_iconst (v := 0) hx hb dX8_undo_45 (by decide) ?_
        obtain ⟨h46, hf⟩ := g_cke hf
        obtain ⟨w46, e46, hf⟩ := g_le hf
        refine g_iast C X 3 rfl h46 dX8_undo_46 (ws2 := wsR E o ad w46) (by subst e46; rfl) (fun H locs X => ?_)
        refine lv_iinc (v := x1 + (1 : Int32)) (lv' := [(1, .int (x1 + (1 : Int32))), (0, .ref o)]) hx hb dX8_undo_47 hl (k := 1) rfl rfl (by decide) rfl (fun ls hl => ?_)
        refine lv_goto (tgt := 33) hx hb dX8_undo_50 (by decide) ?_
        exact ih33 w46 (x1 + (1 : Int32)) ls H locs hf (lv_sub hl [1, 0] rfl) X
  unfold fR_undo at hf
  refine lv_aload_n hx hb dX8_undo_0 rfl (lv_at hl 0 rfl) ?_
  refine g_get C X g_iX8 0 rfl rfl 14 (by decide) rfl m_655 rfl dX8_undo_1 ?_
  refine lv_if_ne (tgt := 14) hx hb dX8_undo_4 (by decide) (fun c4 => ?_) (fun c4 => ?_)
  · have hf := g_f hf c4
    refine lv_aload_n hx hb dX8_undo_14 rfl (lv_at hl 0 rfl) ?_
    refine lv_bipush (v := 7) hx hb dX8_undo_15 (by decide) ?_
    obtain ⟨q17, e17, hf⟩ := g_be hf
    refine g_calli X (g_runV (As := [.int (7 : Int32)]) (rest := []) C X (cR_refuse l E A o ad w q17.2 q17.1 (7 : Int32) e17) kX8_refuse m_708 0 6 rfl rfl hl.1 rfl ⟨Nat.le_of_ble_eq_true rfl, Nat.le_of_ble_eq_true rfl⟩ rfl (Nat.le_of_ble_eq_true rfl) dX8_undo_17 ⟨Nat.le_of_ble_eq_true rfl, Nat.le_of_ble_eq_true rfl⟩) rfl rfl (fun H locs X => ?_)
    exact g_iret (wsR E o ad) C hr hk X hf dX8_undo_20
  · have hf := g_t hf c4
    refine lv_aload_n hx hb dX8_undo_7 rfl (lv_at hl 0 rfl) ?_
    refine g_get C X g_iX8 0 rfl rfl 8 (by decide) rfl m_649 rfl dX8_undo_8 ?_
    refine lv_if_ne (tgt := 21) hx hb dX8_undo_11 (by decide) (fun c11 => ?_) (fun c11 => ?_)
    · have hf := g_f hf c11
      refine lv_aload_n hx hb dX8_undo_21 rfl (lv_at hl 0 rfl) ?_
      refine lv_dup hx hb dX8_undo_22 rfl ?_
      refine g_get C X g_iX8 0 rfl rfl 8 (by decide) rfl m_649 rfl dX8_undo_23 ?_
      refine lv_iconst (v := 1) hx hb dX8_undo_26 (by decide) ?_
      refine lv_isub hx hb dX8_undo_27 ?_
      obtain ⟨w28, e28, hf⟩ := g_le hf
      refine g_put C X g_iX8 tyX8_ok nmX8 0 rfl rfl 8 (by decide) rfl m_649 rfl rfl rfl (Nat.le_of_ble_eq_true rfl) dX8_undo_28 (ws2 := wsR E o ad w28) (by subst e28; rfl) (fun H locs X => ?_)
      refine lv_iconst (v := 0) hx hb dX8_undo_31 (by decide) ?_
      refine lv_istore_n (lv' := [(1, .int (0 : Int32)), (0, .ref o)]) hx hb dX8_undo_32 rfl hl (by decide) rfl (fun ls hl => ?_)
      exact j33 g_fuel w28 (0 : Int32) ls H locs hf (lv_sub hl [1, 0] rfl) X
    · have hf := g_t hf c11
      refine lv_aload_n hx hb dX8_undo_14 rfl (lv_at hl 0 rfl) ?_
      refine lv_bipush (v := 7) hx hb dX8_undo_15 (by decide) ?_
      obtain ⟨q17, e17, hf⟩ := g_be hf
      refine g_calli X (g_runV (As := [.int (7 : Int32)]) (rest := []) C X (cR_refuse l E A o ad w q17.2 q17.1 (7 : Int32) e17) kX8_refuse m_708 0 6 rfl rfl hl.1 rfl ⟨Nat.le_of_ble_eq_true rfl, Nat.le_of_ble_eq_true rfl⟩ rfl (Nat.le_of_ble_eq_true rfl) dX8_undo_17 ⟨Nat.le_of_ble_eq_true rfl, Nat.le_of_ble_eq_true rfl⟩) rfl rfl (fun H locs X => ?_)
      exact g_iret (wsR E o ad) C hr hk X hf dX8_undo_20
set_option maxRecDepth 100000 in
set_option maxHeartbeats 4000000 in
theorem cR_acts (l : Launch) (E : g_Env) (A : Nat → Prop) (o : Nat) (ad : Nat → Nat) (w : RS) (w' : RS) (r : Int32)  (hf : fR_acts w  = some (r, w')) : g_Mi l yX8_acts cX8_acts 1 ((some .int)) ({ frames := 0, cells := 0, slots := 0, locals := 0 }) E A [.ref o] (wsR E o ad w) r (wsR E o ad w') := by
  refine g_start (by decide) (Nat.le_of_ble_eq_true rfl) ?_
  intro p e s m below meth c C hr hk hnm ls hl H locs X
  have hx := C.1.1
  have hb := C.1.2.1
  have hl : lv_has ls 1 [(0, .ref o)] := hl
  unfold fR_acts at hf
  refine lv_aload_n hx hb dX8_acts_0 rfl (lv_at hl 0 rfl) ?_
  refine lv_iconst (v := 0) hx hb dX8_acts_1 (by decide) ?_
  obtain ⟨w2, e2, hf⟩ := g_le hf
  refine g_put C X g_iX8 tyX8_ok nmX8 0 rfl rfl 15 (by decide) rfl m_656 rfl rfl rfl (Nat.le_of_ble_eq_true rfl) dX8_acts_2 (ws2 := wsR E o ad w2) (by subst e2; rfl) (fun H locs X => ?_)
  refine lv_aload_n hx hb dX8_acts_5 rfl (lv_at hl 0 rfl) ?_
  refine g_get C X g_iX8 0 rfl rfl 8 (by decide) rfl m_649 rfl dX8_acts_6 ?_
  exact g_iret (wsR E o ad) C hr hk X hf dX8_acts_9
set_option maxRecDepth 100000 in
set_option maxHeartbeats 4000000 in
theorem cR_ask (l : Launch) (E : g_Env) (A : Nat → Prop) (o : Nat) (ad : Nat → Nat) (w : RS) (w' : RS) (r : Int32) (a1 : Int32) (a2 : Int32) (hf : fR_ask w a1 a2 = some (r, w')) : g_Mi l yX8_ask cX8_ask 3 ((some .int)) ({ frames := 3, cells := 0, slots := 0, locals := 68 }) E A [.ref o, .int a1, .int a2] (wsR E o ad w) r (wsR E o ad w') := by
  refine g_start (by decide) (Nat.le_of_ble_eq_true rfl) ?_
  intro p e s m below meth c C hr hk hnm ls hl H locs X
  have hx := C.1.1
  have hb := C.1.2.1
  have hl : lv_has ls 3 [(0, .ref o), (1, .int a1), (2, .int a2)] := hl
  unfold fR_ask at hf
  refine lv_aload_n hx hb dX8_ask_0 rfl (lv_at hl 0 rfl) ?_
  refine lv_iconst (v := 0) hx hb dX8_ask_1 (by decide) ?_
  obtain ⟨w2, e2, hf⟩ := g_le hf
  refine g_put C X g_iX8 tyX8_ok nmX8 0 rfl rfl 15 (by decide) rfl m_656 rfl rfl rfl (Nat.le_of_ble_eq_true rfl) dX8_ask_2 (ws2 := wsR E o ad w2) (by subst e2; rfl) (fun H locs X => ?_)
  refine lv_aload_n hx hb dX8_ask_5 rfl (lv_at hl 0 rfl) ?_
  refine lv_iload_n hx hb dX8_ask_6 rfl (lv_at hl 1 rfl) ?_
  refine lv_iload_n hx hb dX8_ask_7 rfl (lv_at hl 2 rfl) ?_
  obtain ⟨q8, e8, hf⟩ := g_be hf
  refine g_calli X (g_runV (As := [.int a1, .int a2]) (rest := []) C X (cR_whenUnder l E A o ad w2 q8.2 q8.1 a1 a2 e8) kX8_whenUnder m_865 0 6 rfl rfl hl.1 rfl ⟨Nat.le_of_ble_eq_true rfl, Nat.le_of_ble_eq_true rfl⟩ rfl (Nat.le_of_ble_eq_true rfl) dX8_ask_8 ⟨Nat.le_of_ble_eq_true rfl, Nat.le_of_ble_eq_true rfl⟩) rfl rfl (fun H locs X => ?_)
  exact g_iret (wsR E o ad) C hr hk X hf dX8_ask_11
set_option maxRecDepth 100000 in
set_option maxHeartbeats 4000000 in
theorem cR_toldAs (l : Launch) (E : g_Env) (A : Nat → Prop) (o : Nat) (ad : Nat → Nat) (w : RS) (w' : RS) (r : Int64) (a1 : Int32) (a2 : Int32) (a3 : Int32) (hf : fR_toldAs w a1 a2 a3 = some (r, w')) : g_Ml l yX8_toldAs cX8_toldAs 4 ({ frames := 3, cells := 0, slots := 0, locals := 68 }) E A [.ref o, .int a1, .int a2, .int a3] (wsR E o ad w) r (wsR E o ad w') := by
  refine g_start (by decide) (Nat.le_of_ble_eq_true rfl) ?_
  intro p e s m below meth c C hr hk hnm ls hl H locs X
  have hx := C.1.1
  have hb := C.1.2.1
  have hl : lv_has ls 4 [(0, .ref o), (1, .int a1), (2, .int a2), (3, .int a3)] := hl
  unfold fR_toldAs at hf
  refine lv_iload_n hx hb dX8_toldAs_0 rfl (lv_at hl 2 rfl) ?_
  by_cases s1_0 : a2 = (0 : Int32)
  · have hf := g_t hf s1_0
    refine g_tabIn (tgt := 116) hx hb s1_0 dX8_toldAs_1 (by decide) (by decide) rfl (by decide) ?_
    refine lv_aload_n hx hb dX8_toldAs_116 rfl (lv_at hl 0 rfl) ?_
    refine g_get C X g_iX8 0 rfl rfl 2 (by decide) rfl m_643 rfl dX8_toldAs_117 ?_
    refine lv_sipush (v := 180) hx hb dX8_toldAs_120 (by decide) ?_
    refine lv_iload_n hx hb dX8_toldAs_123 rfl (lv_at hl 1 rfl) ?_
    refine lv_iadd hx hb dX8_toldAs_124 ?_
    obtain ⟨h125, hf⟩ := g_cke hf
    obtain ⟨v125, e125, hf⟩ := g_le hf
    refine g_iald C X 3 rfl h125 e125 dX8_toldAs_125 ?_
    refine lv_i2l hx hb dX8_toldAs_126 rfl ?_
    exact g_lret (wsR E o ad) C hr hk X hf dX8_toldAs_127
  have hf := g_f hf s1_0
  by_cases s1_1 : a2 = (1 : Int32)
  · have hf := g_t hf s1_1
    refine g_tabIn (tgt := 128) hx hb s1_1 dX8_toldAs_1 (by decide) (by decide) rfl (by decide) ?_
    refine lv_aload_n hx hb dX8_toldAs_128 rfl (lv_at hl 0 rfl) ?_
    refine lv_iload_n hx hb dX8_toldAs_129 rfl (lv_at hl 1 rfl) ?_
    obtain ⟨q130, e130, hf⟩ := g_be hf
    refine g_calli X (g_runV (As := [.int a1]) (rest := []) C X (cR_load l E A o ad w q130.2 q130.1 a1 e130) kX8_load m_961 0 6 rfl rfl hl.1 rfl ⟨Nat.le_of_ble_eq_true rfl, Nat.le_of_ble_eq_true rfl⟩ rfl (Nat.le_of_ble_eq_true rfl) dX8_toldAs_130 ⟨Nat.le_of_ble_eq_true rfl, Nat.le_of_ble_eq_true rfl⟩) rfl rfl (fun H locs X => ?_)
    refine lv_i2l hx hb dX8_toldAs_133 rfl ?_
    exact g_lret (wsR E o ad) C hr hk X hf dX8_toldAs_134
  have hf := g_f hf s1_1
  by_cases s1_2 : a2 = (2 : Int32)
  · have hf := g_t hf s1_2
    refine g_tabIn (tgt := 135) hx hb s1_2 dX8_toldAs_1 (by decide) (by decide) rfl (by decide) ?_
    refine lv_aload_n hx hb dX8_toldAs_135 rfl (lv_at hl 0 rfl) ?_
    refine g_get C X g_iX8 0 rfl rfl 2 (by decide) rfl m_643 rfl dX8_toldAs_136 ?_
    refine lv_bipush (v := 120) hx hb dX8_toldAs_139 (by decide) ?_
    refine lv_iload_n hx hb dX8_toldAs_141 rfl (lv_at hl 1 rfl) ?_
    refine lv_iadd hx hb dX8_toldAs_142 ?_
    obtain ⟨h143, hf⟩ := g_cke hf
    obtain ⟨v143, e143, hf⟩ := g_le hf
    refine g_iald C X 3 rfl h143 e143 dX8_toldAs_143 ?_
    obtain ⟨q144, e144, hf⟩ := g_be hf
    refine g_calli X (g_runS (As := [.int v143]) (rest := []) C X (cR_sizeOf l E A o ad w q144.2 q144.1 v143 e144) kX8_sizeOf m_834 hl.1 rfl ⟨Nat.le_of_ble_eq_true rfl, Nat.le_of_ble_eq_true rfl⟩ rfl (Nat.le_of_ble_eq_true rfl) dX8_toldAs_144 ⟨Nat.le_of_ble_eq_true rfl, Nat.le_of_ble_eq_true rfl⟩) rfl rfl (fun H locs X => ?_)
    refine lv_i2l hx hb dX8_toldAs_147 rfl ?_
    exact g_lret (wsR E o ad) C hr hk X hf dX8_toldAs_148
  have hf := g_f hf s1_2
  by_cases s1_3 : a2 = (3 : Int32)
  · have hf := g_t hf s1_3
    refine g_tabIn (tgt := 149) hx hb s1_3 dX8_toldAs_1 (by decide) (by decide) rfl (by decide) ?_
    refine lv_aload_n hx hb dX8_toldAs_149 rfl (lv_at hl 0 rfl) ?_
    refine g_get C X g_iX8 0 rfl rfl 2 (by decide) rfl m_643 rfl dX8_toldAs_150 ?_
    refine lv_sipush (v := 240) hx hb dX8_toldAs_153 (by decide) ?_
    refine lv_iload_n hx hb dX8_toldAs_156 rfl (lv_at hl 1 rfl) ?_
    refine lv_iadd hx hb dX8_toldAs_157 ?_
    obtain ⟨h158, hf⟩ := g_cke hf
    obtain ⟨v158, e158, hf⟩ := g_le hf
    refine g_iald C X 3 rfl h158 e158 dX8_toldAs_158 ?_
    refine lv_i2l hx hb dX8_toldAs_159 rfl ?_
    exact g_lret (wsR E o ad) C hr hk X hf dX8_toldAs_160
  have hf := g_f hf s1_3
  by_cases s1_4 : a2 = (4 : Int32)
  · have hf := g_t hf s1_4
    refine g_tabIn (tgt := 149) hx hb s1_4 dX8_toldAs_1 (by decide) (by decide) rfl (by decide) ?_
    refine lv_aload_n hx hb dX8_toldAs_149 rfl (lv_at hl 0 rfl) ?_
    refine g_get C X g_iX8 0 rfl rfl 2 (by decide) rfl m_643 rfl dX8_toldAs_150 ?_
    refine lv_sipush (v := 240) hx hb dX8_toldAs_153 (by decide) ?_
    refine lv_iload_n hx hb dX8_toldAs_156 rfl (lv_at hl 1 rfl) ?_
    refine lv_iadd hx hb dX8_toldAs_157 ?_
    obtain ⟨h158, hf⟩ := g_cke hf
    obtain ⟨v158, e158, hf⟩ := g_le hf
    refine g_iald C X 3 rfl h158 e158 dX8_toldAs_158 ?_
    refine lv_i2l hx hb dX8_toldAs_159 rfl ?_
    exact g_lret (wsR E o ad) C hr hk X hf dX8_toldAs_160
  have hf := g_f hf s1_4
  by_cases s1_5 : a2 = (5 : Int32)
  · have hf := g_t hf s1_5
    refine g_tabIn (tgt := 161) hx hb s1_5 dX8_toldAs_1 (by decide) (by decide) rfl (by decide) ?_
    refine lv_aload_n hx hb dX8_toldAs_161 rfl (lv_at hl 0 rfl) ?_
    refine g_get C X g_iX8 0 rfl rfl 2 (by decide) rfl m_643 rfl dX8_toldAs_162 ?_
    refine lv_sipush (v := 300) hx hb dX8_toldAs_165 (by decide) ?_
    refine lv_iload_n hx hb dX8_toldAs_168 rfl (lv_at hl 1 rfl) ?_
    refine lv_iadd hx hb dX8_toldAs_169 ?_
    obtain ⟨h170, hf⟩ := g_cke hf
    obtain ⟨v170, e170, hf⟩ := g_le hf
    refine g_iald C X 3 rfl h170 e170 dX8_toldAs_170 ?_
    refine lv_i2l hx hb dX8_toldAs_171 rfl ?_
    exact g_lret (wsR E o ad) C hr hk X hf dX8_toldAs_172
  have hf := g_f hf s1_5
  by_cases s1_6 : a2 = (6 : Int32)
  · have hf := g_t hf s1_6
    refine g_tabIn (tgt := 161) hx hb s1_6 dX8_toldAs_1 (by decide) (by decide) rfl (by decide) ?_
    refine lv_aload_n hx hb dX8_toldAs_161 rfl (lv_at hl 0 rfl) ?_
    refine g_get C X g_iX8 0 rfl rfl 2 (by decide) rfl m_643 rfl dX8_toldAs_162 ?_
    refine lv_sipush (v := 300) hx hb dX8_toldAs_165 (by decide) ?_
    refine lv_iload_n hx hb dX8_toldAs_168 rfl (lv_at hl 1 rfl) ?_
    refine lv_iadd hx hb dX8_toldAs_169 ?_
    obtain ⟨h170, hf⟩ := g_cke hf
    obtain ⟨v170, e170, hf⟩ := g_le hf
    refine g_iald C X 3 rfl h170 e170 dX8_toldAs_170 ?_
    refine lv_i2l hx hb dX8_toldAs_171 rfl ?_
    exact g_lret (wsR E o ad) C hr hk X hf dX8_toldAs_172
  have hf := g_f hf s1_6
  by_cases s1_7 : a2 = (7 : Int32)
  · have hf := g_t hf s1_7
    refine g_tabIn (tgt := 161) hx hb s1_7 dX8_toldAs_1 (by decide) (by decide) rfl (by decide) ?_
    refine lv_aload_n hx hb dX8_toldAs_161 rfl (lv_at hl 0 rfl) ?_
    refine g_get C X g_iX8 0 rfl rfl 2 (by decide) rfl m_643 rfl dX8_toldAs_162 ?_
    refine lv_sipush (v := 300) hx hb dX8_toldAs_165 (by decide) ?_
    refine lv_iload_n hx hb dX8_toldAs_168 rfl (lv_at hl 1 rfl) ?_
    refine lv_iadd hx hb dX8_toldAs_169 ?_
    obtain ⟨h170, hf⟩ := g_cke hf
    obtain ⟨v170, e170, hf⟩ := g_le hf
    refine g_iald C X 3 rfl h170 e170 dX8_toldAs_170 ?_
    refine lv_i2l hx hb dX8_toldAs_171 rfl ?_
    exact g_lret (wsR E o ad) C hr hk X hf dX8_toldAs_172
  have hf := g_f hf s1_7
  by_cases s1_8 : a2 = (8 : Int32)
  · have hf := g_t hf s1_8
    refine g_tabIn (tgt := 161) hx hb s1_8 dX8_toldAs_1 (by decide) (by decide) rfl (by decide) ?_
    refine lv_aload_n hx hb dX8_toldAs_161 rfl (lv_at hl 0 rfl) ?_
    refine g_get C X g_iX8 0 rfl rfl 2 (by decide) rfl m_643 rfl dX8_toldAs_162 ?_
    refine lv_sipush (v := 300) hx hb dX8_toldAs_165 (by decide) ?_
    refine lv_iload_n hx hb dX8_toldAs_168 rfl (lv_at hl 1 rfl) ?_
    refine lv_iadd hx hb dX8_toldAs_169 ?_
    obtain ⟨h170, hf⟩ := g_cke hf
    obtain ⟨v170, e170, hf⟩ := g_le hf
    refine g_iald C X 3 rfl h170 e170 dX8_toldAs_170 ?_
    refine lv_i2l hx hb dX8_toldAs_171 rfl ?_
    exact g_lret (wsR E o ad) C hr hk X hf dX8_toldAs_172
  have hf := g_f hf s1_8
  by_cases s1_9 : a2 = (9 : Int32)
  · have hf := g_t hf s1_9
    refine g_tabIn (tgt := 173) hx hb s1_9 dX8_toldAs_1 (by decide) (by decide) rfl (by decide) ?_
    refine lv_aload_n hx hb dX8_toldAs_173 rfl (lv_at hl 0 rfl) ?_
    refine g_get C X g_iX8 0 rfl rfl 2 (by decide) rfl m_643 rfl dX8_toldAs_174 ?_
    refine lv_sipush (v := 360) hx hb dX8_toldAs_177 (by decide) ?_
    refine lv_iload_n hx hb dX8_toldAs_180 rfl (lv_at hl 1 rfl) ?_
    refine lv_iadd hx hb dX8_toldAs_181 ?_
    obtain ⟨h182, hf⟩ := g_cke hf
    obtain ⟨v182, e182, hf⟩ := g_le hf
    refine g_iald C X 3 rfl h182 e182 dX8_toldAs_182 ?_
    refine lv_i2l hx hb dX8_toldAs_183 rfl ?_
    exact g_lret (wsR E o ad) C hr hk X hf dX8_toldAs_184
  have hf := g_f hf s1_9
  by_cases s1_10 : a2 = (10 : Int32)
  · have hf := g_t hf s1_10
    refine g_tabIn (tgt := 173) hx hb s1_10 dX8_toldAs_1 (by decide) (by decide) rfl (by decide) ?_
    refine lv_aload_n hx hb dX8_toldAs_173 rfl (lv_at hl 0 rfl) ?_
    refine g_get C X g_iX8 0 rfl rfl 2 (by decide) rfl m_643 rfl dX8_toldAs_174 ?_
    refine lv_sipush (v := 360) hx hb dX8_toldAs_177 (by decide) ?_
    refine lv_iload_n hx hb dX8_toldAs_180 rfl (lv_at hl 1 rfl) ?_
    refine lv_iadd hx hb dX8_toldAs_181 ?_
    obtain ⟨h182, hf⟩ := g_cke hf
    obtain ⟨v182, e182, hf⟩ := g_le hf
    refine g_iald C X 3 rfl h182 e182 dX8_toldAs_182 ?_
    refine lv_i2l hx hb dX8_toldAs_183 rfl ?_
    exact g_lret (wsR E o ad) C hr hk X hf dX8_toldAs_184
  have hf := g_f hf s1_10
  by_cases s1_11 : a2 = (11 : Int32)
  · have hf := g_t hf s1_11
    refine g_tabIn (tgt := 185) hx hb s1_11 dX8_toldAs_1 (by decide) (by decide) rfl (by decide) ?_
    refine lv_aload_n hx hb dX8_toldAs_185 rfl (lv_at hl 0 rfl) ?_
    refine g_get C X g_iX8 0 rfl rfl 2 (by decide) rfl m_643 rfl dX8_toldAs_186 ?_
    refine lv_sipush (v := 480) hx hb dX8_toldAs_189 (by decide) ?_
    refine lv_iload_n hx hb dX8_toldAs_192 rfl (lv_at hl 1 rfl) ?_
    refine lv_iadd hx hb dX8_toldAs_193 ?_
    obtain ⟨h194, hf⟩ := g_cke hf
    obtain ⟨v194, e194, hf⟩ := g_le hf
    refine g_iald C X 3 rfl h194 e194 dX8_toldAs_194 ?_
    refine lv_i2l hx hb dX8_toldAs_195 rfl ?_
    exact g_lret (wsR E o ad) C hr hk X hf dX8_toldAs_196
  have hf := g_f hf s1_11
  by_cases s1_12 : a2 = (12 : Int32)
  · have hf := g_t hf s1_12
    refine g_tabIn (tgt := 197) hx hb s1_12 dX8_toldAs_1 (by decide) (by decide) rfl (by decide) ?_
    refine lv_aload_n hx hb dX8_toldAs_197 rfl (lv_at hl 0 rfl) ?_
    refine lv_iload_n hx hb dX8_toldAs_198 rfl (lv_at hl 1 rfl) ?_
    obtain ⟨q199, e199, hf⟩ := g_be hf
    refine g_calli X (g_runV (As := [.int a1]) (rest := []) C X (cR_kindOf l E A o ad w q199.2 q199.1 a1 e199) kX8_kindOf m_764 0 6 rfl rfl hl.1 rfl ⟨Nat.le_of_ble_eq_true rfl, Nat.le_of_ble_eq_true rfl⟩ rfl (Nat.le_of_ble_eq_true rfl) dX8_toldAs_199 ⟨Nat.le_of_ble_eq_true rfl, Nat.le_of_ble_eq_true rfl⟩) rfl rfl (fun H locs X => ?_)
    refine lv_i2l hx hb dX8_toldAs_202 rfl ?_
    exact g_lret (wsR E o ad) C hr hk X hf dX8_toldAs_203
  have hf := g_f hf s1_12
  by_cases s1_13 : a2 = (13 : Int32)
  · have hf := g_t hf s1_13
    refine g_tabIn (tgt := 204) hx hb s1_13 dX8_toldAs_1 (by decide) (by decide) rfl (by decide) ?_
    refine lv_aload_n hx hb dX8_toldAs_204 rfl (lv_at hl 0 rfl) ?_
    refine g_get C X g_iX8 0 rfl rfl 3 (by decide) rfl m_644 rfl dX8_toldAs_205 ?_
    refine lv_bipush (v := 12) hx hb dX8_toldAs_208 (by decide) ?_
    refine lv_iload_n hx hb dX8_toldAs_210 rfl (lv_at hl 1 rfl) ?_
    refine lv_imul hx hb dX8_toldAs_211 ?_
    refine lv_iload_n hx hb dX8_toldAs_212 rfl (lv_at hl 3 rfl) ?_
    refine lv_iadd hx hb dX8_toldAs_213 ?_
    obtain ⟨h214, hf⟩ := g_cke hf
    obtain ⟨v214, e214, hf⟩ := g_le hf
    refine g_lald C X 4 rfl h214 e214 dX8_toldAs_214 ?_
    exact g_lret (wsR E o ad) C hr hk X hf dX8_toldAs_215
  have hf := g_f hf s1_13
  by_cases s1_14 : a2 = (14 : Int32)
  · have hf := g_t hf s1_14
    refine g_tabIn (tgt := 204) hx hb s1_14 dX8_toldAs_1 (by decide) (by decide) rfl (by decide) ?_
    refine lv_aload_n hx hb dX8_toldAs_204 rfl (lv_at hl 0 rfl) ?_
    refine g_get C X g_iX8 0 rfl rfl 3 (by decide) rfl m_644 rfl dX8_toldAs_205 ?_
    refine lv_bipush (v := 12) hx hb dX8_toldAs_208 (by decide) ?_
    refine lv_iload_n hx hb dX8_toldAs_210 rfl (lv_at hl 1 rfl) ?_
    refine lv_imul hx hb dX8_toldAs_211 ?_
    refine lv_iload_n hx hb dX8_toldAs_212 rfl (lv_at hl 3 rfl) ?_
    refine lv_iadd hx hb dX8_toldAs_213 ?_
    obtain ⟨h214, hf⟩ := g_cke hf
    obtain ⟨v214, e214, hf⟩ := g_le hf
    refine g_lald C X 4 rfl h214 e214 dX8_toldAs_214 ?_
    exact g_lret (wsR E o ad) C hr hk X hf dX8_toldAs_215
  have hf := g_f hf s1_14
  by_cases s1_15 : a2 = (15 : Int32)
  · have hf := g_t hf s1_15
    refine g_tabIn (tgt := 204) hx hb s1_15 dX8_toldAs_1 (by decide) (by decide) rfl (by decide) ?_
    refine lv_aload_n hx hb dX8_toldAs_204 rfl (lv_at hl 0 rfl) ?_
    refine g_get C X g_iX8 0 rfl rfl 3 (by decide) rfl m_644 rfl dX8_toldAs_205 ?_
    refine lv_bipush (v := 12) hx hb dX8_toldAs_208 (by decide) ?_
    refine lv_iload_n hx hb dX8_toldAs_210 rfl (lv_at hl 1 rfl) ?_
    refine lv_imul hx hb dX8_toldAs_211 ?_
    refine lv_iload_n hx hb dX8_toldAs_212 rfl (lv_at hl 3 rfl) ?_
    refine lv_iadd hx hb dX8_toldAs_213 ?_
    obtain ⟨h214, hf⟩ := g_cke hf
    obtain ⟨v214, e214, hf⟩ := g_le hf
    refine g_lald C X 4 rfl h214 e214 dX8_toldAs_214 ?_
    exact g_lret (wsR E o ad) C hr hk X hf dX8_toldAs_215
  have hf := g_f hf s1_15
  by_cases s1_16 : a2 = (16 : Int32)
  · have hf := g_t hf s1_16
    refine g_tabIn (tgt := 216) hx hb s1_16 dX8_toldAs_1 (by decide) (by decide) rfl (by decide) ?_
    refine lv_aload_n hx hb dX8_toldAs_216 rfl (lv_at hl 0 rfl) ?_
    refine lv_aload_n hx hb dX8_toldAs_217 rfl (lv_at hl 0 rfl) ?_
    refine lv_iload_n hx hb dX8_toldAs_218 rfl (lv_at hl 1 rfl) ?_
    refine lv_iload_n hx hb dX8_toldAs_219 rfl (lv_at hl 3 rfl) ?_
    obtain ⟨q220, e220, hf⟩ := g_be hf
    refine g_calli X (g_runV (As := [.int a1, .int a3]) (rest := [.ref o]) C X (cR_thingAt l E A o ad w q220.2 q220.1 a1 a3 e220) kX8_thingAt m_783 0 6 rfl rfl hl.1 rfl ⟨Nat.le_of_ble_eq_true rfl, Nat.le_of_ble_eq_true rfl⟩ rfl (Nat.le_of_ble_eq_true rfl) dX8_toldAs_220 ⟨Nat.le_of_ble_eq_true rfl, Nat.le_of_ble_eq_true rfl⟩) rfl rfl (fun H locs X => ?_)
    obtain ⟨q223, e223, hf⟩ := g_be hf
    refine g_calli X (g_runV (As := [.int q220.1]) (rest := []) C X (cR_lengthOf l E A o ad q220.2 q223.2 q223.1 q220.1 e223) kX8_lengthOf m_775 0 6 rfl rfl hl.1 rfl ⟨Nat.le_of_ble_eq_true rfl, Nat.le_of_ble_eq_true rfl⟩ rfl (Nat.le_of_ble_eq_true rfl) dX8_toldAs_223 ⟨Nat.le_of_ble_eq_true rfl, Nat.le_of_ble_eq_true rfl⟩) rfl rfl (fun H locs X => ?_)
    refine lv_i2l hx hb dX8_toldAs_226 rfl ?_
    exact g_lret (wsR E o ad) C hr hk X hf dX8_toldAs_227
  have hf := g_f hf s1_16
  by_cases s1_17 : a2 = (17 : Int32)
  · have hf := g_t hf s1_17
    refine g_tabIn (tgt := 228) hx hb s1_17 dX8_toldAs_1 (by decide) (by decide) rfl (by decide) ?_
    refine lv_aload_n hx hb dX8_toldAs_228 rfl (lv_at hl 0 rfl) ?_
    refine lv_iload_n hx hb dX8_toldAs_229 rfl (lv_at hl 1 rfl) ?_
    refine lv_iload_n hx hb dX8_toldAs_230 rfl (lv_at hl 3 rfl) ?_
    obtain ⟨q231, e231, hf⟩ := g_be hf
    refine g_calli X (g_runV (As := [.int a1, .int a3]) (rest := []) C X (cR_thingAt l E A o ad w q231.2 q231.1 a1 a3 e231) kX8_thingAt m_783 0 6 rfl rfl hl.1 rfl ⟨Nat.le_of_ble_eq_true rfl, Nat.le_of_ble_eq_true rfl⟩ rfl (Nat.le_of_ble_eq_true rfl) dX8_toldAs_231 ⟨Nat.le_of_ble_eq_true rfl, Nat.le_of_ble_eq_true rfl⟩) rfl rfl (fun H locs X => ?_)
    refine lv_i2l hx hb dX8_toldAs_234 rfl ?_
    exact g_lret (wsR E o ad) C hr hk X hf dX8_toldAs_235
  have hf := g_f hf s1_17
  by_cases s1_18 : a2 = (18 : Int32)
  · have hf := g_t hf s1_18
    refine g_tabIn (tgt := 228) hx hb s1_18 dX8_toldAs_1 (by decide) (by decide) rfl (by decide) ?_
    refine lv_aload_n hx hb dX8_toldAs_228 rfl (lv_at hl 0 rfl) ?_
    refine lv_iload_n hx hb dX8_toldAs_229 rfl (lv_at hl 1 rfl) ?_
    refine lv_iload_n hx hb dX8_toldAs_230 rfl (lv_at hl 3 rfl) ?_
    obtain ⟨q231, e231, hf⟩ := g_be hf
    refine g_calli X (g_runV (As := [.int a1, .int a3]) (rest := []) C X (cR_thingAt l E A o ad w q231.2 q231.1 a1 a3 e231) kX8_thingAt m_783 0 6 rfl rfl hl.1 rfl ⟨Nat.le_of_ble_eq_true rfl, Nat.le_of_ble_eq_true rfl⟩ rfl (Nat.le_of_ble_eq_true rfl) dX8_toldAs_231 ⟨Nat.le_of_ble_eq_true rfl, Nat.le_of_ble_eq_true rfl⟩) rfl rfl (fun H locs X => ?_)
    refine lv_i2l hx hb dX8_toldAs_234 rfl ?_
    exact g_lret (wsR E o ad) C hr hk X hf dX8_toldAs_235
  have hf := g_f hf s1_18
  by_cases s1_19 : a2 = (19 : Int32)
  · have hf := g_t hf s1_19
    refine g_tabIn (tgt := 228) hx hb s1_19 dX8_toldAs_1 (by decide) (by decide) rfl (by decide) ?_
    refine lv_aload_n hx hb dX8_toldAs_228 rfl (lv_at hl 0 rfl) ?_
    refine lv_iload_n hx hb dX8_toldAs_229 rfl (lv_at hl 1 rfl) ?_
    refine lv_iload_n hx hb dX8_toldAs_230 rfl (lv_at hl 3 rfl) ?_
    obtain ⟨q231, e231, hf⟩ := g_be hf
    refine g_calli X (g_runV (As := [.int a1, .int a3]) (rest := []) C X (cR_thingAt l E A o ad w q231.2 q231.1 a1 a3 e231) kX8_thingAt m_783 0 6 rfl rfl hl.1 rfl ⟨Nat.le_of_ble_eq_true rfl, Nat.le_of_ble_eq_true rfl⟩ rfl (Nat.le_of_ble_eq_true rfl) dX8_toldAs_231 ⟨Nat.le_of_ble_eq_true rfl, Nat.le_of_ble_eq_true rfl⟩) rfl rfl (fun H locs X => ?_)
    refine lv_i2l hx hb dX8_toldAs_234 rfl ?_
    exact g_lret (wsR E o ad) C hr hk X hf dX8_toldAs_235
  have hf := g_f hf s1_19
  by_cases s1_20 : a2 = (20 : Int32)
  · have hf := g_t hf s1_20
    refine g_tabIn (tgt := 228) hx hb s1_20 dX8_toldAs_1 (by decide) (by decide) rfl (by decide) ?_
    refine lv_aload_n hx hb dX8_toldAs_228 rfl (lv_at hl 0 rfl) ?_
    refine lv_iload_n hx hb dX8_toldAs_229 rfl (lv_at hl 1 rfl) ?_
    refine lv_iload_n hx hb dX8_toldAs_230 rfl (lv_at hl 3 rfl) ?_
    obtain ⟨q231, e231, hf⟩ := g_be hf
    refine g_calli X (g_runV (As := [.int a1, .int a3]) (rest := []) C X (cR_thingAt l E A o ad w q231.2 q231.1 a1 a3 e231) kX8_thingAt m_783 0 6 rfl rfl hl.1 rfl ⟨Nat.le_of_ble_eq_true rfl, Nat.le_of_ble_eq_true rfl⟩ rfl (Nat.le_of_ble_eq_true rfl) dX8_toldAs_231 ⟨Nat.le_of_ble_eq_true rfl, Nat.le_of_ble_eq_true rfl⟩) rfl rfl (fun H locs X => ?_)
    refine lv_i2l hx hb dX8_toldAs_234 rfl ?_
    exact g_lret (wsR E o ad) C hr hk X hf dX8_toldAs_235
  have hf := g_f hf s1_20
  by_cases s1_21 : a2 = (21 : Int32)
  · have hf := g_t hf s1_21
    refine g_tabIn (tgt := 228) hx hb s1_21 dX8_toldAs_1 (by decide) (by decide) rfl (by decide) ?_
    refine lv_aload_n hx hb dX8_toldAs_228 rfl (lv_at hl 0 rfl) ?_
    refine lv_iload_n hx hb dX8_toldAs_229 rfl (lv_at hl 1 rfl) ?_
    refine lv_iload_n hx hb dX8_toldAs_230 rfl (lv_at hl 3 rfl) ?_
    obtain ⟨q231, e231, hf⟩ := g_be hf
    refine g_calli X (g_runV (As := [.int a1, .int a3]) (rest := []) C X (cR_thingAt l E A o ad w q231.2 q231.1 a1 a3 e231) kX8_thingAt m_783 0 6 rfl rfl hl.1 rfl ⟨Nat.le_of_ble_eq_true rfl, Nat.le_of_ble_eq_true rfl⟩ rfl (Nat.le_of_ble_eq_true rfl) dX8_toldAs_231 ⟨Nat.le_of_ble_eq_true rfl, Nat.le_of_ble_eq_true rfl⟩) rfl rfl (fun H locs X => ?_)
    refine lv_i2l hx hb dX8_toldAs_234 rfl ?_
    exact g_lret (wsR E o ad) C hr hk X hf dX8_toldAs_235
  have hf := g_f hf s1_21
  by_cases s1_22 : a2 = (22 : Int32)
  · have hf := g_t hf s1_22
    refine g_tabIn (tgt := 228) hx hb s1_22 dX8_toldAs_1 (by decide) (by decide) rfl (by decide) ?_
    refine lv_aload_n hx hb dX8_toldAs_228 rfl (lv_at hl 0 rfl) ?_
    refine lv_iload_n hx hb dX8_toldAs_229 rfl (lv_at hl 1 rfl) ?_
    refine lv_iload_n hx hb dX8_toldAs_230 rfl (lv_at hl 3 rfl) ?_
    obtain ⟨q231, e231, hf⟩ := g_be hf
    refine g_calli X (g_runV (As := [.int a1, .int a3]) (rest := []) C X (cR_thingAt l E A o ad w q231.2 q231.1 a1 a3 e231) kX8_thingAt m_783 0 6 rfl rfl hl.1 rfl ⟨Nat.le_of_ble_eq_true rfl, Nat.le_of_ble_eq_true rfl⟩ rfl (Nat.le_of_ble_eq_true rfl) dX8_toldAs_231 ⟨Nat.le_of_ble_eq_true rfl, Nat.le_of_ble_eq_true rfl⟩) rfl rfl (fun H locs X => ?_)
    refine lv_i2l hx hb dX8_toldAs_234 rfl ?_
    exact g_lret (wsR E o ad) C hr hk X hf dX8_toldAs_235
  have hf := g_f hf s1_22
  by_cases s1_23 : a2 = (23 : Int32)
  · have hf := g_t hf s1_23
    refine g_tabIn (tgt := 216) hx hb s1_23 dX8_toldAs_1 (by decide) (by decide) rfl (by decide) ?_
    refine lv_aload_n hx hb dX8_toldAs_216 rfl (lv_at hl 0 rfl) ?_
    refine lv_aload_n hx hb dX8_toldAs_217 rfl (lv_at hl 0 rfl) ?_
    refine lv_iload_n hx hb dX8_toldAs_218 rfl (lv_at hl 1 rfl) ?_
    refine lv_iload_n hx hb dX8_toldAs_219 rfl (lv_at hl 3 rfl) ?_
    obtain ⟨q220, e220, hf⟩ := g_be hf
    refine g_calli X (g_runV (As := [.int a1, .int a3]) (rest := [.ref o]) C X (cR_thingAt l E A o ad w q220.2 q220.1 a1 a3 e220) kX8_thingAt m_783 0 6 rfl rfl hl.1 rfl ⟨Nat.le_of_ble_eq_true rfl, Nat.le_of_ble_eq_true rfl⟩ rfl (Nat.le_of_ble_eq_true rfl) dX8_toldAs_220 ⟨Nat.le_of_ble_eq_true rfl, Nat.le_of_ble_eq_true rfl⟩) rfl rfl (fun H locs X => ?_)
    obtain ⟨q223, e223, hf⟩ := g_be hf
    refine g_calli X (g_runV (As := [.int q220.1]) (rest := []) C X (cR_lengthOf l E A o ad q220.2 q223.2 q223.1 q220.1 e223) kX8_lengthOf m_775 0 6 rfl rfl hl.1 rfl ⟨Nat.le_of_ble_eq_true rfl, Nat.le_of_ble_eq_true rfl⟩ rfl (Nat.le_of_ble_eq_true rfl) dX8_toldAs_223 ⟨Nat.le_of_ble_eq_true rfl, Nat.le_of_ble_eq_true rfl⟩) rfl rfl (fun H locs X => ?_)
    refine lv_i2l hx hb dX8_toldAs_226 rfl ?_
    exact g_lret (wsR E o ad) C hr hk X hf dX8_toldAs_227
  have hf := g_f hf s1_23
  by_cases s1_24 : a2 = (24 : Int32)
  · have hf := g_t hf s1_24
    refine g_tabIn (tgt := 216) hx hb s1_24 dX8_toldAs_1 (by decide) (by decide) rfl (by decide) ?_
    refine lv_aload_n hx hb dX8_toldAs_216 rfl (lv_at hl 0 rfl) ?_
    refine lv_aload_n hx hb dX8_toldAs_217 rfl (lv_at hl 0 rfl) ?_
    refine lv_iload_n hx hb dX8_toldAs_218 rfl (lv_at hl 1 rfl) ?_
    refine lv_iload_n hx hb dX8_toldAs_219 rfl (lv_at hl 3 rfl) ?_
    obtain ⟨q220, e220, hf⟩ := g_be hf
    refine g_calli X (g_runV (As := [.int a1, .int a3]) (rest := [.ref o]) C X (cR_thingAt l E A o ad w q220.2 q220.1 a1 a3 e220) kX8_thingAt m_783 0 6 rfl rfl hl.1 rfl ⟨Nat.le_of_ble_eq_true rfl, Nat.le_of_ble_eq_true rfl⟩ rfl (Nat.le_of_ble_eq_true rfl) dX8_toldAs_220 ⟨Nat.le_of_ble_eq_true rfl, Nat.le_of_ble_eq_true rfl⟩) rfl rfl (fun H locs X => ?_)
    obtain ⟨q223, e223, hf⟩ := g_be hf
    refine g_calli X (g_runV (As := [.int q220.1]) (rest := []) C X (cR_lengthOf l E A o ad q220.2 q223.2 q223.1 q220.1 e223) kX8_lengthOf m_775 0 6 rfl rfl hl.1 rfl ⟨Nat.le_of_ble_eq_true rfl, Nat.le_of_ble_eq_true rfl⟩ rfl (Nat.le_of_ble_eq_true rfl) dX8_toldAs_223 ⟨Nat.le_of_ble_eq_true rfl, Nat.le_of_ble_eq_true rfl⟩) rfl rfl (fun H locs X => ?_)
    refine lv_i2l hx hb dX8_toldAs_226 rfl ?_
    exact g_lret (wsR E o ad) C hr hk X hf dX8_toldAs_227
  have hf := g_f hf s1_24
  refine lv_tableOut (tgt := 228) hx hb dX8_toldAs_1 (by have z0 := g_ne (0) s1_0 (by decide); have z1 := g_ne (1) s1_1 (by decide); have z2 := g_ne (2) s1_2 (by decide); have z3 := g_ne (3) s1_3 (by decide); have z4 := g_ne (4) s1_4 (by decide); have z5 := g_ne (5) s1_5 (by decide); have z6 := g_ne (6) s1_6 (by decide); have z7 := g_ne (7) s1_7 (by decide); have z8 := g_ne (8) s1_8 (by decide); have z9 := g_ne (9) s1_9 (by decide); have z10 := g_ne (10) s1_10 (by decide); have z11 := g_ne (11) s1_11 (by decide); have z12 := g_ne (12) s1_12 (by decide); have z13 := g_ne (13) s1_13 (by decide); have z14 := g_ne (14) s1_14 (by decide); have z15 := g_ne (15) s1_15 (by decide); have z16 := g_ne (16) s1_16 (by decide); have z17 := g_ne (17) s1_17 (by decide); have z18 := g_ne (18) s1_18 (by decide); have z19 := g_ne (19) s1_19 (by decide); have z20 := g_ne (20) s1_20 (by decide); have z21 := g_ne (21) s1_21 (by decide); have z22 := g_ne (22) s1_22 (by decide); have z23 := g_ne (23) s1_23 (by decide); have z24 := g_ne (24) s1_24 (by decide); omega) (by decide) ?_
  refine lv_aload_n hx hb dX8_toldAs_228 rfl (lv_at hl 0 rfl) ?_
  refine lv_iload_n hx hb dX8_toldAs_229 rfl (lv_at hl 1 rfl) ?_
  refine lv_iload_n hx hb dX8_toldAs_230 rfl (lv_at hl 3 rfl) ?_
  obtain ⟨q231, e231, hf⟩ := g_be hf
  refine g_calli X (g_runV (As := [.int a1, .int a3]) (rest := []) C X (cR_thingAt l E A o ad w q231.2 q231.1 a1 a3 e231) kX8_thingAt m_783 0 6 rfl rfl hl.1 rfl ⟨Nat.le_of_ble_eq_true rfl, Nat.le_of_ble_eq_true rfl⟩ rfl (Nat.le_of_ble_eq_true rfl) dX8_toldAs_231 ⟨Nat.le_of_ble_eq_true rfl, Nat.le_of_ble_eq_true rfl⟩) rfl rfl (fun H locs X => ?_)
  refine lv_i2l hx hb dX8_toldAs_234 rfl ?_
  exact g_lret (wsR E o ad) C hr hk X hf dX8_toldAs_235
set_option maxRecDepth 100000 in
set_option maxHeartbeats 4000000 in
theorem cR_take (l : Launch) (E : g_Env) (A : Nat → Prop) (o : Nat) (ad : Nat → Nat) (w : RS) (w' : RS) (r : Int64) (a1 : Int32) (a2 : Int32) (a3 : Int32) (hf : fR_take w a1 a2 a3 = some (r, w')) : g_Ml l yX8_take cX8_take 5 ({ frames := 4, cells := 0, slots := 0, locals := 91 }) E A [.ref o, .int a1, .int a2, .int a3] (wsR E o ad w) r (wsR E o ad w') := by
  refine g_start (by decide) (Nat.le_of_ble_eq_true rfl) ?_
  intro p e s m below meth c C hr hk hnm ls hl H locs X
  have hx := C.1.1
  have hb := C.1.2.1
  have hl : lv_has ls 5 [(0, .ref o), (1, .int a1), (2, .int a2), (3, .int a3)] := hl
  have j120 : ∀ (w : RS) (x2 : Int32) (x3 : Int32) (x4 : Int32) (ls : Array Slot) (H : Heap) (locs : List Loc), fR_take_120 w x2 x3 x4 = some (r, w') → lv_has ls 5 [(0, .ref o), (2, .int x2), (3, .int x3), (4, .int x4)] → g_W E A s H locs (wsR E o ad w) → W p l e ({ frames := 4, cells := 0, slots := 0, locals := 91 }) s m ([.ref o, .int a1, .int a2, .int a3] : List Value).toArray below meth c H locs 0 0 (MQ below (va_Ql (fun (r' : Int64) (u' : va_W) => r' = r ∧ u' = wsR E o ad w') (g_B E A) A) ([.ref o, .int a1, .int a2, .int a3] : List Value).toArray s 0 0 A) (F0 m 120 ls []) := by
    intro w x2 x3 x4 ls H locs hf hl X
    unfold fR_take_120 at hf
    refine lv_aload_n hx hb dX8_take_120 rfl (lv_at hl 0 rfl) ?_
    refine lv_iload hx hb dX8_take_121 (lv_at hl 3 rfl) ?_
    refine lv_iload_n hx hb dX8_take_123 rfl (lv_at hl 1 rfl) ?_
    refine lv_iload_n hx hb dX8_take_124 rfl (lv_at hl 2 rfl) ?_
    obtain ⟨q125, e125, hf⟩ := g_be hf
    refine g_calll X (g_runV (As := [.int x4, .int x2, .int x3]) (rest := []) C X (cR_toldAs l E A o ad w q125.2 q125.1 x4 x2 x3 e125) kX8_toldAs m_957 0 6 rfl rfl hl.1 rfl ⟨Nat.le_of_ble_eq_true rfl, Nat.le_of_ble_eq_true rfl⟩ rfl (Nat.le_of_ble_eq_true rfl) dX8_take_125 ⟨Nat.le_of_ble_eq_true rfl, Nat.le_of_ble_eq_true rfl⟩) rfl rfl (fun H locs X => ?_)
    exact g_lret (wsR E o ad) C hr hk X hf dX8_take_128
  have j97 : ∀ (w : RS) (x2 : Int32) (x3 : Int32) (x4 : Int32) (ls : Array Slot) (H : Heap) (locs : List Loc), fR_take_97 w x2 x3 x4 = some (r, w') → lv_has ls 5 [(0, .ref o), (2, .int x2), (3, .int x3), (4, .int x4)] → g_W E A s H locs (wsR E o ad w) → W p l e ({ frames := 4, cells := 0, slots := 0, locals := 91 }) s m ([.ref o, .int a1, .int a2, .int a3] : List Value).toArray below meth c H locs 0 0 (MQ below (va_Ql (fun (r' : Int64) (u' : va_W) => r' = r ∧ u' = wsR E o ad w') (g_B E A) A) ([.ref o, .int a1, .int a2, .int a3] : List Value).toArray s 0 0 A) (F0 m 97 ls []) := by
    intro w x2 x3 x4 ls H locs hf hl X
    unfold fR_take_97 at hf
    refine lv_iload_n hx hb dX8_take_97 rfl (lv_at hl 1 rfl) ?_
    refine lv_bipush (v := 16) hx hb dX8_take_98 (by decide) ?_
    refine lv_icmp_lt (tgt := 120) hx hb dX8_take_100 (by decide) (fun c100 => ?_) (fun c100 => ?_)
    · have hf := g_t hf c100
      exact j120 w x2 x3 x4 ls H locs hf (lv_sub hl [0, 1, 2, 3] rfl) X
    · have hf := g_f hf c100
      refine lv_aload_n hx hb dX8_take_103 rfl (lv_at hl 0 rfl) ?_
      refine lv_iload hx hb dX8_take_104 (lv_at hl 3 rfl) ?_
      refine lv_iload_n hx hb dX8_take_106 rfl (lv_at hl 2 rfl) ?_
      obtain ⟨q107, e107, hf⟩ := g_be hf
      refine g_calli X (g_runV (As := [.int x4, .int x3]) (rest := []) C X (cR_thingAt l E A o ad w q107.2 q107.1 x4 x3 e107) kX8_thingAt m_783 0 6 rfl rfl hl.1 rfl ⟨Nat.le_of_ble_eq_true rfl, Nat.le_of_ble_eq_true rfl⟩ rfl (Nat.le_of_ble_eq_true rfl) dX8_take_107 ⟨Nat.le_of_ble_eq_true rfl, Nat.le_of_ble_eq_true rfl⟩) rfl rfl (fun H locs X => ?_)
      refine lv_if_ge (tgt := 120) hx hb dX8_take_110 (by decide) (fun c110 => ?_) (fun c110 => ?_)
      · have hf := g_t hf c110
        exact j120 q107.2 x2 x3 x4 ls H locs hf (lv_sub hl [0, 1, 2, 3] rfl) X
      · have hf := g_f hf c110
        refine lv_aload_n hx hb dX8_take_113 rfl (lv_at hl 0 rfl) ?_
        refine lv_iconst (v := 2) hx hb dX8_take_114 (by decide) ?_
        obtain ⟨q115, e115, hf⟩ := g_be hf
        refine g_calli X (g_runV (As := [.int (2 : Int32)]) (rest := []) C X (cR_refuse l E A o ad q107.2 q115.2 q115.1 (2 : Int32) e115) kX8_refuse m_708 0 6 rfl rfl hl.1 rfl ⟨Nat.le_of_ble_eq_true rfl, Nat.le_of_ble_eq_true rfl⟩ rfl (Nat.le_of_ble_eq_true rfl) dX8_take_115 ⟨Nat.le_of_ble_eq_true rfl, Nat.le_of_ble_eq_true rfl⟩) rfl rfl (fun H locs X => ?_)
        refine lv_i2l hx hb dX8_take_118 rfl ?_
        exact g_lret (wsR E o ad) C hr hk X hf dX8_take_119
  have j62 : ∀ (w : RS) (x2 : Int32) (x3 : Int32) (x4 : Int32) (ls : Array Slot) (H : Heap) (locs : List Loc), fR_take_62 w x2 x3 x4 = some (r, w') → lv_has ls 5 [(0, .ref o), (2, .int x2), (3, .int x3), (4, .int x4)] → g_W E A s H locs (wsR E o ad w) → W p l e ({ frames := 4, cells := 0, slots := 0, locals := 91 }) s m ([.ref o, .int a1, .int a2, .int a3] : List Value).toArray below meth c H locs 0 0 (MQ below (va_Ql (fun (r' : Int64) (u' : va_W) => r' = r ∧ u' = wsR E o ad w') (g_B E A) A) ([.ref o, .int a1, .int a2, .int a3] : List Value).toArray s 0 0 A) (F0 m 62 ls []) := by
    intro w x2 x3 x4 ls H locs hf hl X
    unfold fR_take_62 at hf
    refine lv_iload hx hb dX8_take_62 (lv_at hl 3 rfl) ?_
    refine lv_if_ge (tgt := 74) hx hb dX8_take_64 (by decide) (fun c64 => ?_) (fun c64 => ?_)
    · have hf := g_t hf c64
      refine lv_iload_n hx hb dX8_take_74 rfl (lv_at hl 1 rfl) ?_
      refine lv_bipush (v := 13) hx hb dX8_take_75 (by decide) ?_
      refine lv_icmp_lt (tgt := 97) hx hb dX8_take_77 (by decide) (fun c77 => ?_) (fun c77 => ?_)
      · have hf := g_t hf c77
        exact j97 w x2 x3 x4 ls H locs hf (lv_sub hl [0, 1, 2, 3] rfl) X
      · have hf := g_f hf c77
        refine lv_aload_n hx hb dX8_take_80 rfl (lv_at hl 0 rfl) ?_
        refine lv_iload hx hb dX8_take_81 (lv_at hl 3 rfl) ?_
        refine lv_iload_n hx hb dX8_take_83 rfl (lv_at hl 2 rfl) ?_
        obtain ⟨q84, e84, hf⟩ := g_be hf
        refine g_calli X (g_runV (As := [.int x4, .int x3]) (rest := []) C X (cR_hasPlace l E A o ad w q84.2 q84.1 x4 x3 e84) kX8_hasPlace m_771 0 6 rfl rfl hl.1 rfl ⟨Nat.le_of_ble_eq_true rfl, Nat.le_of_ble_eq_true rfl⟩ rfl (Nat.le_of_ble_eq_true rfl) dX8_take_84 ⟨Nat.le_of_ble_eq_true rfl, Nat.le_of_ble_eq_true rfl⟩) rfl rfl (fun H locs X => ?_)
        refine lv_if_ne (tgt := 97) hx hb dX8_take_87 (by decide) (fun c87 => ?_) (fun c87 => ?_)
        · have hf := g_f hf c87
          exact j97 q84.2 x2 x3 x4 ls H locs hf (lv_sub hl [0, 1, 2, 3] rfl) X
        · have hf := g_t hf c87
          refine lv_aload_n hx hb dX8_take_90 rfl (lv_at hl 0 rfl) ?_
          refine lv_iconst (v := 4) hx hb dX8_take_91 (by decide) ?_
          obtain ⟨q92, e92, hf⟩ := g_be hf
          refine g_calli X (g_runV (As := [.int (4 : Int32)]) (rest := []) C X (cR_refuse l E A o ad q84.2 q92.2 q92.1 (4 : Int32) e92) kX8_refuse m_708 0 6 rfl rfl hl.1 rfl ⟨Nat.le_of_ble_eq_true rfl, Nat.le_of_ble_eq_true rfl⟩ rfl (Nat.le_of_ble_eq_true rfl) dX8_take_92 ⟨Nat.le_of_ble_eq_true rfl, Nat.le_of_ble_eq_true rfl⟩) rfl rfl (fun H locs X => ?_)
          refine lv_i2l hx hb dX8_take_95 rfl ?_
          exact g_lret (wsR E o ad) C hr hk X hf dX8_take_96
    · have hf := g_f hf c64
      refine lv_aload_n hx hb dX8_take_67 rfl (lv_at hl 0 rfl) ?_
      refine lv_iconst (v := 2) hx hb dX8_take_68 (by decide) ?_
      obtain ⟨q69, e69, hf⟩ := g_be hf
      refine g_calli X (g_runV (As := [.int (2 : Int32)]) (rest := []) C X (cR_refuse l E A o ad w q69.2 q69.1 (2 : Int32) e69) kX8_refuse m_708 0 6 rfl rfl hl.1 rfl ⟨Nat.le_of_ble_eq_true rfl, Nat.le_of_ble_eq_true rfl⟩ rfl (Nat.le_of_ble_eq_true rfl) dX8_take_69 ⟨Nat.le_of_ble_eq_true rfl, Nat.le_of_ble_eq_true rfl⟩) rfl rfl (fun H locs X => ?_)
      refine lv_i2l hx hb dX8_take_72 rfl ?_
      exact g_lret (wsR E o ad) C hr hk X hf dX8_take_73
  unfold fR_take at hf
  refine lv_aload_n hx hb dX8_take_0 rfl (lv_at hl 0 rfl) ?_
  refine lv_iconst (v := 0) hx hb dX8_take_1 (by decide) ?_
  obtain ⟨w2, e2, hf⟩ := g_le hf
  refine g_put C X g_iX8 tyX8_ok nmX8 0 rfl rfl 15 (by decide) rfl m_656 rfl rfl rfl (Nat.le_of_ble_eq_true rfl) dX8_take_2 (ws2 := wsR E o ad w2) (by subst e2; rfl) (fun H locs X => ?_)
  refine lv_iload_n hx hb dX8_take_5 rfl (lv_at hl 1 rfl) ?_
  obtain ⟨q6, e6, hf⟩ := g_be hf
  refine g_calli X (g_runS (As := [.int a1]) (rest := []) C X (cR_isShelf l E A o ad w2 q6.2 q6.1 a1 e6) kX8_isShelf m_723 hl.1 rfl ⟨Nat.le_of_ble_eq_true rfl, Nat.le_of_ble_eq_true rfl⟩ rfl (Nat.le_of_ble_eq_true rfl) dX8_take_6 ⟨Nat.le_of_ble_eq_true rfl, Nat.le_of_ble_eq_true rfl⟩) rfl rfl (fun H locs X => ?_)
  refine lv_if_eq (tgt := 22) hx hb dX8_take_9 (by decide) (fun c9 => ?_) (fun c9 => ?_)
  · have hf := g_t hf c9
    refine lv_aload_n hx hb dX8_take_22 rfl (lv_at hl 0 rfl) ?_
    refine lv_iconst (v := 1) hx hb dX8_take_23 (by decide) ?_
    obtain ⟨q24, e24, hf⟩ := g_be hf
    refine g_calli X (g_runV (As := [.int (1 : Int32)]) (rest := []) C X (cR_refuse l E A o ad q6.2 q24.2 q24.1 (1 : Int32) e24) kX8_refuse m_708 0 6 rfl rfl hl.1 rfl ⟨Nat.le_of_ble_eq_true rfl, Nat.le_of_ble_eq_true rfl⟩ rfl (Nat.le_of_ble_eq_true rfl) dX8_take_24 ⟨Nat.le_of_ble_eq_true rfl, Nat.le_of_ble_eq_true rfl⟩) rfl rfl (fun H locs X => ?_)
    refine lv_i2l hx hb dX8_take_27 rfl ?_
    exact g_lret (wsR E o ad) C hr hk X hf dX8_take_28
  · have hf := g_f hf c9
    refine lv_iload_n hx hb dX8_take_12 rfl (lv_at hl 2 rfl) ?_
    refine lv_if_lt (tgt := 22) hx hb dX8_take_13 (by decide) (fun c13 => ?_) (fun c13 => ?_)
    · have hf := g_t hf c13
      refine lv_aload_n hx hb dX8_take_22 rfl (lv_at hl 0 rfl) ?_
      refine lv_iconst (v := 1) hx hb dX8_take_23 (by decide) ?_
      obtain ⟨q24, e24, hf⟩ := g_be hf
      refine g_calli X (g_runV (As := [.int (1 : Int32)]) (rest := []) C X (cR_refuse l E A o ad q6.2 q24.2 q24.1 (1 : Int32) e24) kX8_refuse m_708 0 6 rfl rfl hl.1 rfl ⟨Nat.le_of_ble_eq_true rfl, Nat.le_of_ble_eq_true rfl⟩ rfl (Nat.le_of_ble_eq_true rfl) dX8_take_24 ⟨Nat.le_of_ble_eq_true rfl, Nat.le_of_ble_eq_true rfl⟩) rfl rfl (fun H locs X => ?_)
      refine lv_i2l hx hb dX8_take_27 rfl ?_
      exact g_lret (wsR E o ad) C hr hk X hf dX8_take_28
    · have hf := g_f hf c13
      refine lv_iload_n hx hb dX8_take_16 rfl (lv_at hl 2 rfl) ?_
      refine lv_bipush (v := 24) hx hb dX8_take_17 (by decide) ?_
      refine lv_icmp_le (tgt := 29) hx hb dX8_take_19 (by decide) (fun c19 => ?_) (fun c19 => ?_)
      · have hf := g_t hf c19
        refine lv_aload_n hx hb dX8_take_29 rfl (lv_at hl 0 rfl) ?_
        refine lv_iload_n hx hb dX8_take_30 rfl (lv_at hl 1 rfl) ?_
        obtain ⟨q31, e31, hf⟩ := g_be hf
        refine g_calli X (g_runV (As := [.int a1]) (rest := []) C X (cR_on l E A o ad q6.2 q31.2 q31.1 a1 e31) kX8_on m_760 0 6 rfl rfl hl.1 rfl ⟨Nat.le_of_ble_eq_true rfl, Nat.le_of_ble_eq_true rfl⟩ rfl (Nat.le_of_ble_eq_true rfl) dX8_take_31 ⟨Nat.le_of_ble_eq_true rfl, Nat.le_of_ble_eq_true rfl⟩) rfl rfl (fun H locs X => ?_)
        refine lv_istore (lv' := [(4, .int q31.1), (0, .ref o), (1, .int a1), (2, .int a2), (3, .int a3)]) hx hb dX8_take_34 hl (by decide) rfl (fun ls hl => ?_)
        refine lv_iload hx hb dX8_take_36 (lv_at hl 0 rfl) ?_
        refine lv_if_lt (tgt := 62) hx hb dX8_take_38 (by decide) (fun c38 => ?_) (fun c38 => ?_)
        · have hf := g_t hf c38
          exact j62 q31.2 a2 a3 q31.1 ls H locs hf (lv_sub hl [1, 3, 4, 0] rfl) X
        · have hf := g_f hf c38
          refine lv_aload_n hx hb dX8_take_41 rfl (lv_at hl 1 rfl) ?_
          refine lv_aload_n hx hb dX8_take_42 rfl (lv_at hl 1 rfl) ?_
          refine lv_iload hx hb dX8_take_43 (lv_at hl 0 rfl) ?_
          obtain ⟨q45, e45, hf⟩ := g_be hf
          refine g_calli X (g_runV (As := [.int q31.1]) (rest := [.ref o]) C X (cR_kindOf l E A o ad q31.2 q45.2 q45.1 q31.1 e45) kX8_kindOf m_764 0 6 rfl rfl hl.1 rfl ⟨Nat.le_of_ble_eq_true rfl, Nat.le_of_ble_eq_true rfl⟩ rfl (Nat.le_of_ble_eq_true rfl) dX8_take_45 ⟨Nat.le_of_ble_eq_true rfl, Nat.le_of_ble_eq_true rfl⟩) rfl rfl (fun H locs X => ?_)
          refine lv_iload_n hx hb dX8_take_48 rfl (lv_at hl 3 rfl) ?_
          obtain ⟨q49, e49, hf⟩ := g_be hf
          refine g_calli X (g_runV (As := [.int q45.1, .int a2]) (rest := []) C X (cR_isUnder l E A o ad q45.2 q49.2 q49.1 q45.1 a2 e49) kX8_isUnder m_730 0 6 rfl rfl hl.1 rfl ⟨Nat.le_of_ble_eq_true rfl, Nat.le_of_ble_eq_true rfl⟩ rfl (Nat.le_of_ble_eq_true rfl) dX8_take_49 ⟨Nat.le_of_ble_eq_true rfl, Nat.le_of_ble_eq_true rfl⟩) rfl rfl (fun H locs X => ?_)
          refine lv_if_ne (tgt := 62) hx hb dX8_take_52 (by decide) (fun c52 => ?_) (fun c52 => ?_)
          · have hf := g_f hf c52
            exact j62 q49.2 a2 a3 q31.1 ls H locs hf (lv_sub hl [1, 3, 4, 0] rfl) X
          · have hf := g_t hf c52
            refine lv_aload_n hx hb dX8_take_55 rfl (lv_at hl 1 rfl) ?_
            refine lv_iconst (v := 3) hx hb dX8_take_56 (by decide) ?_
            obtain ⟨q57, e57, hf⟩ := g_be hf
            refine g_calli X (g_runV (As := [.int (3 : Int32)]) (rest := []) C X (cR_refuse l E A o ad q49.2 q57.2 q57.1 (3 : Int32) e57) kX8_refuse m_708 0 6 rfl rfl hl.1 rfl ⟨Nat.le_of_ble_eq_true rfl, Nat.le_of_ble_eq_true rfl⟩ rfl (Nat.le_of_ble_eq_true rfl) dX8_take_57 ⟨Nat.le_of_ble_eq_true rfl, Nat.le_of_ble_eq_true rfl⟩) rfl rfl (fun H locs X => ?_)
            refine lv_i2l hx hb dX8_take_60 rfl ?_
            exact g_lret (wsR E o ad) C hr hk X hf dX8_take_61
      · have hf := g_f hf c19
        refine lv_aload_n hx hb dX8_take_22 rfl (lv_at hl 0 rfl) ?_
        refine lv_iconst (v := 1) hx hb dX8_take_23 (by decide) ?_
        obtain ⟨q24, e24, hf⟩ := g_be hf
        refine g_calli X (g_runV (As := [.int (1 : Int32)]) (rest := []) C X (cR_refuse l E A o ad q6.2 q24.2 q24.1 (1 : Int32) e24) kX8_refuse m_708 0 6 rfl rfl hl.1 rfl ⟨Nat.le_of_ble_eq_true rfl, Nat.le_of_ble_eq_true rfl⟩ rfl (Nat.le_of_ble_eq_true rfl) dX8_take_24 ⟨Nat.le_of_ble_eq_true rfl, Nat.le_of_ble_eq_true rfl⟩) rfl rfl (fun H locs X => ?_)
        refine lv_i2l hx hb dX8_take_27 rfl ?_
        exact g_lret (wsR E o ad) C hr hk X hf dX8_take_28
set_option maxRecDepth 100000 in
set_option maxHeartbeats 4000000 in
theorem cR_size (l : Launch) (E : g_Env) (A : Nat → Prop) (o : Nat) (ad : Nat → Nat) (w : RS) (w' : RS) (r : Int32) (a1 : Int32) (hf : fR_size w a1 = some (r, w')) : g_Mi l yX8_size cX8_size 2 ((some .int)) ({ frames := 1, cells := 0, slots := 0, locals := 21 }) E A [.ref o, .int a1] (wsR E o ad w) r (wsR E o ad w') := by
  refine g_start (by decide) (Nat.le_of_ble_eq_true rfl) ?_
  intro p e s m below meth c C hr hk hnm ls hl H locs X
  have hx := C.1.1
  have hb := C.1.2.1
  have hl : lv_has ls 2 [(0, .ref o), (1, .int a1)] := hl
  unfold fR_size at hf
  refine lv_aload_n hx hb dX8_size_0 rfl (lv_at hl 0 rfl) ?_
  refine lv_iconst (v := 0) hx hb dX8_size_1 (by decide) ?_
  obtain ⟨w2, e2, hf⟩ := g_le hf
  refine g_put C X g_iX8 tyX8_ok nmX8 0 rfl rfl 15 (by decide) rfl m_656 rfl rfl rfl (Nat.le_of_ble_eq_true rfl) dX8_size_2 (ws2 := wsR E o ad w2) (by subst e2; rfl) (fun H locs X => ?_)
  refine lv_iload_n hx hb dX8_size_5 rfl (lv_at hl 1 rfl) ?_
  obtain ⟨q6, e6, hf⟩ := g_be hf
  refine g_calli X (g_runS (As := [.int a1]) (rest := []) C X (cR_isShelf l E A o ad w2 q6.2 q6.1 a1 e6) kX8_isShelf m_723 hl.1 rfl ⟨Nat.le_of_ble_eq_true rfl, Nat.le_of_ble_eq_true rfl⟩ rfl (Nat.le_of_ble_eq_true rfl) dX8_size_6 ⟨Nat.le_of_ble_eq_true rfl, Nat.le_of_ble_eq_true rfl⟩) rfl rfl (fun H locs X => ?_)
  refine lv_if_ne (tgt := 18) hx hb dX8_size_9 (by decide) (fun c9 => ?_) (fun c9 => ?_)
  · have hf := g_f hf c9
    refine lv_aload_n hx hb dX8_size_18 rfl (lv_at hl 0 rfl) ?_
    refine lv_iload_n hx hb dX8_size_19 rfl (lv_at hl 1 rfl) ?_
    obtain ⟨q20, e20, hf⟩ := g_be hf
    refine g_calli X (g_runV (As := [.int a1]) (rest := []) C X (cR_on l E A o ad q6.2 q20.2 q20.1 a1 e20) kX8_on m_760 0 6 rfl rfl hl.1 rfl ⟨Nat.le_of_ble_eq_true rfl, Nat.le_of_ble_eq_true rfl⟩ rfl (Nat.le_of_ble_eq_true rfl) dX8_size_20 ⟨Nat.le_of_ble_eq_true rfl, Nat.le_of_ble_eq_true rfl⟩) rfl rfl (fun H locs X => ?_)
    refine lv_if_ge (tgt := 32) hx hb dX8_size_23 (by decide) (fun c23 => ?_) (fun c23 => ?_)
    · have hf := g_t hf c23
      refine lv_aload_n hx hb dX8_size_32 rfl (lv_at hl 0 rfl) ?_
      refine lv_aload_n hx hb dX8_size_33 rfl (lv_at hl 0 rfl) ?_
      refine lv_iload_n hx hb dX8_size_34 rfl (lv_at hl 1 rfl) ?_
      obtain ⟨q35, e35, hf⟩ := g_be hf
      refine g_calli X (g_runV (As := [.int a1]) (rest := [.ref o]) C X (cR_on l E A o ad q20.2 q35.2 q35.1 a1 e35) kX8_on m_760 0 6 rfl rfl hl.1 rfl ⟨Nat.le_of_ble_eq_true rfl, Nat.le_of_ble_eq_true rfl⟩ rfl (Nat.le_of_ble_eq_true rfl) dX8_size_35 ⟨Nat.le_of_ble_eq_true rfl, Nat.le_of_ble_eq_true rfl⟩) rfl rfl (fun H locs X => ?_)
      obtain ⟨q38, e38, hf⟩ := g_be hf
      refine g_calli X (g_runV (As := [.int q35.1]) (rest := []) C X (cR_kindOf l E A o ad q35.2 q38.2 q38.1 q35.1 e38) kX8_kindOf m_764 0 6 rfl rfl hl.1 rfl ⟨Nat.le_of_ble_eq_true rfl, Nat.le_of_ble_eq_true rfl⟩ rfl (Nat.le_of_ble_eq_true rfl) dX8_size_38 ⟨Nat.le_of_ble_eq_true rfl, Nat.le_of_ble_eq_true rfl⟩) rfl rfl (fun H locs X => ?_)
      refine lv_bipush (v := 13) hx hb dX8_size_41 (by decide) ?_
      refine lv_icmp_ge (tgt := 52) hx hb dX8_size_43 (by decide) (fun c43 => ?_) (fun c43 => ?_)
      · have hf := g_t hf c43
        refine lv_aload_n hx hb dX8_size_52 rfl (lv_at hl 0 rfl) ?_
        refine lv_aload_n hx hb dX8_size_53 rfl (lv_at hl 0 rfl) ?_
        refine lv_iload_n hx hb dX8_size_54 rfl (lv_at hl 1 rfl) ?_
        obtain ⟨q55, e55, hf⟩ := g_be hf
        refine g_calli X (g_runV (As := [.int a1]) (rest := [.ref o]) C X (cR_on l E A o ad q38.2 q55.2 q55.1 a1 e55) kX8_on m_760 0 6 rfl rfl hl.1 rfl ⟨Nat.le_of_ble_eq_true rfl, Nat.le_of_ble_eq_true rfl⟩ rfl (Nat.le_of_ble_eq_true rfl) dX8_size_55 ⟨Nat.le_of_ble_eq_true rfl, Nat.le_of_ble_eq_true rfl⟩) rfl rfl (fun H locs X => ?_)
        obtain ⟨q58, e58, hf⟩ := g_be hf
        refine g_calli X (g_runV (As := [.int q55.1]) (rest := []) C X (cR_lengthOf l E A o ad q55.2 q58.2 q58.1 q55.1 e58) kX8_lengthOf m_775 0 6 rfl rfl hl.1 rfl ⟨Nat.le_of_ble_eq_true rfl, Nat.le_of_ble_eq_true rfl⟩ rfl (Nat.le_of_ble_eq_true rfl) dX8_size_58 ⟨Nat.le_of_ble_eq_true rfl, Nat.le_of_ble_eq_true rfl⟩) rfl rfl (fun H locs X => ?_)
        exact g_iret (wsR E o ad) C hr hk X hf dX8_size_61
      · have hf := g_f hf c43
        refine lv_aload_n hx hb dX8_size_46 rfl (lv_at hl 0 rfl) ?_
        refine lv_iconst (v := 3) hx hb dX8_size_47 (by decide) ?_
        obtain ⟨q48, e48, hf⟩ := g_be hf
        refine g_calli X (g_runV (As := [.int (3 : Int32)]) (rest := []) C X (cR_refuse l E A o ad q38.2 q48.2 q48.1 (3 : Int32) e48) kX8_refuse m_708 0 6 rfl rfl hl.1 rfl ⟨Nat.le_of_ble_eq_true rfl, Nat.le_of_ble_eq_true rfl⟩ rfl (Nat.le_of_ble_eq_true rfl) dX8_size_48 ⟨Nat.le_of_ble_eq_true rfl, Nat.le_of_ble_eq_true rfl⟩) rfl rfl (fun H locs X => ?_)
        exact g_iret (wsR E o ad) C hr hk X hf dX8_size_51
    · have hf := g_f hf c23
      refine lv_aload_n hx hb dX8_size_26 rfl (lv_at hl 0 rfl) ?_
      refine lv_iconst (v := 2) hx hb dX8_size_27 (by decide) ?_
      obtain ⟨q28, e28, hf⟩ := g_be hf
      refine g_calli X (g_runV (As := [.int (2 : Int32)]) (rest := []) C X (cR_refuse l E A o ad q20.2 q28.2 q28.1 (2 : Int32) e28) kX8_refuse m_708 0 6 rfl rfl hl.1 rfl ⟨Nat.le_of_ble_eq_true rfl, Nat.le_of_ble_eq_true rfl⟩ rfl (Nat.le_of_ble_eq_true rfl) dX8_size_28 ⟨Nat.le_of_ble_eq_true rfl, Nat.le_of_ble_eq_true rfl⟩) rfl rfl (fun H locs X => ?_)
      exact g_iret (wsR E o ad) C hr hk X hf dX8_size_31
  · have hf := g_t hf c9
    refine lv_aload_n hx hb dX8_size_12 rfl (lv_at hl 0 rfl) ?_
    refine lv_iconst (v := 1) hx hb dX8_size_13 (by decide) ?_
    obtain ⟨q14, e14, hf⟩ := g_be hf
    refine g_calli X (g_runV (As := [.int (1 : Int32)]) (rest := []) C X (cR_refuse l E A o ad q6.2 q14.2 q14.1 (1 : Int32) e14) kX8_refuse m_708 0 6 rfl rfl hl.1 rfl ⟨Nat.le_of_ble_eq_true rfl, Nat.le_of_ble_eq_true rfl⟩ rfl (Nat.le_of_ble_eq_true rfl) dX8_size_14 ⟨Nat.le_of_ble_eq_true rfl, Nat.le_of_ble_eq_true rfl⟩) rfl rfl (fun H locs X => ?_)
    exact g_iret (wsR E o ad) C hr hk X hf dX8_size_17
set_option maxRecDepth 100000 in
set_option maxHeartbeats 4000000 in
theorem cR_read (l : Launch) (E : g_Env) (A : Nat → Prop) (o : Nat) (ad : Nat → Nat) (w : RS) (w' : RS) (r : Int64) (a1 : Int32) (a2 : Int32) (hf : fR_read w a1 a2 = some (r, w')) : g_Ml l yX8_read cX8_read 3 ({ frames := 2, cells := 0, slots := 0, locals := 43 }) E A [.ref o, .int a1, .int a2] (wsR E o ad w) r (wsR E o ad w') := by
  refine g_start (by decide) (Nat.le_of_ble_eq_true rfl) ?_
  intro p e s m below meth c C hr hk hnm ls hl H locs X
  have hx := C.1.1
  have hb := C.1.2.1
  have hl : lv_has ls 3 [(0, .ref o), (1, .int a1), (2, .int a2)] := hl
  unfold fR_read at hf
  refine lv_aload_n hx hb dX8_read_0 rfl (lv_at hl 0 rfl) ?_
  refine lv_iconst (v := 0) hx hb dX8_read_1 (by decide) ?_
  obtain ⟨w2, e2, hf⟩ := g_le hf
  refine g_put C X g_iX8 tyX8_ok nmX8 0 rfl rfl 15 (by decide) rfl m_656 rfl rfl rfl (Nat.le_of_ble_eq_true rfl) dX8_read_2 (ws2 := wsR E o ad w2) (by subst e2; rfl) (fun H locs X => ?_)
  refine lv_iload_n hx hb dX8_read_5 rfl (lv_at hl 1 rfl) ?_
  obtain ⟨q6, e6, hf⟩ := g_be hf
  refine g_calli X (g_runS (As := [.int a1]) (rest := []) C X (cR_isShelf l E A o ad w2 q6.2 q6.1 a1 e6) kX8_isShelf m_723 hl.1 rfl ⟨Nat.le_of_ble_eq_true rfl, Nat.le_of_ble_eq_true rfl⟩ rfl (Nat.le_of_ble_eq_true rfl) dX8_read_6 ⟨Nat.le_of_ble_eq_true rfl, Nat.le_of_ble_eq_true rfl⟩) rfl rfl (fun H locs X => ?_)
  refine lv_if_ne (tgt := 19) hx hb dX8_read_9 (by decide) (fun c9 => ?_) (fun c9 => ?_)
  · have hf := g_f hf c9
    refine lv_aload_n hx hb dX8_read_19 rfl (lv_at hl 0 rfl) ?_
    refine lv_iload_n hx hb dX8_read_20 rfl (lv_at hl 1 rfl) ?_
    obtain ⟨q21, e21, hf⟩ := g_be hf
    refine g_calli X (g_runV (As := [.int a1]) (rest := []) C X (cR_on l E A o ad q6.2 q21.2 q21.1 a1 e21) kX8_on m_760 0 6 rfl rfl hl.1 rfl ⟨Nat.le_of_ble_eq_true rfl, Nat.le_of_ble_eq_true rfl⟩ rfl (Nat.le_of_ble_eq_true rfl) dX8_read_21 ⟨Nat.le_of_ble_eq_true rfl, Nat.le_of_ble_eq_true rfl⟩) rfl rfl (fun H locs X => ?_)
    refine lv_if_ge (tgt := 34) hx hb dX8_read_24 (by decide) (fun c24 => ?_) (fun c24 => ?_)
    · have hf := g_t hf c24
      refine lv_aload_n hx hb dX8_read_34 rfl (lv_at hl 0 rfl) ?_
      refine lv_aload_n hx hb dX8_read_35 rfl (lv_at hl 0 rfl) ?_
      refine lv_iload_n hx hb dX8_read_36 rfl (lv_at hl 1 rfl) ?_
      obtain ⟨q37, e37, hf⟩ := g_be hf
      refine g_calli X (g_runV (As := [.int a1]) (rest := [.ref o]) C X (cR_on l E A o ad q21.2 q37.2 q37.1 a1 e37) kX8_on m_760 0 6 rfl rfl hl.1 rfl ⟨Nat.le_of_ble_eq_true rfl, Nat.le_of_ble_eq_true rfl⟩ rfl (Nat.le_of_ble_eq_true rfl) dX8_read_37 ⟨Nat.le_of_ble_eq_true rfl, Nat.le_of_ble_eq_true rfl⟩) rfl rfl (fun H locs X => ?_)
      obtain ⟨q40, e40, hf⟩ := g_be hf
      refine g_calli X (g_runV (As := [.int q37.1]) (rest := []) C X (cR_kindOf l E A o ad q37.2 q40.2 q40.1 q37.1 e40) kX8_kindOf m_764 0 6 rfl rfl hl.1 rfl ⟨Nat.le_of_ble_eq_true rfl, Nat.le_of_ble_eq_true rfl⟩ rfl (Nat.le_of_ble_eq_true rfl) dX8_read_40 ⟨Nat.le_of_ble_eq_true rfl, Nat.le_of_ble_eq_true rfl⟩) rfl rfl (fun H locs X => ?_)
      obtain ⟨q43, e43, hf⟩ := g_be hf
      refine g_calli X (g_runS (As := [.int q40.1]) (rest := []) C X (cR_isNumberRow l E A o ad q40.2 q43.2 q43.1 q40.1 e43) kX8_isNumberRow m_799 hl.1 rfl ⟨Nat.le_of_ble_eq_true rfl, Nat.le_of_ble_eq_true rfl⟩ rfl (Nat.le_of_ble_eq_true rfl) dX8_read_43 ⟨Nat.le_of_ble_eq_true rfl, Nat.le_of_ble_eq_true rfl⟩) rfl rfl (fun H locs X => ?_)
      refine lv_if_ne (tgt := 56) hx hb dX8_read_46 (by decide) (fun c46 => ?_) (fun c46 => ?_)
      · have hf := g_f hf c46
        refine lv_aload_n hx hb dX8_read_56 rfl (lv_at hl 0 rfl) ?_
        refine lv_aload_n hx hb dX8_read_57 rfl (lv_at hl 0 rfl) ?_
        refine lv_iload_n hx hb dX8_read_58 rfl (lv_at hl 1 rfl) ?_
        obtain ⟨q59, e59, hf⟩ := g_be hf
        refine g_calli X (g_runV (As := [.int a1]) (rest := [.ref o]) C X (cR_on l E A o ad q43.2 q59.2 q59.1 a1 e59) kX8_on m_760 0 6 rfl rfl hl.1 rfl ⟨Nat.le_of_ble_eq_true rfl, Nat.le_of_ble_eq_true rfl⟩ rfl (Nat.le_of_ble_eq_true rfl) dX8_read_59 ⟨Nat.le_of_ble_eq_true rfl, Nat.le_of_ble_eq_true rfl⟩) rfl rfl (fun H locs X => ?_)
        refine lv_iload_n hx hb dX8_read_62 rfl (lv_at hl 2 rfl) ?_
        obtain ⟨q63, e63, hf⟩ := g_be hf
        refine g_calli X (g_runV (As := [.int q59.1, .int a2]) (rest := []) C X (cR_hasPlace l E A o ad q59.2 q63.2 q63.1 q59.1 a2 e63) kX8_hasPlace m_771 0 6 rfl rfl hl.1 rfl ⟨Nat.le_of_ble_eq_true rfl, Nat.le_of_ble_eq_true rfl⟩ rfl (Nat.le_of_ble_eq_true rfl) dX8_read_63 ⟨Nat.le_of_ble_eq_true rfl, Nat.le_of_ble_eq_true rfl⟩) rfl rfl (fun H locs X => ?_)
        refine lv_if_ne (tgt := 76) hx hb dX8_read_66 (by decide) (fun c66 => ?_) (fun c66 => ?_)
        · have hf := g_f hf c66
          refine lv_aload_n hx hb dX8_read_76 rfl (lv_at hl 0 rfl) ?_
          refine g_get C X g_iX8 0 rfl rfl 3 (by decide) rfl m_644 rfl dX8_read_77 ?_
          refine lv_bipush (v := 12) hx hb dX8_read_80 (by decide) ?_
          refine lv_aload_n hx hb dX8_read_82 rfl (lv_at hl 0 rfl) ?_
          refine lv_iload_n hx hb dX8_read_83 rfl (lv_at hl 1 rfl) ?_
          obtain ⟨q84, e84, hf⟩ := g_be hf
          refine g_calli X (g_runV (As := [.int a1]) (rest := [.int (12 : Int32), .ref (ad 3)]) C X (cR_on l E A o ad q63.2 q84.2 q84.1 a1 e84) kX8_on m_760 0 6 rfl rfl hl.1 rfl ⟨Nat.le_of_ble_eq_true rfl, Nat.le_of_ble_eq_true rfl⟩ rfl (Nat.le_of_ble_eq_true rfl) dX8_read_84 ⟨Nat.le_of_ble_eq_true rfl, Nat.le_of_ble_eq_true rfl⟩) rfl rfl (fun H locs X => ?_)
          refine lv_imul hx hb dX8_read_87 ?_
          refine lv_iload_n hx hb dX8_read_88 rfl (lv_at hl 2 rfl) ?_
          refine lv_iadd hx hb dX8_read_89 ?_
          obtain ⟨h90, hf⟩ := g_cke hf
          obtain ⟨v90, e90, hf⟩ := g_le hf
          refine g_lald C X 4 rfl h90 e90 dX8_read_90 ?_
          exact g_lret (wsR E o ad) C hr hk X hf dX8_read_91
        · have hf := g_t hf c66
          refine lv_aload_n hx hb dX8_read_69 rfl (lv_at hl 0 rfl) ?_
          refine lv_iconst (v := 4) hx hb dX8_read_70 (by decide) ?_
          obtain ⟨q71, e71, hf⟩ := g_be hf
          refine g_calli X (g_runV (As := [.int (4 : Int32)]) (rest := []) C X (cR_refuse l E A o ad q63.2 q71.2 q71.1 (4 : Int32) e71) kX8_refuse m_708 0 6 rfl rfl hl.1 rfl ⟨Nat.le_of_ble_eq_true rfl, Nat.le_of_ble_eq_true rfl⟩ rfl (Nat.le_of_ble_eq_true rfl) dX8_read_71 ⟨Nat.le_of_ble_eq_true rfl, Nat.le_of_ble_eq_true rfl⟩) rfl rfl (fun H locs X => ?_)
          refine lv_i2l hx hb dX8_read_74 rfl ?_
          exact g_lret (wsR E o ad) C hr hk X hf dX8_read_75
      · have hf := g_t hf c46
        refine lv_aload_n hx hb dX8_read_49 rfl (lv_at hl 0 rfl) ?_
        refine lv_iconst (v := 3) hx hb dX8_read_50 (by decide) ?_
        obtain ⟨q51, e51, hf⟩ := g_be hf
        refine g_calli X (g_runV (As := [.int (3 : Int32)]) (rest := []) C X (cR_refuse l E A o ad q43.2 q51.2 q51.1 (3 : Int32) e51) kX8_refuse m_708 0 6 rfl rfl hl.1 rfl ⟨Nat.le_of_ble_eq_true rfl, Nat.le_of_ble_eq_true rfl⟩ rfl (Nat.le_of_ble_eq_true rfl) dX8_read_51 ⟨Nat.le_of_ble_eq_true rfl, Nat.le_of_ble_eq_true rfl⟩) rfl rfl (fun H locs X => ?_)
        refine lv_i2l hx hb dX8_read_54 rfl ?_
        exact g_lret (wsR E o ad) C hr hk X hf dX8_read_55
    · have hf := g_f hf c24
      refine lv_aload_n hx hb dX8_read_27 rfl (lv_at hl 0 rfl) ?_
      refine lv_iconst (v := 2) hx hb dX8_read_28 (by decide) ?_
      obtain ⟨q29, e29, hf⟩ := g_be hf
      refine g_calli X (g_runV (As := [.int (2 : Int32)]) (rest := []) C X (cR_refuse l E A o ad q21.2 q29.2 q29.1 (2 : Int32) e29) kX8_refuse m_708 0 6 rfl rfl hl.1 rfl ⟨Nat.le_of_ble_eq_true rfl, Nat.le_of_ble_eq_true rfl⟩ rfl (Nat.le_of_ble_eq_true rfl) dX8_read_29 ⟨Nat.le_of_ble_eq_true rfl, Nat.le_of_ble_eq_true rfl⟩) rfl rfl (fun H locs X => ?_)
      refine lv_i2l hx hb dX8_read_32 rfl ?_
      exact g_lret (wsR E o ad) C hr hk X hf dX8_read_33
  · have hf := g_t hf c9
    refine lv_aload_n hx hb dX8_read_12 rfl (lv_at hl 0 rfl) ?_
    refine lv_iconst (v := 1) hx hb dX8_read_13 (by decide) ?_
    obtain ⟨q14, e14, hf⟩ := g_be hf
    refine g_calli X (g_runV (As := [.int (1 : Int32)]) (rest := []) C X (cR_refuse l E A o ad q6.2 q14.2 q14.1 (1 : Int32) e14) kX8_refuse m_708 0 6 rfl rfl hl.1 rfl ⟨Nat.le_of_ble_eq_true rfl, Nat.le_of_ble_eq_true rfl⟩ rfl (Nat.le_of_ble_eq_true rfl) dX8_read_14 ⟨Nat.le_of_ble_eq_true rfl, Nat.le_of_ble_eq_true rfl⟩) rfl rfl (fun H locs X => ?_)
    refine lv_i2l hx hb dX8_read_17 rfl ?_
    exact g_lret (wsR E o ad) C hr hk X hf dX8_read_18
set_option maxRecDepth 100000 in
set_option maxHeartbeats 4000000 in
theorem cR_at (l : Launch) (E : g_Env) (A : Nat → Prop) (o : Nat) (ad : Nat → Nat) (w : RS) (w' : RS) (r : Int32) (a1 : Int32) (a2 : Int32) (a3 : Int32) (hf : fR_at w a1 a2 a3 = some (r, w')) : g_Mi l yX8_at cX8_at 6 ((some .int)) ({ frames := 2, cells := 0, slots := 0, locals := 43 }) E A [.ref o, .int a1, .int a2, .int a3] (wsR E o ad w) r (wsR E o ad w') := by
  refine g_start (by decide) (Nat.le_of_ble_eq_true rfl) ?_
  intro p e s m below meth c C hr hk hnm ls hl H locs X
  have hx := C.1.1
  have hb := C.1.2.1
  have hl : lv_has ls 6 [(0, .ref o), (1, .int a1), (2, .int a2), (3, .int a3)] := hl
  have j64 : ∀ (w : RS) (x1 : Int32) (x2 : Int32) (x3 : Int32) (x4 : Int32) (ls : Array Slot) (H : Heap) (locs : List Loc), fR_at_64 w x1 x2 x3 x4 = some (r, w') → lv_has ls 6 [(0, .ref o), (1, .int x1), (2, .int x2), (3, .int x3), (4, .int x4)] → g_W E A s H locs (wsR E o ad w) → W p l e ({ frames := 2, cells := 0, slots := 0, locals := 43 }) s m ([.ref o, .int a1, .int a2, .int a3] : List Value).toArray below meth c H locs 0 0 (MQ below (va_Qi (fun (r' : Int32) (u' : va_W) => r' = r ∧ u' = wsR E o ad w') (g_B E A) A) ([.ref o, .int a1, .int a2, .int a3] : List Value).toArray s 0 0 A) (F0 m 64 ls []) := by
    intro w x1 x2 x3 x4 ls H locs hf hl X
    unfold fR_at_64 at hf
    refine lv_aload_n hx hb dX8_at_64 rfl (lv_at hl 0 rfl) ?_
    refine lv_aload_n hx hb dX8_at_65 rfl (lv_at hl 0 rfl) ?_
    refine lv_iload_n hx hb dX8_at_66 rfl (lv_at hl 1 rfl) ?_
    obtain ⟨q67, e67, hf⟩ := g_be hf
    refine g_calli X (g_runV (As := [.int x1]) (rest := [.ref o]) C X (cR_on l E A o ad w q67.2 q67.1 x1 e67) kX8_on m_760 0 6 rfl rfl hl.1 rfl ⟨Nat.le_of_ble_eq_true rfl, Nat.le_of_ble_eq_true rfl⟩ rfl (Nat.le_of_ble_eq_true rfl) dX8_at_67 ⟨Nat.le_of_ble_eq_true rfl, Nat.le_of_ble_eq_true rfl⟩) rfl rfl (fun H locs X => ?_)
    refine lv_iload_n hx hb dX8_at_70 rfl (lv_at hl 2 rfl) ?_
    obtain ⟨q71, e71, hf⟩ := g_be hf
    refine g_calli X (g_runV (As := [.int q67.1, .int x2]) (rest := []) C X (cR_hasPlace l E A o ad q67.2 q71.2 q71.1 q67.1 x2 e71) kX8_hasPlace m_771 0 6 rfl rfl hl.1 rfl ⟨Nat.le_of_ble_eq_true rfl, Nat.le_of_ble_eq_true rfl⟩ rfl (Nat.le_of_ble_eq_true rfl) dX8_at_71 ⟨Nat.le_of_ble_eq_true rfl, Nat.le_of_ble_eq_true rfl⟩) rfl rfl (fun H locs X => ?_)
    refine lv_if_ne (tgt := 83) hx hb dX8_at_74 (by decide) (fun c74 => ?_) (fun c74 => ?_)
    · have hf := g_f hf c74
      refine lv_aload_n hx hb dX8_at_83 rfl (lv_at hl 0 rfl) ?_
      refine lv_aload_n hx hb dX8_at_84 rfl (lv_at hl 0 rfl) ?_
      refine lv_iload_n hx hb dX8_at_85 rfl (lv_at hl 1 rfl) ?_
      obtain ⟨q86, e86, hf⟩ := g_be hf
      refine g_calli X (g_runV (As := [.int x1]) (rest := [.ref o]) C X (cR_on l E A o ad q71.2 q86.2 q86.1 x1 e86) kX8_on m_760 0 6 rfl rfl hl.1 rfl ⟨Nat.le_of_ble_eq_true rfl, Nat.le_of_ble_eq_true rfl⟩ rfl (Nat.le_of_ble_eq_true rfl) dX8_at_86 ⟨Nat.le_of_ble_eq_true rfl, Nat.le_of_ble_eq_true rfl⟩) rfl rfl (fun H locs X => ?_)
      refine lv_iload_n hx hb dX8_at_89 rfl (lv_at hl 2 rfl) ?_
      obtain ⟨q90, e90, hf⟩ := g_be hf
      refine g_calli X (g_runV (As := [.int q86.1, .int x2]) (rest := []) C X (cR_thingAt l E A o ad q86.2 q90.2 q90.1 q86.1 x2 e90) kX8_thingAt m_783 0 6 rfl rfl hl.1 rfl ⟨Nat.le_of_ble_eq_true rfl, Nat.le_of_ble_eq_true rfl⟩ rfl (Nat.le_of_ble_eq_true rfl) dX8_at_90 ⟨Nat.le_of_ble_eq_true rfl, Nat.le_of_ble_eq_true rfl⟩) rfl rfl (fun H locs X => ?_)
      refine lv_istore (lv' := [(5, .int q90.1), (0, .ref o), (1, .int x1), (2, .int x2), (3, .int x3), (4, .int x4)]) hx hb dX8_at_93 hl (by decide) rfl (fun ls hl => ?_)
      refine lv_iload hx hb dX8_at_95 (lv_at hl 0 rfl) ?_
      refine lv_if_ge (tgt := 106) hx hb dX8_at_97 (by decide) (fun c97 => ?_) (fun c97 => ?_)
      · have hf := g_t hf c97
        refine lv_aload_n hx hb dX8_at_106 rfl (lv_at hl 1 rfl) ?_
        refine lv_iload hx hb dX8_at_107 (lv_at hl 0 rfl) ?_
        refine lv_iload_n hx hb dX8_at_109 rfl (lv_at hl 4 rfl) ?_
        obtain ⟨q110, e110, hf⟩ := g_be hf
        refine g_calli X (g_runV (As := [.int q90.1, .int x3]) (rest := []) C X (cR_hasPlace l E A o ad q90.2 q110.2 q110.1 q90.1 x3 e110) kX8_hasPlace m_771 0 6 rfl rfl hl.1 rfl ⟨Nat.le_of_ble_eq_true rfl, Nat.le_of_ble_eq_true rfl⟩ rfl (Nat.le_of_ble_eq_true rfl) dX8_at_110 ⟨Nat.le_of_ble_eq_true rfl, Nat.le_of_ble_eq_true rfl⟩) rfl rfl (fun H locs X => ?_)
        refine lv_if_ne (tgt := 122) hx hb dX8_at_113 (by decide) (fun c113 => ?_) (fun c113 => ?_)
        · have hf := g_f hf c113
          refine lv_iload hx hb dX8_at_122 (lv_at hl 5 rfl) ?_
          refine lv_bipush (v := 16) hx hb dX8_at_124 (by decide) ?_
          refine lv_icmp_ne (tgt := 143) hx hb dX8_at_126 (by decide) (fun c126 => ?_) (fun c126 => ?_)
          · have hf := g_f hf c126
            refine lv_aload_n hx hb dX8_at_143 rfl (lv_at hl 1 rfl) ?_
            refine lv_iload hx hb dX8_at_144 (lv_at hl 0 rfl) ?_
            refine lv_iload_n hx hb dX8_at_146 rfl (lv_at hl 4 rfl) ?_
            obtain ⟨q147, e147, hf⟩ := g_be hf
            refine g_calli X (g_runV (As := [.int q90.1, .int x3]) (rest := []) C X (cR_thingAt l E A o ad q110.2 q147.2 q147.1 q90.1 x3 e147) kX8_thingAt m_783 0 6 rfl rfl hl.1 rfl ⟨Nat.le_of_ble_eq_true rfl, Nat.le_of_ble_eq_true rfl⟩ rfl (Nat.le_of_ble_eq_true rfl) dX8_at_147 ⟨Nat.le_of_ble_eq_true rfl, Nat.le_of_ble_eq_true rfl⟩) rfl rfl (fun H locs X => ?_)
            refine lv_if_ge (tgt := 161) hx hb dX8_at_150 (by decide) (fun c150 => ?_) (fun c150 => ?_)
            · have hf := g_t hf c150
              refine lv_aload_n hx hb dX8_at_161 rfl (lv_at hl 1 rfl) ?_
              refine lv_iload hx hb dX8_at_162 (lv_at hl 0 rfl) ?_
              refine lv_iload_n hx hb dX8_at_164 rfl (lv_at hl 4 rfl) ?_
              obtain ⟨q165, e165, hf⟩ := g_be hf
              refine g_calli X (g_runV (As := [.int q90.1, .int x3]) (rest := []) C X (cR_thingAt l E A o ad q147.2 q165.2 q165.1 q90.1 x3 e165) kX8_thingAt m_783 0 6 rfl rfl hl.1 rfl ⟨Nat.le_of_ble_eq_true rfl, Nat.le_of_ble_eq_true rfl⟩ rfl (Nat.le_of_ble_eq_true rfl) dX8_at_165 ⟨Nat.le_of_ble_eq_true rfl, Nat.le_of_ble_eq_true rfl⟩) rfl rfl (fun H locs X => ?_)
              exact g_iret (wsR E o ad) C hr hk X hf dX8_at_168
            · have hf := g_f hf c150
              refine lv_aload_n hx hb dX8_at_153 rfl (lv_at hl 1 rfl) ?_
              refine lv_iconst (v := 2) hx hb dX8_at_154 (by decide) ?_
              obtain ⟨q155, e155, hf⟩ := g_be hf
              refine g_calli X (g_runV (As := [.int (2 : Int32)]) (rest := []) C X (cR_refuse l E A o ad q147.2 q155.2 q155.1 (2 : Int32) e155) kX8_refuse m_708 0 6 rfl rfl hl.1 rfl ⟨Nat.le_of_ble_eq_true rfl, Nat.le_of_ble_eq_true rfl⟩ rfl (Nat.le_of_ble_eq_true rfl) dX8_at_155 ⟨Nat.le_of_ble_eq_true rfl, Nat.le_of_ble_eq_true rfl⟩) rfl rfl (fun H locs X => ?_)
              refine lv_goto (tgt := 168) hx hb dX8_at_158 (by decide) ?_
              exact g_iret (wsR E o ad) C hr hk X hf dX8_at_168
          · have hf := g_t hf c126
            refine lv_aload_n hx hb dX8_at_129 rfl (lv_at hl 1 rfl) ?_
            refine g_get C X g_iX8 0 rfl rfl 3 (by decide) rfl m_644 rfl dX8_at_130 ?_
            refine lv_bipush (v := 12) hx hb dX8_at_133 (by decide) ?_
            refine lv_iload hx hb dX8_at_135 (lv_at hl 0 rfl) ?_
            refine lv_imul hx hb dX8_at_137 ?_
            refine lv_iload_n hx hb dX8_at_138 rfl (lv_at hl 4 rfl) ?_
            refine lv_iadd hx hb dX8_at_139 ?_
            obtain ⟨h140, hf⟩ := g_cke hf
            obtain ⟨v140, e140, hf⟩ := g_le hf
            refine g_lald C X 4 rfl h140 e140 dX8_at_140 ?_
            refine lv_l2i hx hb dX8_at_141 rfl ?_
            exact g_iret (wsR E o ad) C hr hk X hf dX8_at_142
        · have hf := g_t hf c113
          refine lv_aload_n hx hb dX8_at_116 rfl (lv_at hl 1 rfl) ?_
          refine lv_iconst (v := 4) hx hb dX8_at_117 (by decide) ?_
          obtain ⟨q118, e118, hf⟩ := g_be hf
          refine g_calli X (g_runV (As := [.int (4 : Int32)]) (rest := []) C X (cR_refuse l E A o ad q110.2 q118.2 q118.1 (4 : Int32) e118) kX8_refuse m_708 0 6 rfl rfl hl.1 rfl ⟨Nat.le_of_ble_eq_true rfl, Nat.le_of_ble_eq_true rfl⟩ rfl (Nat.le_of_ble_eq_true rfl) dX8_at_118 ⟨Nat.le_of_ble_eq_true rfl, Nat.le_of_ble_eq_true rfl⟩) rfl rfl (fun H locs X => ?_)
          exact g_iret (wsR E o ad) C hr hk X hf dX8_at_121
      · have hf := g_f hf c97
        refine lv_aload_n hx hb dX8_at_100 rfl (lv_at hl 1 rfl) ?_
        refine lv_iconst (v := 2) hx hb dX8_at_101 (by decide) ?_
        obtain ⟨q102, e102, hf⟩ := g_be hf
        refine g_calli X (g_runV (As := [.int (2 : Int32)]) (rest := []) C X (cR_refuse l E A o ad q90.2 q102.2 q102.1 (2 : Int32) e102) kX8_refuse m_708 0 6 rfl rfl hl.1 rfl ⟨Nat.le_of_ble_eq_true rfl, Nat.le_of_ble_eq_true rfl⟩ rfl (Nat.le_of_ble_eq_true rfl) dX8_at_102 ⟨Nat.le_of_ble_eq_true rfl, Nat.le_of_ble_eq_true rfl⟩) rfl rfl (fun H locs X => ?_)
        exact g_iret (wsR E o ad) C hr hk X hf dX8_at_105
    · have hf := g_t hf c74
      refine lv_aload_n hx hb dX8_at_77 rfl (lv_at hl 0 rfl) ?_
      refine lv_iconst (v := 4) hx hb dX8_at_78 (by decide) ?_
      obtain ⟨q79, e79, hf⟩ := g_be hf
      refine g_calli X (g_runV (As := [.int (4 : Int32)]) (rest := []) C X (cR_refuse l E A o ad q71.2 q79.2 q79.1 (4 : Int32) e79) kX8_refuse m_708 0 6 rfl rfl hl.1 rfl ⟨Nat.le_of_ble_eq_true rfl, Nat.le_of_ble_eq_true rfl⟩ rfl (Nat.le_of_ble_eq_true rfl) dX8_at_79 ⟨Nat.le_of_ble_eq_true rfl, Nat.le_of_ble_eq_true rfl⟩) rfl rfl (fun H locs X => ?_)
      exact g_iret (wsR E o ad) C hr hk X hf dX8_at_82
  unfold fR_at at hf
  refine lv_aload_n hx hb dX8_at_0 rfl (lv_at hl 0 rfl) ?_
  refine lv_iconst (v := 0) hx hb dX8_at_1 (by decide) ?_
  obtain ⟨w2, e2, hf⟩ := g_le hf
  refine g_put C X g_iX8 tyX8_ok nmX8 0 rfl rfl 15 (by decide) rfl m_656 rfl rfl rfl (Nat.le_of_ble_eq_true rfl) dX8_at_2 (ws2 := wsR E o ad w2) (by subst e2; rfl) (fun H locs X => ?_)
  refine lv_iload_n hx hb dX8_at_5 rfl (lv_at hl 1 rfl) ?_
  obtain ⟨q6, e6, hf⟩ := g_be hf
  refine g_calli X (g_runS (As := [.int a1]) (rest := []) C X (cR_isShelf l E A o ad w2 q6.2 q6.1 a1 e6) kX8_isShelf m_723 hl.1 rfl ⟨Nat.le_of_ble_eq_true rfl, Nat.le_of_ble_eq_true rfl⟩ rfl (Nat.le_of_ble_eq_true rfl) dX8_at_6 ⟨Nat.le_of_ble_eq_true rfl, Nat.le_of_ble_eq_true rfl⟩) rfl rfl (fun H locs X => ?_)
  refine lv_if_ne (tgt := 18) hx hb dX8_at_9 (by decide) (fun c9 => ?_) (fun c9 => ?_)
  · have hf := g_f hf c9
    refine lv_aload_n hx hb dX8_at_18 rfl (lv_at hl 0 rfl) ?_
    refine lv_iload_n hx hb dX8_at_19 rfl (lv_at hl 1 rfl) ?_
    obtain ⟨q20, e20, hf⟩ := g_be hf
    refine g_calli X (g_runV (As := [.int a1]) (rest := []) C X (cR_on l E A o ad q6.2 q20.2 q20.1 a1 e20) kX8_on m_760 0 6 rfl rfl hl.1 rfl ⟨Nat.le_of_ble_eq_true rfl, Nat.le_of_ble_eq_true rfl⟩ rfl (Nat.le_of_ble_eq_true rfl) dX8_at_20 ⟨Nat.le_of_ble_eq_true rfl, Nat.le_of_ble_eq_true rfl⟩) rfl rfl (fun H locs X => ?_)
    refine lv_if_ge (tgt := 32) hx hb dX8_at_23 (by decide) (fun c23 => ?_) (fun c23 => ?_)
    · have hf := g_t hf c23
      refine lv_aload_n hx hb dX8_at_32 rfl (lv_at hl 0 rfl) ?_
      refine lv_aload_n hx hb dX8_at_33 rfl (lv_at hl 0 rfl) ?_
      refine lv_iload_n hx hb dX8_at_34 rfl (lv_at hl 1 rfl) ?_
      obtain ⟨q35, e35, hf⟩ := g_be hf
      refine g_calli X (g_runV (As := [.int a1]) (rest := [.ref o]) C X (cR_on l E A o ad q20.2 q35.2 q35.1 a1 e35) kX8_on m_760 0 6 rfl rfl hl.1 rfl ⟨Nat.le_of_ble_eq_true rfl, Nat.le_of_ble_eq_true rfl⟩ rfl (Nat.le_of_ble_eq_true rfl) dX8_at_35 ⟨Nat.le_of_ble_eq_true rfl, Nat.le_of_ble_eq_true rfl⟩) rfl rfl (fun H locs X => ?_)
      obtain ⟨q38, e38, hf⟩ := g_be hf
      refine g_calli X (g_runV (As := [.int q35.1]) (rest := []) C X (cR_kindOf l E A o ad q35.2 q38.2 q38.1 q35.1 e38) kX8_kindOf m_764 0 6 rfl rfl hl.1 rfl ⟨Nat.le_of_ble_eq_true rfl, Nat.le_of_ble_eq_true rfl⟩ rfl (Nat.le_of_ble_eq_true rfl) dX8_at_38 ⟨Nat.le_of_ble_eq_true rfl, Nat.le_of_ble_eq_true rfl⟩) rfl rfl (fun H locs X => ?_)
      refine lv_istore (lv' := [(4, .int q38.1), (0, .ref o), (1, .int a1), (2, .int a2), (3, .int a3)]) hx hb dX8_at_41 hl (by decide) rfl (fun ls hl => ?_)
      refine lv_iload hx hb dX8_at_43 (lv_at hl 0 rfl) ?_
      refine lv_bipush (v := 16) hx hb dX8_at_45 (by decide) ?_
      refine lv_icmp_eq (tgt := 64) hx hb dX8_at_47 (by decide) (fun c47 => ?_) (fun c47 => ?_)
      · have hf := g_t hf c47
        exact j64 q38.2 a1 a2 a3 q38.1 ls H locs hf (lv_sub hl [1, 2, 3, 4, 0] rfl) X
      · have hf := g_f hf c47
        refine lv_iload hx hb dX8_at_50 (lv_at hl 0 rfl) ?_
        obtain ⟨q52, e52, hf⟩ := g_be hf
        refine g_calli X (g_runS (As := [.int q38.1]) (rest := []) C X (cR_isBoard l E A o ad q38.2 q52.2 q52.1 q38.1 e52) kX8_isBoard m_741 hl.1 rfl ⟨Nat.le_of_ble_eq_true rfl, Nat.le_of_ble_eq_true rfl⟩ rfl (Nat.le_of_ble_eq_true rfl) dX8_at_52 ⟨Nat.le_of_ble_eq_true rfl, Nat.le_of_ble_eq_true rfl⟩) rfl rfl (fun H locs X => ?_)
        refine lv_if_ne (tgt := 64) hx hb dX8_at_55 (by decide) (fun c55 => ?_) (fun c55 => ?_)
        · have hf := g_f hf c55
          exact j64 q52.2 a1 a2 a3 q38.1 ls H locs hf (lv_sub hl [1, 2, 3, 4, 0] rfl) X
        · have hf := g_t hf c55
          refine lv_aload_n hx hb dX8_at_58 rfl (lv_at hl 1 rfl) ?_
          refine lv_iconst (v := 3) hx hb dX8_at_59 (by decide) ?_
          obtain ⟨q60, e60, hf⟩ := g_be hf
          refine g_calli X (g_runV (As := [.int (3 : Int32)]) (rest := []) C X (cR_refuse l E A o ad q52.2 q60.2 q60.1 (3 : Int32) e60) kX8_refuse m_708 0 6 rfl rfl hl.1 rfl ⟨Nat.le_of_ble_eq_true rfl, Nat.le_of_ble_eq_true rfl⟩ rfl (Nat.le_of_ble_eq_true rfl) dX8_at_60 ⟨Nat.le_of_ble_eq_true rfl, Nat.le_of_ble_eq_true rfl⟩) rfl rfl (fun H locs X => ?_)
          exact g_iret (wsR E o ad) C hr hk X hf dX8_at_63
    · have hf := g_f hf c23
      refine lv_aload_n hx hb dX8_at_26 rfl (lv_at hl 0 rfl) ?_
      refine lv_iconst (v := 2) hx hb dX8_at_27 (by decide) ?_
      obtain ⟨q28, e28, hf⟩ := g_be hf
      refine g_calli X (g_runV (As := [.int (2 : Int32)]) (rest := []) C X (cR_refuse l E A o ad q20.2 q28.2 q28.1 (2 : Int32) e28) kX8_refuse m_708 0 6 rfl rfl hl.1 rfl ⟨Nat.le_of_ble_eq_true rfl, Nat.le_of_ble_eq_true rfl⟩ rfl (Nat.le_of_ble_eq_true rfl) dX8_at_28 ⟨Nat.le_of_ble_eq_true rfl, Nat.le_of_ble_eq_true rfl⟩) rfl rfl (fun H locs X => ?_)
      exact g_iret (wsR E o ad) C hr hk X hf dX8_at_31
  · have hf := g_t hf c9
    refine lv_aload_n hx hb dX8_at_12 rfl (lv_at hl 0 rfl) ?_
    refine lv_iconst (v := 1) hx hb dX8_at_13 (by decide) ?_
    obtain ⟨q14, e14, hf⟩ := g_be hf
    refine g_calli X (g_runV (As := [.int (1 : Int32)]) (rest := []) C X (cR_refuse l E A o ad q6.2 q14.2 q14.1 (1 : Int32) e14) kX8_refuse m_708 0 6 rfl rfl hl.1 rfl ⟨Nat.le_of_ble_eq_true rfl, Nat.le_of_ble_eq_true rfl⟩ rfl (Nat.le_of_ble_eq_true rfl) dX8_at_14 ⟨Nat.le_of_ble_eq_true rfl, Nat.le_of_ble_eq_true rfl⟩) rfl rfl (fun H locs X => ?_)
    exact g_iret (wsR E o ad) C hr hk X hf dX8_at_17
set_option maxRecDepth 100000 in
set_option maxHeartbeats 4000000 in
theorem cR_tell (l : Launch) (E : g_Env) (A : Nat → Prop) (o : Nat) (ad : Nat → Nat) (w : RS) (w' : RS) (r : Int32) (a1 : Int32) (a2 : Int32) (hf : fR_tell w a1 a2 = some (r, w')) : g_Mi l yX8_tell cX8_tell 4 ((some .int)) ({ frames := 3, cells := 0, slots := 0, locals := 68 }) E A [.ref o, .int a1, .int a2] (wsR E o ad w) r (wsR E o ad w') := by
  refine g_start (by decide) (Nat.le_of_ble_eq_true rfl) ?_
  intro p e s m below meth c C hr hk hnm ls hl H locs X
  have hx := C.1.1
  have hb := C.1.2.1
  have hl : lv_has ls 4 [(0, .ref o), (1, .int a1), (2, .int a2)] := hl
  unfold fR_tell at hf
  refine lv_aload_n hx hb dX8_tell_0 rfl (lv_at hl 0 rfl) ?_
  refine lv_iconst (v := 0) hx hb dX8_tell_1 (by decide) ?_
  obtain ⟨w2, e2, hf⟩ := g_le hf
  refine g_put C X g_iX8 tyX8_ok nmX8 0 rfl rfl 15 (by decide) rfl m_656 rfl rfl rfl (Nat.le_of_ble_eq_true rfl) dX8_tell_2 (ws2 := wsR E o ad w2) (by subst e2; rfl) (fun H locs X => ?_)
  refine lv_iload_n hx hb dX8_tell_5 rfl (lv_at hl 1 rfl) ?_
  obtain ⟨q6, e6, hf⟩ := g_be hf
  refine g_calli X (g_runS (As := [.int a1]) (rest := []) C X (cR_isShelf l E A o ad w2 q6.2 q6.1 a1 e6) kX8_isShelf m_723 hl.1 rfl ⟨Nat.le_of_ble_eq_true rfl, Nat.le_of_ble_eq_true rfl⟩ rfl (Nat.le_of_ble_eq_true rfl) dX8_tell_6 ⟨Nat.le_of_ble_eq_true rfl, Nat.le_of_ble_eq_true rfl⟩) rfl rfl (fun H locs X => ?_)
  refine lv_if_eq (tgt := 22) hx hb dX8_tell_9 (by decide) (fun c9 => ?_) (fun c9 => ?_)
  · have hf := g_t hf c9
    refine lv_aload_n hx hb dX8_tell_22 rfl (lv_at hl 0 rfl) ?_
    refine lv_iconst (v := 1) hx hb dX8_tell_23 (by decide) ?_
    obtain ⟨q24, e24, hf⟩ := g_be hf
    refine g_calli X (g_runV (As := [.int (1 : Int32)]) (rest := []) C X (cR_refuse l E A o ad q6.2 q24.2 q24.1 (1 : Int32) e24) kX8_refuse m_708 0 6 rfl rfl hl.1 rfl ⟨Nat.le_of_ble_eq_true rfl, Nat.le_of_ble_eq_true rfl⟩ rfl (Nat.le_of_ble_eq_true rfl) dX8_tell_24 ⟨Nat.le_of_ble_eq_true rfl, Nat.le_of_ble_eq_true rfl⟩) rfl rfl (fun H locs X => ?_)
    exact g_iret (wsR E o ad) C hr hk X hf dX8_tell_27
  · have hf := g_f hf c9
    refine lv_iload_n hx hb dX8_tell_12 rfl (lv_at hl 2 rfl) ?_
    refine lv_if_lt (tgt := 22) hx hb dX8_tell_13 (by decide) (fun c13 => ?_) (fun c13 => ?_)
    · have hf := g_t hf c13
      refine lv_aload_n hx hb dX8_tell_22 rfl (lv_at hl 0 rfl) ?_
      refine lv_iconst (v := 1) hx hb dX8_tell_23 (by decide) ?_
      obtain ⟨q24, e24, hf⟩ := g_be hf
      refine g_calli X (g_runV (As := [.int (1 : Int32)]) (rest := []) C X (cR_refuse l E A o ad q6.2 q24.2 q24.1 (1 : Int32) e24) kX8_refuse m_708 0 6 rfl rfl hl.1 rfl ⟨Nat.le_of_ble_eq_true rfl, Nat.le_of_ble_eq_true rfl⟩ rfl (Nat.le_of_ble_eq_true rfl) dX8_tell_24 ⟨Nat.le_of_ble_eq_true rfl, Nat.le_of_ble_eq_true rfl⟩) rfl rfl (fun H locs X => ?_)
      exact g_iret (wsR E o ad) C hr hk X hf dX8_tell_27
    · have hf := g_f hf c13
      refine lv_iload_n hx hb dX8_tell_16 rfl (lv_at hl 2 rfl) ?_
      refine lv_bipush (v := 9) hx hb dX8_tell_17 (by decide) ?_
      refine lv_icmp_le (tgt := 28) hx hb dX8_tell_19 (by decide) (fun c19 => ?_) (fun c19 => ?_)
      · have hf := g_t hf c19
        refine lv_aload_n hx hb dX8_tell_28 rfl (lv_at hl 0 rfl) ?_
        refine lv_iload_n hx hb dX8_tell_29 rfl (lv_at hl 1 rfl) ?_
        obtain ⟨q30, e30, hf⟩ := g_be hf
        refine g_calli X (g_runV (As := [.int a1]) (rest := []) C X (cR_on l E A o ad q6.2 q30.2 q30.1 a1 e30) kX8_on m_760 0 6 rfl rfl hl.1 rfl ⟨Nat.le_of_ble_eq_true rfl, Nat.le_of_ble_eq_true rfl⟩ rfl (Nat.le_of_ble_eq_true rfl) dX8_tell_30 ⟨Nat.le_of_ble_eq_true rfl, Nat.le_of_ble_eq_true rfl⟩) rfl rfl (fun H locs X => ?_)
        refine lv_istore_n (lv' := [(3, .int q30.1), (0, .ref o), (1, .int a1), (2, .int a2)]) hx hb dX8_tell_33 rfl hl (by decide) rfl (fun ls hl => ?_)
        refine lv_iload_n hx hb dX8_tell_34 rfl (lv_at hl 0 rfl) ?_
        refine lv_if_ge (tgt := 44) hx hb dX8_tell_35 (by decide) (fun c35 => ?_) (fun c35 => ?_)
        · have hf := g_t hf c35
          refine lv_iload_n hx hb dX8_tell_44 rfl (lv_at hl 3 rfl) ?_
          by_cases s45_0 : a2 = (0 : Int32)
          · have hf := g_t hf s45_0
            refine g_tabIn (tgt := 96) hx hb s45_0 dX8_tell_45 (by decide) (by decide) rfl (by decide) ?_
            refine lv_aload_n hx hb dX8_tell_96 rfl (lv_at hl 1 rfl) ?_
            refine lv_iload_n hx hb dX8_tell_97 rfl (lv_at hl 0 rfl) ?_
            obtain ⟨q98, e98, hf⟩ := g_be hf
            refine g_calli X (g_runV (As := [.int q30.1]) (rest := []) C X (cR_kindOf l E A o ad q30.2 q98.2 q98.1 q30.1 e98) kX8_kindOf m_764 0 6 rfl rfl hl.1 rfl ⟨Nat.le_of_ble_eq_true rfl, Nat.le_of_ble_eq_true rfl⟩ rfl (Nat.le_of_ble_eq_true rfl) dX8_tell_98 ⟨Nat.le_of_ble_eq_true rfl, Nat.le_of_ble_eq_true rfl⟩) rfl rfl (fun H locs X => ?_)
            exact g_iret (wsR E o ad) C hr hk X hf dX8_tell_101
          have hf := g_f hf s45_0
          by_cases s45_1 : a2 = (1 : Int32)
          · have hf := g_t hf s45_1
            refine g_tabIn (tgt := 102) hx hb s45_1 dX8_tell_45 (by decide) (by decide) rfl (by decide) ?_
            refine lv_iload_n hx hb dX8_tell_102 rfl (lv_at hl 0 rfl) ?_
            exact g_iret (wsR E o ad) C hr hk X hf dX8_tell_103
          have hf := g_f hf s45_1
          by_cases s45_2 : a2 = (2 : Int32)
          · have hf := g_t hf s45_2
            refine g_tabIn (tgt := 104) hx hb s45_2 dX8_tell_45 (by decide) (by decide) rfl (by decide) ?_
            refine lv_aload_n hx hb dX8_tell_104 rfl (lv_at hl 1 rfl) ?_
            refine g_get C X g_iX8 0 rfl rfl 2 (by decide) rfl m_643 rfl dX8_tell_105 ?_
            refine lv_bipush (v := 120) hx hb dX8_tell_108 (by decide) ?_
            refine lv_iload_n hx hb dX8_tell_110 rfl (lv_at hl 0 rfl) ?_
            refine lv_iadd hx hb dX8_tell_111 ?_
            obtain ⟨h112, hf⟩ := g_cke hf
            obtain ⟨v112, e112, hf⟩ := g_le hf
            refine g_iald C X 3 rfl h112 e112 dX8_tell_112 ?_
            exact g_iret (wsR E o ad) C hr hk X hf dX8_tell_113
          have hf := g_f hf s45_2
          by_cases s45_3 : a2 = (3 : Int32)
          · have hf := g_t hf s45_3
            refine g_tabIn (tgt := 114) hx hb s45_3 dX8_tell_45 (by decide) (by decide) rfl (by decide) ?_
            refine lv_aload_n hx hb dX8_tell_114 rfl (lv_at hl 1 rfl) ?_
            refine g_get C X g_iX8 0 rfl rfl 2 (by decide) rfl m_643 rfl dX8_tell_115 ?_
            refine lv_sipush (v := 180) hx hb dX8_tell_118 (by decide) ?_
            refine lv_iload_n hx hb dX8_tell_121 rfl (lv_at hl 0 rfl) ?_
            refine lv_iadd hx hb dX8_tell_122 ?_
            obtain ⟨h123, hf⟩ := g_cke hf
            obtain ⟨v123, e123, hf⟩ := g_le hf
            refine g_iald C X 3 rfl h123 e123 dX8_tell_123 ?_
            exact g_iret (wsR E o ad) C hr hk X hf dX8_tell_124
          have hf := g_f hf s45_3
          by_cases s45_4 : a2 = (4 : Int32)
          · have hf := g_t hf s45_4
            refine g_tabIn (tgt := 125) hx hb s45_4 dX8_tell_45 (by decide) (by decide) rfl (by decide) ?_
            refine lv_aload_n hx hb dX8_tell_125 rfl (lv_at hl 1 rfl) ?_
            refine g_get C X g_iX8 0 rfl rfl 2 (by decide) rfl m_643 rfl dX8_tell_126 ?_
            refine lv_sipush (v := 240) hx hb dX8_tell_129 (by decide) ?_
            refine lv_iload_n hx hb dX8_tell_132 rfl (lv_at hl 0 rfl) ?_
            refine lv_iadd hx hb dX8_tell_133 ?_
            obtain ⟨h134, hf⟩ := g_cke hf
            obtain ⟨v134, e134, hf⟩ := g_le hf
            refine g_iald C X 3 rfl h134 e134 dX8_tell_134 ?_
            exact g_iret (wsR E o ad) C hr hk X hf dX8_tell_135
          have hf := g_f hf s45_4
          by_cases s45_5 : a2 = (5 : Int32)
          · have hf := g_t hf s45_5
            refine g_tabIn (tgt := 136) hx hb s45_5 dX8_tell_45 (by decide) (by decide) rfl (by decide) ?_
            refine lv_aload_n hx hb dX8_tell_136 rfl (lv_at hl 1 rfl) ?_
            refine g_get C X g_iX8 0 rfl rfl 2 (by decide) rfl m_643 rfl dX8_tell_137 ?_
            refine lv_sipush (v := 300) hx hb dX8_tell_140 (by decide) ?_
            refine lv_iload_n hx hb dX8_tell_143 rfl (lv_at hl 0 rfl) ?_
            refine lv_iadd hx hb dX8_tell_144 ?_
            obtain ⟨h145, hf⟩ := g_cke hf
            obtain ⟨v145, e145, hf⟩ := g_le hf
            refine g_iald C X 3 rfl h145 e145 dX8_tell_145 ?_
            exact g_iret (wsR E o ad) C hr hk X hf dX8_tell_146
          have hf := g_f hf s45_5
          by_cases s45_6 : a2 = (6 : Int32)
          · have hf := g_t hf s45_6
            refine g_tabIn (tgt := 147) hx hb s45_6 dX8_tell_45 (by decide) (by decide) rfl (by decide) ?_
            refine lv_aload_n hx hb dX8_tell_147 rfl (lv_at hl 1 rfl) ?_
            refine g_get C X g_iX8 0 rfl rfl 2 (by decide) rfl m_643 rfl dX8_tell_148 ?_
            refine lv_sipush (v := 360) hx hb dX8_tell_151 (by decide) ?_
            refine lv_iload_n hx hb dX8_tell_154 rfl (lv_at hl 0 rfl) ?_
            refine lv_iadd hx hb dX8_tell_155 ?_
            obtain ⟨h156, hf⟩ := g_cke hf
            obtain ⟨v156, e156, hf⟩ := g_le hf
            refine g_iald C X 3 rfl h156 e156 dX8_tell_156 ?_
            exact g_iret (wsR E o ad) C hr hk X hf dX8_tell_157
          have hf := g_f hf s45_6
          by_cases s45_7 : a2 = (7 : Int32)
          · have hf := g_t hf s45_7
            refine g_tabIn (tgt := 158) hx hb s45_7 dX8_tell_45 (by decide) (by decide) rfl (by decide) ?_
            refine lv_aload_n hx hb dX8_tell_158 rfl (lv_at hl 1 rfl) ?_
            refine lv_aload_n hx hb dX8_tell_159 rfl (lv_at hl 1 rfl) ?_
            refine lv_iload_n hx hb dX8_tell_160 rfl (lv_at hl 0 rfl) ?_
            obtain ⟨q161, e161, hf⟩ := g_be hf
            refine g_calli X (g_runV (As := [.int q30.1]) (rest := [.ref o]) C X (cR_kindOf l E A o ad q30.2 q161.2 q161.1 q30.1 e161) kX8_kindOf m_764 0 6 rfl rfl hl.1 rfl ⟨Nat.le_of_ble_eq_true rfl, Nat.le_of_ble_eq_true rfl⟩ rfl (Nat.le_of_ble_eq_true rfl) dX8_tell_161 ⟨Nat.le_of_ble_eq_true rfl, Nat.le_of_ble_eq_true rfl⟩) rfl rfl (fun H locs X => ?_)
            obtain ⟨q164, e164, hf⟩ := g_be hf
            refine g_calli X (g_runV (As := [.int q161.1]) (rest := []) C X (cR_isPart l E A o ad q161.2 q164.2 q164.1 q161.1 e164) kX8_isPart m_726 0 6 rfl rfl hl.1 rfl ⟨Nat.le_of_ble_eq_true rfl, Nat.le_of_ble_eq_true rfl⟩ rfl (Nat.le_of_ble_eq_true rfl) dX8_tell_164 ⟨Nat.le_of_ble_eq_true rfl, Nat.le_of_ble_eq_true rfl⟩) rfl rfl (fun H locs X => ?_)
            refine lv_if_eq (tgt := 178) hx hb dX8_tell_167 (by decide) (fun c167 => ?_) (fun c167 => ?_)
            · have hf := g_t hf c167
              refine lv_iconst (v := 0) hx hb dX8_tell_178 (by decide) ?_
              exact g_iret (wsR E o ad) C hr hk X hf dX8_tell_179
            · have hf := g_f hf c167
              refine lv_aload_n hx hb dX8_tell_170 rfl (lv_at hl 1 rfl) ?_
              refine lv_iload_n hx hb dX8_tell_171 rfl (lv_at hl 0 rfl) ?_
              obtain ⟨q172, e172, hf⟩ := g_be hf
              refine g_calli X (g_runV (As := [.int q30.1]) (rest := []) C X (cR_load l E A o ad q164.2 q172.2 q172.1 q30.1 e172) kX8_load m_961 0 6 rfl rfl hl.1 rfl ⟨Nat.le_of_ble_eq_true rfl, Nat.le_of_ble_eq_true rfl⟩ rfl (Nat.le_of_ble_eq_true rfl) dX8_tell_172 ⟨Nat.le_of_ble_eq_true rfl, Nat.le_of_ble_eq_true rfl⟩) rfl rfl (fun H locs X => ?_)
              refine lv_goto (tgt := 179) hx hb dX8_tell_175 (by decide) ?_
              exact g_iret (wsR E o ad) C hr hk X hf dX8_tell_179
          have hf := g_f hf s45_7
          by_cases s45_8 : a2 = (8 : Int32)
          · have hf := g_t hf s45_8
            refine g_tabIn (tgt := 180) hx hb s45_8 dX8_tell_45 (by decide) (by decide) rfl (by decide) ?_
            refine lv_aload_n hx hb dX8_tell_180 rfl (lv_at hl 1 rfl) ?_
            refine g_get C X g_iX8 0 rfl rfl 2 (by decide) rfl m_643 rfl dX8_tell_181 ?_
            refine lv_sipush (v := 420) hx hb dX8_tell_184 (by decide) ?_
            refine lv_iload_n hx hb dX8_tell_187 rfl (lv_at hl 0 rfl) ?_
            refine lv_iadd hx hb dX8_tell_188 ?_
            obtain ⟨h189, hf⟩ := g_cke hf
            obtain ⟨v189, e189, hf⟩ := g_le hf
            refine g_iald C X 3 rfl h189 e189 dX8_tell_189 ?_
            exact g_iret (wsR E o ad) C hr hk X hf dX8_tell_190
          have hf := g_f hf s45_8
          refine lv_tableOut (tgt := 191) hx hb dX8_tell_45 (by have z0 := g_ne (0) s45_0 (by decide); have z1 := g_ne (1) s45_1 (by decide); have z2 := g_ne (2) s45_2 (by decide); have z3 := g_ne (3) s45_3 (by decide); have z4 := g_ne (4) s45_4 (by decide); have z5 := g_ne (5) s45_5 (by decide); have z6 := g_ne (6) s45_6 (by decide); have z7 := g_ne (7) s45_7 (by decide); have z8 := g_ne (8) s45_8 (by decide); omega) (by decide) ?_
          refine lv_aload_n hx hb dX8_tell_191 rfl (lv_at hl 1 rfl) ?_
          refine g_get C X g_iX8 0 rfl rfl 2 (by decide) rfl m_643 rfl dX8_tell_192 ?_
          refine lv_sipush (v := 480) hx hb dX8_tell_195 (by decide) ?_
          refine lv_iload_n hx hb dX8_tell_198 rfl (lv_at hl 0 rfl) ?_
          refine lv_iadd hx hb dX8_tell_199 ?_
          obtain ⟨h200, hf⟩ := g_cke hf
          obtain ⟨v200, e200, hf⟩ := g_le hf
          refine g_iald C X 3 rfl h200 e200 dX8_tell_200 ?_
          exact g_iret (wsR E o ad) C hr hk X hf dX8_tell_201
        · have hf := g_f hf c35
          refine lv_aload_n hx hb dX8_tell_38 rfl (lv_at hl 1 rfl) ?_
          refine lv_iconst (v := 2) hx hb dX8_tell_39 (by decide) ?_
          obtain ⟨q40, e40, hf⟩ := g_be hf
          refine g_calli X (g_runV (As := [.int (2 : Int32)]) (rest := []) C X (cR_refuse l E A o ad q30.2 q40.2 q40.1 (2 : Int32) e40) kX8_refuse m_708 0 6 rfl rfl hl.1 rfl ⟨Nat.le_of_ble_eq_true rfl, Nat.le_of_ble_eq_true rfl⟩ rfl (Nat.le_of_ble_eq_true rfl) dX8_tell_40 ⟨Nat.le_of_ble_eq_true rfl, Nat.le_of_ble_eq_true rfl⟩) rfl rfl (fun H locs X => ?_)
          exact g_iret (wsR E o ad) C hr hk X hf dX8_tell_43
      · have hf := g_f hf c19
        refine lv_aload_n hx hb dX8_tell_22 rfl (lv_at hl 0 rfl) ?_
        refine lv_iconst (v := 1) hx hb dX8_tell_23 (by decide) ?_
        obtain ⟨q24, e24, hf⟩ := g_be hf
        refine g_calli X (g_runV (As := [.int (1 : Int32)]) (rest := []) C X (cR_refuse l E A o ad q6.2 q24.2 q24.1 (1 : Int32) e24) kX8_refuse m_708 0 6 rfl rfl hl.1 rfl ⟨Nat.le_of_ble_eq_true rfl, Nat.le_of_ble_eq_true rfl⟩ rfl (Nat.le_of_ble_eq_true rfl) dX8_tell_24 ⟨Nat.le_of_ble_eq_true rfl, Nat.le_of_ble_eq_true rfl⟩) rfl rfl (fun H locs X => ?_)
        exact g_iret (wsR E o ad) C hr hk X hf dX8_tell_27
set_option maxRecDepth 100000 in
set_option maxHeartbeats 4000000 in
theorem cR_why (l : Launch) (E : g_Env) (A : Nat → Prop) (o : Nat) (ad : Nat → Nat) (w : RS) (w' : RS) (r : Int32)  (hf : fR_why w  = some (r, w')) : g_Mi l yX8_why cX8_why 1 ((some .int)) ({ frames := 0, cells := 0, slots := 0, locals := 0 }) E A [.ref o] (wsR E o ad w) r (wsR E o ad w') := by
  refine g_start (by decide) (Nat.le_of_ble_eq_true rfl) ?_
  intro p e s m below meth c C hr hk hnm ls hl H locs X
  have hx := C.1.1
  have hb := C.1.2.1
  have hl : lv_has ls 1 [(0, .ref o)] := hl
  unfold fR_why at hf
  refine lv_aload_n hx hb dX8_why_0 rfl (lv_at hl 0 rfl) ?_
  refine g_get C X g_iX8 0 rfl rfl 15 (by decide) rfl m_656 rfl dX8_why_1 ?_
  exact g_iret (wsR E o ad) C hr hk X hf dX8_why_4
