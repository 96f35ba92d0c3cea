set_option maxRecDepth 100000 in
set_option maxHeartbeats 4000000 in
theorem cC_Ch_add (l : Launch) (E : g_Env) (A : Nat → Prop) (ad : Nat → Nat) (w : CS) (w' : CS) (a1 : Int32) (hf : fC_Ch_add w a1 = some w') : g_Mv l yX0_add cX0_add 2 ({ frames := 0, cells := 0, slots := 0, locals := 0 }) E A [.ref (ad 4), .int a1] (wsC E ad w) (wsC E ad w') := by
  refine g_start (by decide) (Nat.le_of_ble_eq_true rfl) ?_
  intro p e s m below meth c C hr hk hnm ls hl H locs X
  have hx := C.1.1
  have hb := C.1.2.1
  have hl : lv_has ls 2 [(0, .ref (ad 4)), (1, .int a1)] := hl
  unfold fC_Ch_add at hf
  refine lv_iload_n hx hb dX0_add_0 rfl (lv_at hl 1 rfl) ?_
  refine lv_iconst (v := -1) hx hb dX0_add_1 (by decide) ?_
  refine lv_icmp_eq (tgt := 37) hx hb dX0_add_2 (by decide) (fun c2 => ?_) (fun c2 => ?_)
  · have hf := g_t hf c2
    exact g_vret (wsC E ad) C hr hk X hf dX0_add_37
  · have hf := g_f hf c2
    refine lv_aload_n hx hb dX0_add_5 rfl (lv_at hl 0 rfl) ?_
    refine g_get C X g_iX0 4 rfl rfl 1 (by decide) rfl m_120 rfl dX0_add_6 ?_
    refine lv_aload_n hx hb dX0_add_9 rfl (lv_at hl 0 rfl) ?_
    refine g_get C X g_iX0 4 rfl rfl 0 (by decide) rfl m_119 rfl dX0_add_10 ?_
    refine g_ilen C X 5 rfl (v := 144) rfl dX0_add_13 ?_
    refine lv_icmp_ge (tgt := 37) hx hb dX0_add_14 (by decide) (fun c14 => ?_) (fun c14 => ?_)
    · have hf := g_t hf c14
      exact g_vret (wsC E ad) C hr hk X hf dX0_add_37
    · have hf := g_f hf c14
      refine lv_aload_n hx hb dX0_add_17 rfl (lv_at hl 0 rfl) ?_
      refine g_get C X g_iX0 4 rfl rfl 0 (by decide) rfl m_119 rfl dX0_add_18 ?_
      refine lv_aload_n hx hb dX0_add_21 rfl (lv_at hl 0 rfl) ?_
      refine g_get C X g_iX0 4 rfl rfl 1 (by decide) rfl m_120 rfl dX0_add_22 ?_
      refine lv_iload_n hx hb dX0_add_25 rfl (lv_at hl 1 rfl) ?_
      obtain ⟨h26, hf⟩ := g_cke hf
      obtain ⟨w26, e26, hf⟩ := g_le hf
      refine g_iast C X 5 rfl h26 dX0_add_26 (ws2 := wsC E ad w26) (by subst e26; rfl) (fun H locs X => ?_)
      refine lv_aload_n hx hb dX0_add_27 rfl (lv_at hl 0 rfl) ?_
      refine lv_dup hx hb dX0_add_28 rfl ?_
      refine g_get C X g_iX0 4 rfl rfl 1 (by decide) rfl m_120 rfl dX0_add_29 ?_
      refine lv_iconst (v := 1) hx hb dX0_add_32 (by decide) ?_
      refine lv_iadd hx hb dX0_add_33 ?_
      obtain ⟨w34, e34, hf⟩ := g_le hf
      refine g_put C X g_iX0 tyX0_ok nmX0 4 rfl rfl 1 (by decide) rfl m_120 rfl rfl rfl (Nat.le_of_ble_eq_true rfl) dX0_add_34 (ws2 := wsC E ad w34) (by subst e34; rfl) (fun H locs X => ?_)
      exact g_vret (wsC E ad) C hr hk X hf dX0_add_37
set_option maxRecDepth 100000 in
set_option maxHeartbeats 4000000 in
theorem cC_S_trait (l : Launch) (E : g_Env) (A : Nat → Prop) (ad : Nat → Nat) (w : CS) (w' : CS) (r : Int32) (a1 : Int32) (a2 : Int32) (hf : fC_S_trait w a1 a2 = some (r, w')) : g_Mi l yX6_trait cX6_trait 4 ((some .int)) ({ frames := 0, cells := 0, slots := 0, locals := 0 }) E A [.ref (ad 1), .int a1, .int a2] (wsC E ad w) r (wsC E ad w') := by
  refine g_start (by decide) (Nat.le_of_ble_eq_true rfl) ?_
  intro p e s m below meth c C hr hk hnm ls hl H locs X
  have hx := C.1.1
  have hb := C.1.2.1
  have hl : lv_has ls 4 [(0, .ref (ad 1)), (1, .int a1), (2, .int a2)] := hl
  unfold fC_S_trait at hf
  refine lv_bipush (v := 17) hx hb dX6_trait_0 (by decide) ?_
  refine lv_iload_n hx hb dX6_trait_2 rfl (lv_at hl 1 rfl) ?_
  refine lv_bipush (v := 23) hx hb dX6_trait_3 (by decide) ?_
  refine lv_imul hx hb dX6_trait_5 ?_
  refine lv_iadd hx hb dX6_trait_6 ?_
  refine lv_iload_n hx hb dX6_trait_7 rfl (lv_at hl 2 rfl) ?_
  refine lv_iadd hx hb dX6_trait_8 ?_
  refine lv_istore_n (lv' := [(3, .int (((17 : Int32) + (a1 * (23 : Int32))) + a2)), (0, .ref (ad 1)), (1, .int a1), (2, .int a2)]) hx hb dX6_trait_9 rfl hl (by decide) rfl (fun ls hl => ?_)
  refine lv_iload_n hx hb dX6_trait_10 rfl (lv_at hl 0 rfl) ?_
  refine lv_bipush (v := 17) hx hb dX6_trait_11 (by decide) ?_
  refine lv_icmp_lt (tgt := 35) hx hb dX6_trait_13 (by decide) (fun c13 => ?_) (fun c13 => ?_)
  · have hf := g_t hf c13
    refine lv_iconst (v := 0) hx hb dX6_trait_35 (by decide) ?_
    exact g_iret (wsC E ad) C hr hk X hf dX6_trait_36
  · have hf := g_f hf c13
    refine lv_iload_n hx hb dX6_trait_16 rfl (lv_at hl 0 rfl) ?_
    refine lv_aload_n hx hb dX6_trait_17 rfl (lv_at hl 1 rfl) ?_
    refine g_get C X g_iX6 1 rfl rfl 0 (by decide) rfl m_98 rfl dX6_trait_18 ?_
    refine g_llen C X 2 rfl (v := 1397) rfl dX6_trait_21 ?_
    refine lv_icmp_ge (tgt := 35) hx hb dX6_trait_22 (by decide) (fun c22 => ?_) (fun c22 => ?_)
    · have hf := g_t hf c22
      refine lv_iconst (v := 0) hx hb dX6_trait_35 (by decide) ?_
      exact g_iret (wsC E ad) C hr hk X hf dX6_trait_36
    · have hf := g_f hf c22
      refine lv_aload_n hx hb dX6_trait_25 rfl (lv_at hl 1 rfl) ?_
      refine g_get C X g_iX6 1 rfl rfl 0 (by decide) rfl m_98 rfl dX6_trait_26 ?_
      refine lv_iload_n hx hb dX6_trait_29 rfl (lv_at hl 0 rfl) ?_
      obtain ⟨h30, hf⟩ := g_cke hf
      obtain ⟨v30, e30, hf⟩ := g_le hf
      refine g_lald C X 2 rfl h30 e30 dX6_trait_30 ?_
      refine lv_l2i hx hb dX6_trait_31 rfl ?_
      refine lv_goto (tgt := 36) hx hb dX6_trait_32 (by decide) ?_
      exact g_iret (wsC E ad) C hr hk X hf dX6_trait_36
set_option maxRecDepth 100000 in
set_option maxHeartbeats 4000000 in
theorem cC_K_isUnderAny (l : Launch) (E : g_Env) (A : Nat → Prop) (ad : Nat → Nat) (w : CS) (w' : CS) (r : Int32) (a0 : Int32) (a1 : Int32) (hf : fC_K_isUnderAny w a0 a1 = some (r, w')) : g_Mi l yX2_isUnderAny cX2_isUnderAny 2 ((some .boolean)) ({ frames := 0, cells := 0, slots := 0, locals := 0 }) E A [.int a0, .int a1] (wsC E ad w) r (wsC E ad w') := by
  refine g_start (by decide) (Nat.le_of_ble_eq_true rfl) ?_
  intro p e s m below meth c C hr hk hnm ls hl H locs X
  have hx := C.1.1
  have hb := C.1.2.1
  have hl : lv_has ls 2 [(0, .int a0), (1, .int a1)] := hl
  unfold fC_K_isUnderAny at hf
  refine lv_iload_n hx hb dX2_isUnderAny_0 rfl (lv_at hl 0 rfl) ?_
  refine lv_if_lt (tgt := 26) hx hb dX2_isUnderAny_1 (by decide) (fun c1 => ?_) (fun c1 => ?_)
  · have hf := g_t hf c1
    refine lv_iconst (v := 0) hx hb dX2_isUnderAny_26 (by decide) ?_
    exact g_zret (wsC E ad) C hr hk rfl X hf dX2_isUnderAny_27
  · have hf := g_f hf c1
    refine lv_iload_n hx hb dX2_isUnderAny_4 rfl (lv_at hl 0 rfl) ?_
    refine va_gets hx hb C.2.2.2.2.1 X.2.2 C.1.2.2.2.1 (C.1.2.2.2.2 _ m_225) (fun _ h9 => h9) dX2_isUnderAny_5 ?_
    refine va_tlen hx hb C.2.2.2.2.2.1 X.2.2 (v := 25) rfl dX2_isUnderAny_8 ?_
    refine lv_icmp_ge (tgt := 26) hx hb dX2_isUnderAny_9 (by decide) (fun c9 => ?_) (fun c9 => ?_)
    · have hf := g_t hf c9
      refine lv_iconst (v := 0) hx hb dX2_isUnderAny_26 (by decide) ?_
      exact g_zret (wsC E ad) C hr hk rfl X hf dX2_isUnderAny_27
    · have hf := g_f hf c9
      refine va_gets hx hb C.2.2.2.2.1 X.2.2 C.1.2.2.2.1 (C.1.2.2.2.2 _ m_225) (fun _ h9 => h9) dX2_isUnderAny_12 ?_
      refine lv_iload_n hx hb dX2_isUnderAny_15 rfl (lv_at hl 0 rfl) ?_
      obtain ⟨h16, hf⟩ := g_cke hf
      obtain ⟨v16, e16, hf⟩ := g_le hf
      refine va_ti hx hb C.2.2.2.2.2.1 X.2.2 h16 (v := .int v16) (by rw [e16]) dX2_isUnderAny_16 ?_
      refine lv_iload_n hx hb dX2_isUnderAny_17 rfl (lv_at hl 1 rfl) ?_
      refine lv_iand hx hb dX2_isUnderAny_18 ?_
      refine lv_if_eq (tgt := 26) hx hb dX2_isUnderAny_19 (by decide) (fun c19 => ?_) (fun c19 => ?_)
      · have hf := g_t hf c19
        refine lv_iconst (v := 0) hx hb dX2_isUnderAny_26 (by decide) ?_
        exact g_zret (wsC E ad) C hr hk rfl X hf dX2_isUnderAny_27
      · have hf := g_f hf c19
        refine lv_iconst (v := 1) hx hb dX2_isUnderAny_22 (by decide) ?_
        refine lv_goto (tgt := 27) hx hb dX2_isUnderAny_23 (by decide) ?_
        exact g_zret (wsC E ad) C hr hk rfl X hf dX2_isUnderAny_27
set_option maxRecDepth 100000 in
set_option maxHeartbeats 4000000 in
theorem cC_S_isIn (l : Launch) (E : g_Env) (A : Nat → Prop) (ad : Nat → Nat) (w : CS) (w' : CS) (r : Int32) (a1 : Int32) (a2 : Int32) (hf : fC_S_isIn w a1 a2 = some (r, w')) : g_Mi l yX6_isIn cX6_isIn 3 ((some .boolean)) ({ frames := 1, cells := 0, slots := 0, locals := 23 }) E A [.ref (ad 1), .int a1, .int a2] (wsC E ad w) r (wsC E ad w') := by
  refine g_start (by decide) (Nat.le_of_ble_eq_true rfl) ?_
  intro p e s m below meth c C hr hk hnm ls hl H locs X
  have hx := C.1.1
  have hb := C.1.2.1
  have hl : lv_has ls 3 [(0, .ref (ad 1)), (1, .int a1), (2, .int a2)] := hl
  unfold fC_S_isIn at hf
  refine lv_iload_n hx hb dX6_isIn_0 rfl (lv_at hl 1 rfl) ?_
  refine lv_iconst (v := -1) hx hb dX6_isIn_1 (by decide) ?_
  refine lv_icmp_eq (tgt := 22) hx hb dX6_isIn_2 (by decide) (fun c2 => ?_) (fun c2 => ?_)
  · have hf := g_t hf c2
    refine lv_iconst (v := 0) hx hb dX6_isIn_22 (by decide) ?_
    exact g_zret (wsC E ad) C hr hk rfl X hf dX6_isIn_23
  · have hf := g_f hf c2
    refine lv_aload_n hx hb dX6_isIn_5 rfl (lv_at hl 0 rfl) ?_
    refine lv_iload_n hx hb dX6_isIn_6 rfl (lv_at hl 1 rfl) ?_
    refine lv_iconst (v := 0) hx hb dX6_isIn_7 (by decide) ?_
    obtain ⟨q8, e8, hf⟩ := g_be hf
    refine g_calli X (g_runV (As := [.int a1, .int (0 : Int32)]) (rest := []) C X (cC_S_trait l E A ad w q8.2 q8.1 a1 (0 : Int32) e8) kX6_trait m_253 1 4 rfl rfl hl.1 rfl ⟨Nat.le_of_ble_eq_true rfl, Nat.le_of_ble_eq_true rfl⟩ rfl (Nat.le_of_ble_eq_true rfl) dX6_isIn_8 ⟨Nat.le_of_ble_eq_true rfl, Nat.le_of_ble_eq_true rfl⟩) rfl rfl (fun H locs X => ?_)
    refine lv_iload_n hx hb dX6_isIn_11 rfl (lv_at hl 2 rfl) ?_
    obtain ⟨q12, e12, hf⟩ := g_be hf
    refine g_calli X (g_runS (As := [.int q8.1, .int a2]) (rest := []) C X (cC_K_isUnderAny l E A ad q8.2 q12.2 q12.1 q8.1 a2 e12) kX2_isUnderAny m_240 hl.1 rfl ⟨Nat.le_of_ble_eq_true rfl, Nat.le_of_ble_eq_true rfl⟩ rfl (Nat.le_of_ble_eq_true rfl) dX6_isIn_12 ⟨Nat.le_of_ble_eq_true rfl, Nat.le_of_ble_eq_true rfl⟩) rfl rfl (fun H locs X => ?_)
    refine lv_if_eq (tgt := 22) hx hb dX6_isIn_15 (by decide) (fun c15 => ?_) (fun c15 => ?_)
    · have hf := g_t hf c15
      refine lv_iconst (v := 0) hx hb dX6_isIn_22 (by decide) ?_
      exact g_zret (wsC E ad) C hr hk rfl X hf dX6_isIn_23
    · have hf := g_f hf c15
      refine lv_iconst (v := 1) hx hb dX6_isIn_18 (by decide) ?_
      refine lv_goto (tgt := 23) hx hb dX6_isIn_19 (by decide) ?_
      exact g_zret (wsC E ad) C hr hk rfl X hf dX6_isIn_23
set_option maxRecDepth 100000 in
set_option maxHeartbeats 4000000 in
theorem cC_S_places (l : Launch) (E : g_Env) (A : Nat → Prop) (ad : Nat → Nat) (w : CS) (w' : CS) (r : Int32) (a1 : Int32) (hf : fC_S_places w a1 = some (r, w')) : g_Mi l yX6_places cX6_places 2 ((some .int)) ({ frames := 1, cells := 0, slots := 0, locals := 23 }) E A [.ref (ad 1), .int a1] (wsC E ad w) r (wsC E ad w') := by
  refine g_start (by decide) (Nat.le_of_ble_eq_true rfl) ?_
  intro p e s m below meth c C hr hk hnm ls hl H locs X
  have hx := C.1.1
  have hb := C.1.2.1
  have hl : lv_has ls 2 [(0, .ref (ad 1)), (1, .int a1)] := hl
  unfold fC_S_places at hf
  refine lv_aload_n hx hb dX6_places_0 rfl (lv_at hl 0 rfl) ?_
  refine lv_iload_n hx hb dX6_places_1 rfl (lv_at hl 1 rfl) ?_
  refine lv_bipush (v := 10) hx hb dX6_places_2 (by decide) ?_
  obtain ⟨q4, e4, hf⟩ := g_be hf
  refine g_calli X (g_runV (As := [.int a1, .int (10 : Int32)]) (rest := []) C X (cC_S_trait l E A ad w q4.2 q4.1 a1 (10 : Int32) e4) kX6_trait m_253 1 4 rfl rfl hl.1 rfl ⟨Nat.le_of_ble_eq_true rfl, Nat.le_of_ble_eq_true rfl⟩ rfl (Nat.le_of_ble_eq_true rfl) dX6_places_4 ⟨Nat.le_of_ble_eq_true rfl, Nat.le_of_ble_eq_true rfl⟩) rfl rfl (fun H locs X => ?_)
  exact g_iret (wsC E ad) C hr hk X hf dX6_places_7
set_option maxRecDepth 100000 in
set_option maxHeartbeats 4000000 in
theorem cC_S_placeCell (l : Launch) (E : g_Env) (A : Nat → Prop) (ad : Nat → Nat) (w : CS) (w' : CS) (r : Int32) (a0 : Int32) (a1 : Int32) (hf : fC_S_placeCell w a0 a1 = some (r, w')) : g_Mi l yX6_placeCell cX6_placeCell 2 ((some .int)) ({ frames := 0, cells := 0, slots := 0, locals := 0 }) E A [.int a0, .int a1] (wsC E ad w) r (wsC E ad w') := by
  refine g_start (by decide) (Nat.le_of_ble_eq_true rfl) ?_
  intro p e s m below meth c C hr hk hnm ls hl H locs X
  have hx := C.1.1
  have hb := C.1.2.1
  have hl : lv_has ls 2 [(0, .int a0), (1, .int a1)] := hl
  unfold fC_S_placeCell at hf
  refine lv_bipush (v := 17) hx hb dX6_placeCell_0 (by decide) ?_
  refine lv_iload_n hx hb dX6_placeCell_2 rfl (lv_at hl 0 rfl) ?_
  refine lv_bipush (v := 23) hx hb dX6_placeCell_3 (by decide) ?_
  refine lv_imul hx hb dX6_placeCell_5 ?_
  refine lv_iadd hx hb dX6_placeCell_6 ?_
  refine lv_bipush (v := 11) hx hb dX6_placeCell_7 (by decide) ?_
  refine lv_iadd hx hb dX6_placeCell_9 ?_
  refine lv_iload_n hx hb dX6_placeCell_10 rfl (lv_at hl 1 rfl) ?_
  refine lv_iadd hx hb dX6_placeCell_11 ?_
  exact g_iret (wsC E ad) C hr hk X hf dX6_placeCell_12
set_option maxRecDepth 100000 in
set_option maxHeartbeats 4000000 in
theorem cC_S_atPlace (l : Launch) (E : g_Env) (A : Nat → Prop) (ad : Nat → Nat) (w : CS) (w' : CS) (r : Int64) (a1 : Int32) (a2 : Int32) (hf : fC_S_atPlace w a1 a2 = some (r, w')) : g_Ml l yX6_atPlace cX6_atPlace 3 ({ frames := 1, cells := 0, slots := 0, locals := 23 }) E A [.ref (ad 1), .int a1, .int a2] (wsC E ad w) r (wsC E ad w') := by
  refine g_start (by decide) (Nat.le_of_ble_eq_true rfl) ?_
  intro p e s m below meth c C hr hk hnm ls hl H locs X
  have hx := C.1.1
  have hb := C.1.2.1
  have hl : lv_has ls 3 [(0, .ref (ad 1)), (1, .int a1), (2, .int a2)] := hl
  unfold fC_S_atPlace at hf
  refine lv_iload_n hx hb dX6_atPlace_0 rfl (lv_at hl 2 rfl) ?_
  refine lv_if_lt (tgt := 28) hx hb dX6_atPlace_1 (by decide) (fun c1 => ?_) (fun c1 => ?_)
  · have hf := g_t hf c1
    refine lv_ldc2 (v := -1) hx hb C.1.2.2.2.1 (C.1.2.2.2.2 _ m_97) dX6_atPlace_28 ?_
    exact g_lret (wsC E ad) C hr hk X hf dX6_atPlace_31
  · have hf := g_f hf c1
    refine lv_iload_n hx hb dX6_atPlace_4 rfl (lv_at hl 2 rfl) ?_
    refine lv_aload_n hx hb dX6_atPlace_5 rfl (lv_at hl 0 rfl) ?_
    refine lv_iload_n hx hb dX6_atPlace_6 rfl (lv_at hl 1 rfl) ?_
    refine lv_bipush (v := 10) hx hb dX6_atPlace_7 (by decide) ?_
    obtain ⟨q9, e9, hf⟩ := g_be hf
    refine g_calli X (g_runV (As := [.int a1, .int (10 : Int32)]) (rest := [.int a2]) C X (cC_S_trait l E A ad w q9.2 q9.1 a1 (10 : Int32) e9) kX6_trait m_253 1 4 rfl rfl hl.1 rfl ⟨Nat.le_of_ble_eq_true rfl, Nat.le_of_ble_eq_true rfl⟩ rfl (Nat.le_of_ble_eq_true rfl) dX6_atPlace_9 ⟨Nat.le_of_ble_eq_true rfl, Nat.le_of_ble_eq_true rfl⟩) rfl rfl (fun H locs X => ?_)
    refine lv_icmp_ge (tgt := 28) hx hb dX6_atPlace_12 (by decide) (fun c12 => ?_) (fun c12 => ?_)
    · have hf := g_t hf c12
      refine lv_ldc2 (v := -1) hx hb C.1.2.2.2.1 (C.1.2.2.2.2 _ m_97) dX6_atPlace_28 ?_
      exact g_lret (wsC E ad) C hr hk X hf dX6_atPlace_31
    · have hf := g_f hf c12
      refine lv_aload_n hx hb dX6_atPlace_15 rfl (lv_at hl 0 rfl) ?_
      refine g_get C X g_iX6 1 rfl rfl 0 (by decide) rfl m_98 rfl dX6_atPlace_16 ?_
      refine lv_iload_n hx hb dX6_atPlace_19 rfl (lv_at hl 1 rfl) ?_
      refine lv_iload_n hx hb dX6_atPlace_20 rfl (lv_at hl 2 rfl) ?_
      obtain ⟨q21, e21, hf⟩ := g_be hf
      refine g_calli X (g_runS (As := [.int a1, .int a2]) (rest := [.ref (ad 2)]) C X (cC_S_placeCell l E A ad q9.2 q21.2 q21.1 a1 a2 e21) kX6_placeCell m_257 hl.1 rfl ⟨Nat.le_of_ble_eq_true rfl, Nat.le_of_ble_eq_true rfl⟩ rfl (Nat.le_of_ble_eq_true rfl) dX6_atPlace_21 ⟨Nat.le_of_ble_eq_true rfl, Nat.le_of_ble_eq_true rfl⟩) rfl rfl (fun H locs X => ?_)
      obtain ⟨h24, hf⟩ := g_cke hf
      obtain ⟨v24, e24, hf⟩ := g_le hf
      refine g_lald C X 2 rfl h24 e24 dX6_atPlace_24 ?_
      refine lv_goto (tgt := 31) hx hb dX6_atPlace_25 (by decide) ?_
      exact g_lret (wsC E ad) C hr hk X hf dX6_atPlace_31
set_option maxRecDepth 100000 in
set_option maxHeartbeats 4000000 in
theorem cC_Ch_addPartsOf (l : Launch) (E : g_Env) (A : Nat → Prop) (ad : Nat → Nat) (w : CS) (w' : CS) (a2 : Int32) (hf : fC_Ch_addPartsOf w a2 = some w') : g_Mv l yX0_addPartsOf cX0_addPartsOf 4 ({ frames := 2, cells := 0, slots := 0, locals := 45 }) E A [.ref (ad 4), .ref (ad 1), .int a2] (wsC E ad w) (wsC E ad w') := by
  refine g_start (by decide) (Nat.le_of_ble_eq_true rfl) ?_
  intro p e s m below meth c C hr hk hnm ls hl H locs X
  have hx := C.1.1
  have hb := C.1.2.1
  have hl : lv_has ls 4 [(0, .ref (ad 4)), (1, .ref (ad 1)), (2, .int a2)] := hl
  have j17 : ∀ (n : Nat) (w : CS) (x2 : Int32) (x3 : Int32) (ls : Array Slot) (H : Heap) (locs : List Loc), fC_Ch_addPartsOf_17 n w x2 x3 = some w' → lv_has ls 4 [(0, .ref (ad 4)), (1, .ref (ad 1)), (2, .int x2), (3, .int x3)] → g_W E A s H locs (wsC E ad w) → W p l e ({ frames := 2, cells := 0, slots := 0, locals := 45 }) s m ([.ref (ad 4), .ref (ad 1), .int a2] : List Value).toArray below meth c H locs 0 0 (MQ below (va_Qv (fun (u' : va_W) => u' = wsC E ad w') (g_B E A) A) ([.ref (ad 4), .ref (ad 1), .int a2] : List Value).toArray s 0 0 A) (F0 m 17 ls []) := by
    intro n
    induction n with
    | zero => intro w x2 x3 ls H locs hf; exact absurd hf (by simp [fC_Ch_addPartsOf_17])
    | succ n17 ih17 =>
      intro w x2 x3 ls H locs hf hl X
      unfold fC_Ch_addPartsOf_17 at hf
      refine lv_iload_n hx hb dX0_addPartsOf_17 rfl (lv_at hl 3 rfl) ?_
      refine lv_aload_n hx hb dX0_addPartsOf_18 rfl (lv_at hl 1 rfl) ?_
      refine lv_iload_n hx hb dX0_addPartsOf_19 rfl (lv_at hl 2 rfl) ?_
      obtain ⟨q20, e20, hf⟩ := g_be hf
      refine g_calli X (g_runV (As := [.int x2]) (rest := [.int x3]) C X (cC_S_places l E A ad w q20.2 q20.1 x2 e20) kX6_places m_466 1 4 rfl rfl hl.1 rfl ⟨Nat.le_of_ble_eq_true rfl, Nat.le_of_ble_eq_true rfl⟩ rfl (Nat.le_of_ble_eq_true rfl) dX0_addPartsOf_20 ⟨Nat.le_of_ble_eq_true rfl, Nat.le_of_ble_eq_true rfl⟩) rfl rfl (fun H locs X => ?_)
      refine lv_icmp_ge (tgt := 43) hx hb dX0_addPartsOf_23 (by decide) (fun c23 => ?_) (fun c23 => ?_)
      · have hf := g_t hf c23
        exact g_vret (wsC E ad) C hr hk X hf dX0_addPartsOf_43
      · have hf := g_f hf c23
        refine lv_aload_n hx hb dX0_addPartsOf_26 rfl (lv_at hl 0 rfl) ?_
        refine lv_aload_n hx hb dX0_addPartsOf_27 rfl (lv_at hl 1 rfl) ?_
        refine lv_iload_n hx hb dX0_addPartsOf_28 rfl (lv_at hl 2 rfl) ?_
        refine lv_iload_n hx hb dX0_addPartsOf_29 rfl (lv_at hl 3 rfl) ?_
        obtain ⟨q30, e30, hf⟩ := g_be hf
        refine g_calll X (g_runV (As := [.int x2, .int x3]) (rest := [.ref (ad 4)]) C X (cC_S_atPlace l E A ad q20.2 q30.2 q30.1 x2 x3 e30) kX6_atPlace m_470 1 4 rfl rfl hl.1 rfl ⟨Nat.le_of_ble_eq_true rfl, Nat.le_of_ble_eq_true rfl⟩ rfl (Nat.le_of_ble_eq_true rfl) dX0_addPartsOf_30 ⟨Nat.le_of_ble_eq_true rfl, Nat.le_of_ble_eq_true rfl⟩) rfl rfl (fun H locs X => ?_)
        refine lv_l2i hx hb dX0_addPartsOf_33 rfl ?_
        obtain ⟨q34, e34, hf⟩ := g_be hf
        refine g_callv X (g_runV (As := [.int q30.1.toInt32]) (rest := []) C X (cC_Ch_add l E A ad q30.2 q34  q30.1.toInt32 e34) kX0_add m_462 4 0 rfl rfl hl.1 rfl ⟨Nat.le_of_ble_eq_true rfl, Nat.le_of_ble_eq_true rfl⟩ rfl (Nat.le_of_ble_eq_true rfl) dX0_addPartsOf_34 ⟨Nat.le_of_ble_eq_true rfl, Nat.le_of_ble_eq_true rfl⟩) rfl rfl (fun H locs X => ?_)
        refine lv_iinc (v := x3 + (1 : Int32)) (lv' := [(3, .int (x3 + (1 : Int32))), (0, .ref (ad 4)), (1, .ref (ad 1)), (2, .int x2)]) hx hb dX0_addPartsOf_37 hl (k := 3) rfl rfl (by decide) rfl (fun ls hl => ?_)
        refine lv_goto (tgt := 17) hx hb dX0_addPartsOf_40 (by decide) ?_
        exact ih17 q34 x2 (x3 + (1 : Int32)) ls H locs hf (lv_sub hl [1, 2, 3, 0] rfl) X
  unfold fC_Ch_addPartsOf at hf
  refine lv_aload_n hx hb dX0_addPartsOf_0 rfl (lv_at hl 1 rfl) ?_
  refine lv_iload_n hx hb dX0_addPartsOf_1 rfl (lv_at hl 2 rfl) ?_
  refine lv_iconst (v := 1) hx hb dX0_addPartsOf_2 (by decide) ?_
  obtain ⟨q3, e3, hf⟩ := g_be hf
  refine g_calli X (g_runV (As := [.int a2, .int (1 : Int32)]) (rest := []) C X (cC_S_isIn l E A ad w q3.2 q3.1 a2 (1 : Int32) e3) kX6_isIn m_457 1 4 rfl rfl hl.1 rfl ⟨Nat.le_of_ble_eq_true rfl, Nat.le_of_ble_eq_true rfl⟩ rfl (Nat.le_of_ble_eq_true rfl) dX0_addPartsOf_3 ⟨Nat.le_of_ble_eq_true rfl, Nat.le_of_ble_eq_true rfl⟩) rfl rfl (fun H locs X => ?_)
  refine lv_if_eq (tgt := 15) hx hb dX0_addPartsOf_6 (by decide) (fun c6 => ?_) (fun c6 => ?_)
  · have hf := g_t hf c6
    refine lv_iconst (v := 0) hx hb dX0_addPartsOf_15 (by decide) ?_
    refine lv_istore_n (lv' := [(3, .int (0 : Int32)), (0, .ref (ad 4)), (1, .ref (ad 1)), (2, .int a2)]) hx hb dX0_addPartsOf_16 rfl hl (by decide) rfl (fun ls hl => ?_)
    exact j17 g_fuel q3.2 a2 (0 : Int32) ls H locs hf (lv_sub hl [1, 2, 3, 0] rfl) X
  · have hf := g_f hf c6
    refine lv_aload_n hx hb dX0_addPartsOf_9 rfl (lv_at hl 0 rfl) ?_
    refine lv_iload_n hx hb dX0_addPartsOf_10 rfl (lv_at hl 2 rfl) ?_
    obtain ⟨q11, e11, hf⟩ := g_be hf
    refine g_callv X (g_runV (As := [.int a2]) (rest := []) C X (cC_Ch_add l E A ad q3.2 q11  a2 e11) kX0_add m_462 4 0 rfl rfl hl.1 rfl ⟨Nat.le_of_ble_eq_true rfl, Nat.le_of_ble_eq_true rfl⟩ rfl (Nat.le_of_ble_eq_true rfl) dX0_addPartsOf_11 ⟨Nat.le_of_ble_eq_true rfl, Nat.le_of_ble_eq_true rfl⟩) rfl rfl (fun H locs X => ?_)
    exact g_vret (wsC E ad) C hr hk X hf dX0_addPartsOf_14
set_option maxRecDepth 100000 in
set_option maxHeartbeats 4000000 in
theorem cC_Ch_lineUp (l : Launch) (E : g_Env) (A : Nat → Prop) (ad : Nat → Nat) (w : CS) (w' : CS) (a2 : Int32) (hf : fC_Ch_lineUp w a2 = some w') : g_Mv l yX0_lineUp cX0_lineUp 4 ({ frames := 3, cells := 0, slots := 0, locals := 68 }) E A [.ref (ad 4), .ref (ad 1), .int a2] (wsC E ad w) (wsC E ad w') := by
  refine g_start (by decide) (Nat.le_of_ble_eq_true rfl) ?_
  intro p e s m below meth c C hr hk hnm ls hl H locs X
  have hx := C.1.1
  have hb := C.1.2.1
  have hl : lv_has ls 4 [(0, .ref (ad 4)), (1, .ref (ad 1)), (2, .int a2)] := hl
  have j24 : ∀ (n : Nat) (w : CS) (x2 : Int32) (x3 : Int32) (ls : Array Slot) (H : Heap) (locs : List Loc), fC_Ch_lineUp_24 n w x2 x3 = some w' → lv_has ls 4 [(0, .ref (ad 4)), (1, .ref (ad 1)), (2, .int x2), (3, .int x3)] → g_W E A s H locs (wsC E ad w) → W p l e ({ frames := 3, cells := 0, slots := 0, locals := 68 }) s m ([.ref (ad 4), .ref (ad 1), .int a2] : List Value).toArray below meth c H locs 0 0 (MQ below (va_Qv (fun (u' : va_W) => u' = wsC E ad w') (g_B E A) A) ([.ref (ad 4), .ref (ad 1), .int a2] : List Value).toArray s 0 0 A) (F0 m 24 ls []) := by
    intro n
    induction n with
    | zero => intro w x2 x3 ls H locs hf; exact absurd hf (by simp [fC_Ch_lineUp_24])
    | succ n24 ih24 =>
      intro w x2 x3 ls H locs hf hl X
      unfold fC_Ch_lineUp_24 at hf
      refine lv_iload_n hx hb dX0_lineUp_24 rfl (lv_at hl 3 rfl) ?_
      refine lv_aload_n hx hb dX0_lineUp_25 rfl (lv_at hl 1 rfl) ?_
      refine lv_iload_n hx hb dX0_lineUp_26 rfl (lv_at hl 2 rfl) ?_
      obtain ⟨q27, e27, hf⟩ := g_be hf
      refine g_calli X (g_runV (As := [.int x2]) (rest := [.int x3]) C X (cC_S_places l E A ad w q27.2 q27.1 x2 e27) kX6_places m_466 1 4 rfl rfl hl.1 rfl ⟨Nat.le_of_ble_eq_true rfl, Nat.le_of_ble_eq_true rfl⟩ rfl (Nat.le_of_ble_eq_true rfl) dX0_lineUp_27 ⟨Nat.le_of_ble_eq_true rfl, Nat.le_of_ble_eq_true rfl⟩) rfl rfl (fun H locs X => ?_)
      refine lv_icmp_ge (tgt := 51) hx hb dX0_lineUp_30 (by decide) (fun c30 => ?_) (fun c30 => ?_)
      · have hf := g_t hf c30
        exact g_vret (wsC E ad) C hr hk X hf dX0_lineUp_51
      · have hf := g_f hf c30
        refine lv_aload_n hx hb dX0_lineUp_33 rfl (lv_at hl 0 rfl) ?_
        refine lv_aload_n hx hb dX0_lineUp_34 rfl (lv_at hl 1 rfl) ?_
        refine lv_aload_n hx hb dX0_lineUp_35 rfl (lv_at hl 1 rfl) ?_
        refine lv_iload_n hx hb dX0_lineUp_36 rfl (lv_at hl 2 rfl) ?_
        refine lv_iload_n hx hb dX0_lineUp_37 rfl (lv_at hl 3 rfl) ?_
        obtain ⟨q38, e38, hf⟩ := g_be hf
        refine g_calll X (g_runV (As := [.int x2, .int x3]) (rest := [.ref (ad 1), .ref (ad 4)]) C X (cC_S_atPlace l E A ad q27.2 q38.2 q38.1 x2 x3 e38) kX6_atPlace m_470 1 4 rfl rfl hl.1 rfl ⟨Nat.le_of_ble_eq_true rfl, Nat.le_of_ble_eq_true rfl⟩ rfl (Nat.le_of_ble_eq_true rfl) dX0_lineUp_38 ⟨Nat.le_of_ble_eq_true rfl, Nat.le_of_ble_eq_true rfl⟩) rfl rfl (fun H locs X => ?_)
        refine lv_l2i hx hb dX0_lineUp_41 rfl ?_
        obtain ⟨q42, e42, hf⟩ := g_be hf
        refine g_callv X (g_runV (As := [.ref (ad 1), .int q38.1.toInt32]) (rest := []) C X (cC_Ch_addPartsOf l E A ad q38.2 q42  q38.1.toInt32 e42) kX0_addPartsOf m_458 4 0 rfl rfl hl.1 rfl ⟨Nat.le_of_ble_eq_true rfl, Nat.le_of_ble_eq_true rfl⟩ rfl (Nat.le_of_ble_eq_true rfl) dX0_lineUp_42 ⟨Nat.le_of_ble_eq_true rfl, Nat.le_of_ble_eq_true rfl⟩) rfl rfl (fun H locs X => ?_)
        refine lv_iinc (v := x3 + (1 : Int32)) (lv' := [(3, .int (x3 + (1 : Int32))), (0, .ref (ad 4)), (1, .ref (ad 1)), (2, .int x2)]) hx hb dX0_lineUp_45 hl (k := 3) rfl rfl (by decide) rfl (fun ls hl => ?_)
        refine lv_goto (tgt := 24) hx hb dX0_lineUp_48 (by decide) ?_
        exact ih24 q42 x2 (x3 + (1 : Int32)) ls H locs hf (lv_sub hl [1, 2, 3, 0] rfl) X
  unfold fC_Ch_lineUp at hf
  refine lv_aload_n hx hb dX0_lineUp_0 rfl (lv_at hl 0 rfl) ?_
  refine lv_iconst (v := 0) hx hb dX0_lineUp_1 (by decide) ?_
  obtain ⟨w2, e2, hf⟩ := g_le hf
  refine g_put C X g_iX0 tyX0_ok nmX0 4 rfl rfl 1 (by decide) rfl m_120 rfl rfl rfl (Nat.le_of_ble_eq_true rfl) dX0_lineUp_2 (ws2 := wsC E ad w2) (by subst e2; rfl) (fun H locs X => ?_)
  refine lv_aload_n hx hb dX0_lineUp_5 rfl (lv_at hl 1 rfl) ?_
  refine lv_iload_n hx hb dX0_lineUp_6 rfl (lv_at hl 2 rfl) ?_
  refine lv_ldc (v := 8388608) hx hb C.1.2.2.2.1 (C.1.2.2.2.2 _ m_456) dX0_lineUp_7 ?_
  obtain ⟨q9, e9, hf⟩ := g_be hf
  refine g_calli X (g_runV (As := [.int a2, .int (8388608 : Int32)]) (rest := []) C X (cC_S_isIn l E A ad w2 q9.2 q9.1 a2 (8388608 : Int32) e9) kX6_isIn m_457 1 4 rfl rfl hl.1 rfl ⟨Nat.le_of_ble_eq_true rfl, Nat.le_of_ble_eq_true rfl⟩ rfl (Nat.le_of_ble_eq_true rfl) dX0_lineUp_9 ⟨Nat.le_of_ble_eq_true rfl, Nat.le_of_ble_eq_true rfl⟩) rfl rfl (fun H locs X => ?_)
  refine lv_if_ne (tgt := 22) hx hb dX0_lineUp_12 (by decide) (fun c12 => ?_) (fun c12 => ?_)
  · have hf := g_f hf c12
    refine lv_iconst (v := 0) hx hb dX0_lineUp_22 (by decide) ?_
    refine lv_istore_n (lv' := [(3, .int (0 : Int32)), (0, .ref (ad 4)), (1, .ref (ad 1)), (2, .int a2)]) hx hb dX0_lineUp_23 rfl hl (by decide) rfl (fun ls hl => ?_)
    exact j24 g_fuel q9.2 a2 (0 : Int32) ls H locs hf (lv_sub hl [1, 2, 3, 0] rfl) X
  · have hf := g_t hf c12
    refine lv_aload_n hx hb dX0_lineUp_15 rfl (lv_at hl 0 rfl) ?_
    refine lv_aload_n hx hb dX0_lineUp_16 rfl (lv_at hl 1 rfl) ?_
    refine lv_iload_n hx hb dX0_lineUp_17 rfl (lv_at hl 2 rfl) ?_
    obtain ⟨q18, e18, hf⟩ := g_be hf
    refine g_callv X (g_runV (As := [.ref (ad 1), .int a2]) (rest := []) C X (cC_Ch_addPartsOf l E A ad q9.2 q18  a2 e18) kX0_addPartsOf m_458 4 0 rfl rfl hl.1 rfl ⟨Nat.le_of_ble_eq_true rfl, Nat.le_of_ble_eq_true rfl⟩ rfl (Nat.le_of_ble_eq_true rfl) dX0_lineUp_18 ⟨Nat.le_of_ble_eq_true rfl, Nat.le_of_ble_eq_true rfl⟩) rfl rfl (fun H locs X => ?_)
    exact g_vret (wsC E ad) C hr hk X hf dX0_lineUp_21
set_option maxRecDepth 100000 in
set_option maxHeartbeats 4000000 in
theorem cC_Ch_partAt (l : Launch) (E : g_Env) (A : Nat → Prop) (ad : Nat → Nat) (w : CS) (w' : CS) (r : Int32) (a1 : Int32) (hf : fC_Ch_partAt w a1 = some (r, w')) : g_Mi l yX0_partAt cX0_partAt 2 ((some .int)) ({ frames := 0, cells := 0, slots := 0, locals := 0 }) E A [.ref (ad 4), .int a1] (wsC E ad w) r (wsC E ad w') := by
  refine g_start (by decide) (Nat.le_of_ble_eq_true rfl) ?_
  intro p e s m below meth c C hr hk hnm ls hl H locs X
  have hx := C.1.1
  have hb := C.1.2.1
  have hl : lv_has ls 2 [(0, .ref (ad 4)), (1, .int a1)] := hl
  unfold fC_Ch_partAt at hf
  refine lv_iload_n hx hb dX0_partAt_0 rfl (lv_at hl 1 rfl) ?_
  refine lv_if_lt (tgt := 30) hx hb dX0_partAt_1 (by decide) (fun c1 => ?_) (fun c1 => ?_)
  · have hf := g_t hf c1
    refine lv_iconst (v := -1) hx hb dX0_partAt_30 (by decide) ?_
    exact g_iret (wsC E ad) C hr hk X hf dX0_partAt_31
  · have hf := g_f hf c1
    refine lv_iload_n hx hb dX0_partAt_4 rfl (lv_at hl 1 rfl) ?_
    refine lv_aload_n hx hb dX0_partAt_5 rfl (lv_at hl 0 rfl) ?_
    refine g_get C X g_iX0 4 rfl rfl 1 (by decide) rfl m_120 rfl dX0_partAt_6 ?_
    refine lv_icmp_ge (tgt := 30) hx hb dX0_partAt_9 (by decide) (fun c9 => ?_) (fun c9 => ?_)
    · have hf := g_t hf c9
      refine lv_iconst (v := -1) hx hb dX0_partAt_30 (by decide) ?_
      exact g_iret (wsC E ad) C hr hk X hf dX0_partAt_31
    · have hf := g_f hf c9
      refine lv_iload_n hx hb dX0_partAt_12 rfl (lv_at hl 1 rfl) ?_
      refine lv_aload_n hx hb dX0_partAt_13 rfl (lv_at hl 0 rfl) ?_
      refine g_get C X g_iX0 4 rfl rfl 0 (by decide) rfl m_119 rfl dX0_partAt_14 ?_
      refine g_ilen C X 5 rfl (v := 144) rfl dX0_partAt_17 ?_
      refine lv_icmp_ge (tgt := 30) hx hb dX0_partAt_18 (by decide) (fun c18 => ?_) (fun c18 => ?_)
      · have hf := g_t hf c18
        refine lv_iconst (v := -1) hx hb dX0_partAt_30 (by decide) ?_
        exact g_iret (wsC E ad) C hr hk X hf dX0_partAt_31
      · have hf := g_f hf c18
        refine lv_aload_n hx hb dX0_partAt_21 rfl (lv_at hl 0 rfl) ?_
        refine g_get C X g_iX0 4 rfl rfl 0 (by decide) rfl m_119 rfl dX0_partAt_22 ?_
        refine lv_iload_n hx hb dX0_partAt_25 rfl (lv_at hl 1 rfl) ?_
        obtain ⟨h26, hf⟩ := g_cke hf
        obtain ⟨v26, e26, hf⟩ := g_le hf
        refine g_iald C X 5 rfl h26 e26 dX0_partAt_26 ?_
        refine lv_goto (tgt := 31) hx hb dX0_partAt_27 (by decide) ?_
        exact g_iret (wsC E ad) C hr hk X hf dX0_partAt_31
set_option maxRecDepth 100000 in
set_option maxHeartbeats 4000000 in
theorem cC_K_asHeldIn (l : Launch) (E : g_Env) (A : Nat → Prop) (ad : Nat → Nat) (w : CS) (w' : CS) (r : Int64) (a0 : Int32) (a1 : Int64) (hf : fC_K_asHeldIn w a0 a1 = some (r, w')) : g_Ml l yX2_asHeldIn cX2_asHeldIn 3 ({ frames := 0, cells := 0, slots := 0, locals := 0 }) E A [.int a0, .long a1] (wsC E ad w) r (wsC E ad w') := by
  refine g_start (by decide) (Nat.le_of_ble_eq_true rfl) ?_
  intro p e s m below meth c C hr hk hnm ls hl H locs X
  have hx := C.1.1
  have hb := C.1.2.1
  have hl : lv_has ls 3 [(0, .int a0), (1, .long a1)] := hl
  unfold fC_K_asHeldIn at hf
  refine lv_iload_n hx hb dX2_asHeldIn_0 rfl (lv_at hl 0 rfl) ?_
  by_cases s1_0 : a0 = (13 : Int32)
  · have hf := g_t hf s1_0
    refine lv_lookup (off := 27) (tgt := 28) hx hb dX2_asHeldIn_1 (by decide) (by rw [s1_0]; rfl) (by decide) ?_
    refine lv_lload_n hx hb dX2_asHeldIn_28 rfl (lv_at hl 1 rfl) ?_
    refine lv_l2i hx hb dX2_asHeldIn_29 rfl ?_
    refine lv_i2l hx hb dX2_asHeldIn_30 rfl ?_
    exact g_lret (wsC E ad) C hr hk X hf dX2_asHeldIn_31
  have hf := g_f hf s1_0
  by_cases s1_1 : a0 = (14 : Int32)
  · have hf := g_t hf s1_1
    refine lv_lookup (off := 31) (tgt := 32) hx hb dX2_asHeldIn_1 (by decide) (by rw [s1_1]; rfl) (by decide) ?_
    refine lv_lload_n hx hb dX2_asHeldIn_32 rfl (lv_at hl 1 rfl) ?_
    refine lv_l2i hx hb dX2_asHeldIn_33 rfl ?_
    refine lv_i2b hx hb dX2_asHeldIn_34 rfl ?_
    refine lv_i2l hx hb dX2_asHeldIn_35 rfl ?_
    exact g_lret (wsC E ad) C hr hk X hf dX2_asHeldIn_36
  have hf := g_f hf s1_1
  refine lv_lookup (off := 36) (tgt := 37) hx hb dX2_asHeldIn_1 (by decide) (by have z0 := g_ne (13) s1_0 (by decide); have z1 := g_ne (14) s1_1 (by decide); simp [Op.lookupswitch.offset, z0, Ne.symm z0, z1, Ne.symm z1]; done) (by decide) ?_
  refine lv_lload_n hx hb dX2_asHeldIn_37 rfl (lv_at hl 1 rfl) ?_
  exact g_lret (wsC E ad) C hr hk X hf dX2_asHeldIn_38
set_option maxRecDepth 100000 in
set_option maxHeartbeats 4000000 in
theorem cC_K_fittingIn (l : Launch) (E : g_Env) (A : Nat → Prop) (ad : Nat → Nat) (w : CS) (w' : CS) (r : Int32) (a0 : Int32) (hf : fC_K_fittingIn w a0 = some (r, w')) : g_Mi l yX2_fittingIn cX2_fittingIn 1 ((some .int)) ({ frames := 0, cells := 0, slots := 0, locals := 0 }) E A [.int a0] (wsC E ad w) r (wsC E ad w') := by
  refine g_start (by decide) (Nat.le_of_ble_eq_true rfl) ?_
  intro p e s m below meth c C hr hk hnm ls hl H locs X
  have hx := C.1.1
  have hb := C.1.2.1
  have hl : lv_has ls 1 [(0, .int a0)] := hl
  unfold fC_K_fittingIn at hf
  refine lv_iload_n hx hb dX2_fittingIn_0 rfl (lv_at hl 0 rfl) ?_
  refine lv_bipush (v := 16) hx hb dX2_fittingIn_1 (by decide) ?_
  refine lv_icmp_lt (tgt := 30) hx hb dX2_fittingIn_3 (by decide) (fun c3 => ?_) (fun c3 => ?_)
  · have hf := g_t hf c3
    refine lv_iconst (v := 0) hx hb dX2_fittingIn_30 (by decide) ?_
    exact g_iret (wsC E ad) C hr hk X hf dX2_fittingIn_31
  · have hf := g_f hf c3
    refine lv_iload_n hx hb dX2_fittingIn_6 rfl (lv_at hl 0 rfl) ?_
    refine lv_bipush (v := 16) hx hb dX2_fittingIn_7 (by decide) ?_
    refine lv_isub hx hb dX2_fittingIn_9 ?_
    refine va_gets hx hb C.2.2.2.2.2.2.1 X.2.2 C.1.2.2.2.1 (C.1.2.2.2.2 _ m_370) (fun _ h9 => h9) dX2_fittingIn_10 ?_
    refine va_tlen hx hb C.2.2.2.2.2.2.2.1 X.2.2 (v := 9) rfl dX2_fittingIn_13 ?_
    refine lv_icmp_ge (tgt := 30) hx hb dX2_fittingIn_14 (by decide) (fun c14 => ?_) (fun c14 => ?_)
    · have hf := g_t hf c14
      refine lv_iconst (v := 0) hx hb dX2_fittingIn_30 (by decide) ?_
      exact g_iret (wsC E ad) C hr hk X hf dX2_fittingIn_31
    · have hf := g_f hf c14
      refine lv_iconst (v := 1) hx hb dX2_fittingIn_17 (by decide) ?_
      refine va_gets hx hb C.2.2.2.2.2.2.1 X.2.2 C.1.2.2.2.1 (C.1.2.2.2.2 _ m_370) (fun _ h9 => h9) dX2_fittingIn_18 ?_
      refine lv_iload_n hx hb dX2_fittingIn_21 rfl (lv_at hl 0 rfl) ?_
      refine lv_bipush (v := 16) hx hb dX2_fittingIn_22 (by decide) ?_
      refine lv_isub hx hb dX2_fittingIn_24 ?_
      obtain ⟨h25, hf⟩ := g_cke hf
      obtain ⟨v25, e25, hf⟩ := g_le hf
      refine va_ti hx hb C.2.2.2.2.2.2.2.1 X.2.2 h25 (v := .int v25) (by rw [e25]) dX2_fittingIn_25 ?_
      refine lv_ishl hx hb dX2_fittingIn_26 ?_
      refine lv_goto (tgt := 31) hx hb dX2_fittingIn_27 (by decide) ?_
      exact g_iret (wsC E ad) C hr hk X hf dX2_fittingIn_31
set_option maxRecDepth 100000 in
set_option maxHeartbeats 4000000 in
theorem cC_K_isCopied (l : Launch) (E : g_Env) (A : Nat → Prop) (ad : Nat → Nat) (w : CS) (w' : CS) (r : Int32) (a0 : Int32) (a1 : Int32) (hf : fC_K_isCopied w a0 a1 = some (r, w')) : g_Mi l yX2_isCopied cX2_isCopied 2 ((some .boolean)) ({ frames := 1, cells := 0, slots := 0, locals := 21 }) E A [.int a0, .int a1] (wsC E ad w) r (wsC E ad w') := by
  refine g_start (by decide) (Nat.le_of_ble_eq_true rfl) ?_
  intro p e s m below meth c C hr hk hnm ls hl H locs X
  have hx := C.1.1
  have hb := C.1.2.1
  have hl : lv_has ls 2 [(0, .int a0), (1, .int a1)] := hl
  unfold fC_K_isCopied at hf
  refine lv_iload_n hx hb dX2_isCopied_0 rfl (lv_at hl 0 rfl) ?_
  refine lv_ldc (v := 57344) hx hb C.1.2.2.2.1 (C.1.2.2.2.2 _ m_403) dX2_isCopied_1 ?_
  obtain ⟨q3, e3, hf⟩ := g_be hf
  refine g_calli X (g_runS (As := [.int a0, .int (57344 : Int32)]) (rest := []) C X (cC_K_isUnderAny l E A ad w q3.2 q3.1 a0 (57344 : Int32) e3) kX2_isUnderAny m_404 hl.1 rfl ⟨Nat.le_of_ble_eq_true rfl, Nat.le_of_ble_eq_true rfl⟩ rfl (Nat.le_of_ble_eq_true rfl) dX2_isCopied_3 ⟨Nat.le_of_ble_eq_true rfl, Nat.le_of_ble_eq_true rfl⟩) rfl rfl (fun H locs X => ?_)
  refine lv_if_eq (tgt := 20) hx hb dX2_isCopied_6 (by decide) (fun c6 => ?_) (fun c6 => ?_)
  · have hf := g_t hf c6
    refine lv_iload_n hx hb dX2_isCopied_20 rfl (lv_at hl 0 rfl) ?_
    refine lv_ldc (v := 10682368) hx hb C.1.2.2.2.1 (C.1.2.2.2.2 _ m_405) dX2_isCopied_21 ?_
    obtain ⟨q23, e23, hf⟩ := g_be hf
    refine g_calli X (g_runS (As := [.int a0, .int (10682368 : Int32)]) (rest := []) C X (cC_K_isUnderAny l E A ad q3.2 q23.2 q23.1 a0 (10682368 : Int32) e23) kX2_isUnderAny m_404 hl.1 rfl ⟨Nat.le_of_ble_eq_true rfl, Nat.le_of_ble_eq_true rfl⟩ rfl (Nat.le_of_ble_eq_true rfl) dX2_isCopied_23 ⟨Nat.le_of_ble_eq_true rfl, Nat.le_of_ble_eq_true rfl⟩) rfl rfl (fun H locs X => ?_)
    refine lv_if_eq (tgt := 42) hx hb dX2_isCopied_26 (by decide) (fun c26 => ?_) (fun c26 => ?_)
    · have hf := g_t hf c26
      refine lv_iconst (v := 0) hx hb dX2_isCopied_42 (by decide) ?_
      exact g_zret (wsC E ad) C hr hk rfl X hf dX2_isCopied_43
    · have hf := g_f hf c26
      refine lv_iload_n hx hb dX2_isCopied_29 rfl (lv_at hl 1 rfl) ?_
      refine lv_ldc (v := 10682368) hx hb C.1.2.2.2.1 (C.1.2.2.2.2 _ m_405) dX2_isCopied_30 ?_
      obtain ⟨q32, e32, hf⟩ := g_be hf
      refine g_calli X (g_runS (As := [.int a1, .int (10682368 : Int32)]) (rest := []) C X (cC_K_isUnderAny l E A ad q23.2 q32.2 q32.1 a1 (10682368 : Int32) e32) kX2_isUnderAny m_404 hl.1 rfl ⟨Nat.le_of_ble_eq_true rfl, Nat.le_of_ble_eq_true rfl⟩ rfl (Nat.le_of_ble_eq_true rfl) dX2_isCopied_32 ⟨Nat.le_of_ble_eq_true rfl, Nat.le_of_ble_eq_true rfl⟩) rfl rfl (fun H locs X => ?_)
      refine lv_if_eq (tgt := 42) hx hb dX2_isCopied_35 (by decide) (fun c35 => ?_) (fun c35 => ?_)
      · have hf := g_t hf c35
        refine lv_iconst (v := 0) hx hb dX2_isCopied_42 (by decide) ?_
        exact g_zret (wsC E ad) C hr hk rfl X hf dX2_isCopied_43
      · have hf := g_f hf c35
        refine lv_iconst (v := 1) hx hb dX2_isCopied_38 (by decide) ?_
        refine lv_goto (tgt := 43) hx hb dX2_isCopied_39 (by decide) ?_
        exact g_zret (wsC E ad) C hr hk rfl X hf dX2_isCopied_43
  · have hf := g_f hf c6
    refine lv_iload_n hx hb dX2_isCopied_9 rfl (lv_at hl 0 rfl) ?_
    refine lv_iload_n hx hb dX2_isCopied_10 rfl (lv_at hl 1 rfl) ?_
    refine lv_icmp_ne (tgt := 18) hx hb dX2_isCopied_11 (by decide) (fun c11 => ?_) (fun c11 => ?_)
    · have hf := g_f hf c11
      refine lv_iconst (v := 0) hx hb dX2_isCopied_18 (by decide) ?_
      exact g_zret (wsC E ad) C hr hk rfl X hf dX2_isCopied_19
    · have hf := g_t hf c11
      refine lv_iconst (v := 1) hx hb dX2_isCopied_14 (by decide) ?_
      refine lv_goto (tgt := 19) hx hb dX2_isCopied_15 (by decide) ?_
      exact g_zret (wsC E ad) C hr hk rfl X hf dX2_isCopied_19
set_option maxRecDepth 100000 in
set_option maxHeartbeats 4000000 in
theorem cC_K_isKind (l : Launch) (E : g_Env) (A : Nat → Prop) (ad : Nat → Nat) (w : CS) (w' : CS) (r : Int32) (a0 : Int32) (hf : fC_K_isKind w a0 = some (r, w')) : g_Mi l yX2_isKind cX2_isKind 1 ((some .boolean)) ({ frames := 0, cells := 0, slots := 0, locals := 0 }) E A [.int a0] (wsC E ad w) r (wsC E ad w') := by
  refine g_start (by decide) (Nat.le_of_ble_eq_true rfl) ?_
  intro p e s m below meth c C hr hk hnm ls hl H locs X
  have hx := C.1.1
  have hb := C.1.2.1
  have hl : lv_has ls 1 [(0, .int a0)] := hl
  unfold fC_K_isKind at hf
  refine lv_iload_n hx hb dX2_isKind_0 rfl (lv_at hl 0 rfl) ?_
  refine lv_if_lt (tgt := 16) hx hb dX2_isKind_1 (by decide) (fun c1 => ?_) (fun c1 => ?_)
  · have hf := g_t hf c1
    refine lv_iconst (v := 0) hx hb dX2_isKind_16 (by decide) ?_
    exact g_zret (wsC E ad) C hr hk rfl X hf dX2_isKind_17
  · have hf := g_f hf c1
    refine lv_iload_n hx hb dX2_isKind_4 rfl (lv_at hl 0 rfl) ?_
    refine va_gets hx hb C.2.2.2.2.1 X.2.2 C.1.2.2.2.1 (C.1.2.2.2.2 _ m_225) (fun _ h9 => h9) dX2_isKind_5 ?_
    refine va_tlen hx hb C.2.2.2.2.2.1 X.2.2 (v := 25) rfl dX2_isKind_8 ?_
    refine lv_icmp_ge (tgt := 16) hx hb dX2_isKind_9 (by decide) (fun c9 => ?_) (fun c9 => ?_)
    · have hf := g_t hf c9
      refine lv_iconst (v := 0) hx hb dX2_isKind_16 (by decide) ?_
      exact g_zret (wsC E ad) C hr hk rfl X hf dX2_isKind_17
    · have hf := g_f hf c9
      refine lv_iconst (v := 1) hx hb dX2_isKind_12 (by decide) ?_
      refine lv_goto (tgt := 17) hx hb dX2_isKind_13 (by decide) ?_
      exact g_zret (wsC E ad) C hr hk rfl X hf dX2_isKind_17
set_option maxRecDepth 100000 in
set_option maxHeartbeats 4000000 in
theorem cC_K_isMade (l : Launch) (E : g_Env) (A : Nat → Prop) (ad : Nat → Nat) (w : CS) (w' : CS) (r : Int32) (a0 : Int32) (hf : fC_K_isMade w a0 = some (r, w')) : g_Mi l yX2_isMade cX2_isMade 1 ((some .boolean)) ({ frames := 1, cells := 0, slots := 0, locals := 20 }) E A [.int a0] (wsC E ad w) r (wsC E ad w') := by
  refine g_start (by decide) (Nat.le_of_ble_eq_true rfl) ?_
  intro p e s m below meth c C hr hk hnm ls hl H locs X
  have hx := C.1.1
  have hb := C.1.2.1
  have hl : lv_has ls 1 [(0, .int a0)] := hl
  unfold fC_K_isMade at hf
  refine lv_iload_n hx hb dX2_isMade_0 rfl (lv_at hl 0 rfl) ?_
  obtain ⟨q1, e1, hf⟩ := g_be hf
  refine g_calli X (g_runS (As := [.int a0]) (rest := []) C X (cC_K_isKind l E A ad w q1.2 q1.1 a0 e1) kX2_isKind m_222 hl.1 rfl ⟨Nat.le_of_ble_eq_true rfl, Nat.le_of_ble_eq_true rfl⟩ rfl (Nat.le_of_ble_eq_true rfl) dX2_isMade_1 ⟨Nat.le_of_ble_eq_true rfl, Nat.le_of_ble_eq_true rfl⟩) rfl rfl (fun H locs X => ?_)
  refine lv_if_eq (tgt := 17) hx hb dX2_isMade_4 (by decide) (fun c4 => ?_) (fun c4 => ?_)
  · have hf := g_t hf c4
    refine lv_iconst (v := 0) hx hb dX2_isMade_17 (by decide) ?_
    exact g_zret (wsC E ad) C hr hk rfl X hf dX2_isMade_18
  · have hf := g_f hf c4
    refine lv_iload_n hx hb dX2_isMade_7 rfl (lv_at hl 0 rfl) ?_
    refine lv_bipush (v := 12) hx hb dX2_isMade_8 (by decide) ?_
    refine lv_icmp_eq (tgt := 17) hx hb dX2_isMade_10 (by decide) (fun c10 => ?_) (fun c10 => ?_)
    · have hf := g_t hf c10
      refine lv_iconst (v := 0) hx hb dX2_isMade_17 (by decide) ?_
      exact g_zret (wsC E ad) C hr hk rfl X hf dX2_isMade_18
    · have hf := g_f hf c10
      refine lv_iconst (v := 1) hx hb dX2_isMade_13 (by decide) ?_
      refine lv_goto (tgt := 18) hx hb dX2_isMade_14 (by decide) ?_
      exact g_zret (wsC E ad) C hr hk rfl X hf dX2_isMade_18
set_option maxRecDepth 100000 in
set_option maxHeartbeats 4000000 in
theorem cC_S_grow (l : Launch) (E : g_Env) (A : Nat → Prop) (ad : Nat → Nat) (w : CS) (w' : CS) (a1 : Int32) (a2 : Int32) (a3 : Int32) (hf : fC_S_grow w a1 a2 a3 = some w') : g_Mv l yX6_grow cX6_grow 5 ({ frames := 0, cells := 0, slots := 0, locals := 0 }) E A [.ref (ad 1), .int a1, .int a2, .int a3] (wsC E ad w) (wsC E ad w') := by
  refine g_start (by decide) (Nat.le_of_ble_eq_true rfl) ?_
  intro p e s m below meth c C hr hk hnm ls hl H locs X
  have hx := C.1.1
  have hb := C.1.2.1
  have hl : lv_has ls 5 [(0, .ref (ad 1)), (1, .int a1), (2, .int a2), (3, .int a3)] := hl
  unfold fC_S_grow at hf
  refine lv_bipush (v := 17) hx hb dX6_grow_0 (by decide) ?_
  refine lv_iload_n hx hb dX6_grow_2 rfl (lv_at hl 1 rfl) ?_
  refine lv_bipush (v := 23) hx hb dX6_grow_3 (by decide) ?_
  refine lv_imul hx hb dX6_grow_5 ?_
  refine lv_iadd hx hb dX6_grow_6 ?_
  refine lv_iload_n hx hb dX6_grow_7 rfl (lv_at hl 2 rfl) ?_
  refine lv_iadd hx hb dX6_grow_8 ?_
  refine lv_istore (lv' := [(4, .int (((17 : Int32) + (a1 * (23 : Int32))) + a2)), (0, .ref (ad 1)), (1, .int a1), (2, .int a2), (3, .int a3)]) hx hb dX6_grow_9 hl (by decide) rfl (fun ls hl => ?_)
  refine lv_iload hx hb dX6_grow_11 (lv_at hl 0 rfl) ?_
  refine lv_bipush (v := 17) hx hb dX6_grow_13 (by decide) ?_
  refine lv_icmp_lt (tgt := 46) hx hb dX6_grow_15 (by decide) (fun c15 => ?_) (fun c15 => ?_)
  · have hf := g_t hf c15
    exact g_vret (wsC E ad) C hr hk X hf dX6_grow_46
  · have hf := g_f hf c15
    refine lv_iload hx hb dX6_grow_18 (lv_at hl 0 rfl) ?_
    refine lv_aload_n hx hb dX6_grow_20 rfl (lv_at hl 1 rfl) ?_
    refine g_get C X g_iX6 1 rfl rfl 0 (by decide) rfl m_98 rfl dX6_grow_21 ?_
    refine g_llen C X 2 rfl (v := 1397) rfl dX6_grow_24 ?_
    refine lv_icmp_ge (tgt := 46) hx hb dX6_grow_25 (by decide) (fun c25 => ?_) (fun c25 => ?_)
    · have hf := g_t hf c25
      exact g_vret (wsC E ad) C hr hk X hf dX6_grow_46
    · have hf := g_f hf c25
      refine lv_aload_n hx hb dX6_grow_28 rfl (lv_at hl 1 rfl) ?_
      refine g_get C X g_iX6 1 rfl rfl 0 (by decide) rfl m_98 rfl dX6_grow_29 ?_
      refine lv_iload hx hb dX6_grow_32 (lv_at hl 0 rfl) ?_
      refine lv_aload_n hx hb dX6_grow_34 rfl (lv_at hl 1 rfl) ?_
      refine g_get C X g_iX6 1 rfl rfl 0 (by decide) rfl m_98 rfl dX6_grow_35 ?_
      refine lv_iload hx hb dX6_grow_38 (lv_at hl 0 rfl) ?_
      obtain ⟨h40, hf⟩ := g_cke hf
      obtain ⟨v40, e40, hf⟩ := g_le hf
      refine g_lald C X 2 rfl h40 e40 dX6_grow_40 ?_
      refine lv_l2i hx hb dX6_grow_41 rfl ?_
      refine lv_iload_n hx hb dX6_grow_42 rfl (lv_at hl 4 rfl) ?_
      refine lv_iadd hx hb dX6_grow_43 ?_
      refine lv_i2l hx hb dX6_grow_44 rfl ?_
      obtain ⟨h45, hf⟩ := g_cke hf
      obtain ⟨w45, e45, hf⟩ := g_le hf
      refine g_last C X 2 rfl h45 dX6_grow_45 (ws2 := wsC E ad w45) (by subst e45; rfl) (fun H locs X => ?_)
      exact g_vret (wsC E ad) C hr hk X hf dX6_grow_46
set_option maxRecDepth 100000 in
set_option maxHeartbeats 4000000 in
theorem cC_Ru_bend (l : Launch) (E : g_Env) (A : Nat → Prop) (ad : Nat → Nat) (w : CS) (w' : CS) (r : Int32) (a1 : Int32) (a2 : Int32) (a3 : Int32) (hf : fC_Ru_bend w a1 a2 a3 = some (r, w')) : g_Mi l yX4_bend cX4_bend 4 ((some .int)) ({ frames := 1, cells := 0, slots := 0, locals := 24 }) E A [.ref (ad 1), .int a1, .int a2, .int a3] (wsC E ad w) r (wsC E ad w') := by
  refine g_start (by decide) (Nat.le_of_ble_eq_true rfl) ?_
  intro p e s m below meth c C hr hk hnm ls hl H locs X
  have hx := C.1.1
  have hb := C.1.2.1
  have hl : lv_has ls 4 [(0, .ref (ad 1)), (1, .int a1), (2, .int a2), (3, .int a3)] := hl
  have j12 : ∀ (w : CS) (x2 : Int32) (x3 : Int32) (ls : Array Slot) (H : Heap) (locs : List Loc), fC_Ru_bend_12 w x2 x3 = some (r, w') → lv_has ls 4 [(2, .int x2), (3, .int x3)] → g_W E A s H locs (wsC E ad w) → W p l e ({ frames := 1, cells := 0, slots := 0, locals := 24 }) s m ([.ref (ad 1), .int a1, .int a2, .int a3] : List Value).toArray below meth c H locs 0 0 (MQ below (va_Qi (fun (r' : Int32) (u' : va_W) => r' = r ∧ u' = wsC E ad w') (g_B E A) A) ([.ref (ad 1), .int a1, .int a2, .int a3] : List Value).toArray s 0 0 A) (F0 m 12 ls []) := by
    intro w x2 x3 ls H locs hf hl X
    unfold fC_Ru_bend_12 at hf
    refine lv_iload_n hx hb dX4_bend_12 rfl (lv_at hl 1 rfl) ?_
    refine lv_iload_n hx hb dX4_bend_13 rfl (lv_at hl 0 rfl) ?_
    refine lv_iload_n hx hb dX4_bend_14 rfl (lv_at hl 1 rfl) ?_
    refine lv_isub hx hb dX4_bend_15 ?_
    refine lv_iconst (v := 2) hx hb dX4_bend_16 (by decide) ?_
    refine lv_ishr hx hb dX4_bend_17 ?_
    refine lv_iadd hx hb dX4_bend_18 ?_
    exact g_iret (wsC E ad) C hr hk X hf dX4_bend_19
  unfold fC_Ru_bend at hf
  refine lv_iload_n hx hb dX4_bend_0 rfl (lv_at hl 3 rfl) ?_
  refine lv_iload_n hx hb dX4_bend_1 rfl (lv_at hl 2 rfl) ?_
  refine lv_icmp_eq (tgt := 12) hx hb dX4_bend_2 (by decide) (fun c2 => ?_) (fun c2 => ?_)
  · have hf := g_t hf c2
    exact j12 w a2 a3 ls H locs hf (lv_sub hl [2, 3] rfl) X
  · have hf := g_f hf c2
    refine lv_aload_n hx hb dX4_bend_5 rfl (lv_at hl 0 rfl) ?_
    refine lv_iload_n hx hb dX4_bend_6 rfl (lv_at hl 1 rfl) ?_
    refine lv_iconst (v := 4) hx hb dX4_bend_7 (by decide) ?_
    refine lv_iconst (v := 1) hx hb dX4_bend_8 (by decide) ?_
    obtain ⟨q9, e9, hf⟩ := g_be hf
    refine g_callv X (g_runV (As := [.int a1, .int (4 : Int32), .int (1 : Int32)]) (rest := []) C X (cC_S_grow l E A ad w q9  a1 (4 : Int32) (1 : Int32) e9) kX6_grow m_482 1 4 rfl rfl hl.1 rfl ⟨Nat.le_of_ble_eq_true rfl, Nat.le_of_ble_eq_true rfl⟩ rfl (Nat.le_of_ble_eq_true rfl) dX4_bend_9 ⟨Nat.le_of_ble_eq_true rfl, Nat.le_of_ble_eq_true rfl⟩) rfl rfl (fun H locs X => ?_)
    exact j12 q9 a2 a3 ls H locs hf (lv_sub hl [2, 3] rfl) X
set_option maxRecDepth 100000 in
set_option maxHeartbeats 4000000 in
theorem cC_Ru_clip (l : Launch) (E : g_Env) (A : Nat → Prop) (ad : Nat → Nat) (w : CS) (w' : CS) (r : Int32) (a1 : Int32) (a2 : Int32) (hf : fC_Ru_clip w a1 a2 = some (r, w')) : g_Mi l yX4_clip cX4_clip 4 ((some .int)) ({ frames := 1, cells := 0, slots := 0, locals := 30 }) E A [.ref (ad 1), .int a1, .int a2] (wsC E ad w) r (wsC E ad w') := by
  refine g_start (by decide) (Nat.le_of_ble_eq_true rfl) ?_
  intro p e s m below meth c C hr hk hnm ls hl H locs X
  have hx := C.1.1
  have hb := C.1.2.1
  have hl : lv_has ls 4 [(0, .ref (ad 1)), (1, .int a1), (2, .int a2)] := hl
  unfold fC_Ru_clip at hf
  refine lv_aload_n hx hb dX4_clip_0 rfl (lv_at hl 0 rfl) ?_
  refine lv_iload_n hx hb dX4_clip_1 rfl (lv_at hl 1 rfl) ?_
  refine lv_iconst (v := 2) hx hb dX4_clip_2 (by decide) ?_
  obtain ⟨q3, e3, hf⟩ := g_be hf
  refine g_calli X (g_runV (As := [.int a1, .int (2 : Int32)]) (rest := []) C X (cC_S_trait l E A ad w q3.2 q3.1 a1 (2 : Int32) e3) kX6_trait m_486 1 4 rfl rfl hl.1 rfl ⟨Nat.le_of_ble_eq_true rfl, Nat.le_of_ble_eq_true rfl⟩ rfl (Nat.le_of_ble_eq_true rfl) dX4_clip_3 ⟨Nat.le_of_ble_eq_true rfl, Nat.le_of_ble_eq_true rfl⟩) rfl rfl (fun H locs X => ?_)
  obtain ⟨v6, e6, hf⟩ := g_le hf
  refine g_mabs C hl.1 m_490 m_491 m_80 m_492 (Nat.le_of_ble_eq_true rfl) (Nat.le_of_ble_eq_true rfl) (Nat.zero_le _) (Nat.zero_le _) e6 dX4_clip_6 ?_
  refine lv_istore_n (lv' := [(3, .int v6), (0, .ref (ad 1)), (1, .int a1), (2, .int a2)]) hx hb dX4_clip_9 rfl hl (by decide) rfl (fun ls hl => ?_)
  refine lv_iload_n hx hb dX4_clip_10 rfl (lv_at hl 0 rfl) ?_
  refine lv_ineg hx hb dX4_clip_11 ?_
  refine lv_iload_n hx hb dX4_clip_12 rfl (lv_at hl 0 rfl) ?_
  refine lv_iload_n hx hb dX4_clip_13 rfl (lv_at hl 3 rfl) ?_
  obtain ⟨v14, e14, hf⟩ := g_le hf
  refine g_mmin C hl.1 m_493 m_293 m_80 m_294 (Nat.le_of_ble_eq_true rfl) (Nat.le_of_ble_eq_true rfl) (Nat.zero_le _) (Nat.zero_le _) e14 dX4_clip_14 ?_
  obtain ⟨v17, e17, hf⟩ := g_le hf
  refine g_mmax C hl.1 m_494 m_306 m_80 m_307 (Nat.le_of_ble_eq_true rfl) (Nat.le_of_ble_eq_true rfl) (Nat.zero_le _) (Nat.zero_le _) e17 dX4_clip_17 ?_
  exact g_iret (wsC E ad) C hr hk X hf dX4_clip_20
set_option maxRecDepth 100000 in
set_option maxHeartbeats 4000000 in
theorem cC_Ru_countIn (l : Launch) (E : g_Env) (A : Nat → Prop) (ad : Nat → Nat) (w : CS) (w' : CS) (r : Int32) (a1 : Int32) (a2 : Int32) (hf : fC_Ru_countIn w a1 a2 = some (r, w')) : g_Mi l yX4_countIn cX4_countIn 3 ((some .int)) ({ frames := 1, cells := 0, slots := 0, locals := 24 }) E A [.ref (ad 1), .int a1, .int a2] (wsC E ad w) r (wsC E ad w') := by
  refine g_start (by decide) (Nat.le_of_ble_eq_true rfl) ?_
  intro p e s m below meth c C hr hk hnm ls hl H locs X
  have hx := C.1.1
  have hb := C.1.2.1
  have hl : lv_has ls 3 [(0, .ref (ad 1)), (1, .int a1), (2, .int a2)] := hl
  unfold fC_Ru_countIn at hf
  refine lv_aload_n hx hb dX4_countIn_0 rfl (lv_at hl 0 rfl) ?_
  refine lv_iload_n hx hb dX4_countIn_1 rfl (lv_at hl 1 rfl) ?_
  refine lv_bipush (v := 6) hx hb dX4_countIn_2 (by decide) ?_
  refine lv_iconst (v := 1) hx hb dX4_countIn_4 (by decide) ?_
  obtain ⟨q5, e5, hf⟩ := g_be hf
  refine g_callv X (g_runV (As := [.int a1, .int (6 : Int32), .int (1 : Int32)]) (rest := []) C X (cC_S_grow l E A ad w q5  a1 (6 : Int32) (1 : Int32) e5) kX6_grow m_482 1 4 rfl rfl hl.1 rfl ⟨Nat.le_of_ble_eq_true rfl, Nat.le_of_ble_eq_true rfl⟩ rfl (Nat.le_of_ble_eq_true rfl) dX4_countIn_5 ⟨Nat.le_of_ble_eq_true rfl, Nat.le_of_ble_eq_true rfl⟩) rfl rfl (fun H locs X => ?_)
  refine lv_iload_n hx hb dX4_countIn_8 rfl (lv_at hl 2 rfl) ?_
  refine lv_aload_n hx hb dX4_countIn_9 rfl (lv_at hl 0 rfl) ?_
  refine lv_iload_n hx hb dX4_countIn_10 rfl (lv_at hl 1 rfl) ?_
  refine lv_bipush (v := 6) hx hb dX4_countIn_11 (by decide) ?_
  obtain ⟨q13, e13, hf⟩ := g_be hf
  refine g_calli X (g_runV (As := [.int a1, .int (6 : Int32)]) (rest := [.int a2]) C X (cC_S_trait l E A ad q5 q13.2 q13.1 a1 (6 : Int32) e13) kX6_trait m_486 1 4 rfl rfl hl.1 rfl ⟨Nat.le_of_ble_eq_true rfl, Nat.le_of_ble_eq_true rfl⟩ rfl (Nat.le_of_ble_eq_true rfl) dX4_countIn_13 ⟨Nat.le_of_ble_eq_true rfl, Nat.le_of_ble_eq_true rfl⟩) rfl rfl (fun H locs X => ?_)
  refine lv_iadd hx hb dX4_countIn_16 ?_
  exact g_iret (wsC E ad) C hr hk X hf dX4_countIn_17
set_option maxRecDepth 100000 in
set_option maxHeartbeats 4000000 in
theorem cC_S_setTrait (l : Launch) (E : g_Env) (A : Nat → Prop) (ad : Nat → Nat) (w : CS) (w' : CS) (a1 : Int32) (a2 : Int32) (a3 : Int32) (hf : fC_S_setTrait w a1 a2 a3 = some w') : g_Mv l yX6_setTrait cX6_setTrait 5 ({ frames := 0, cells := 0, slots := 0, locals := 0 }) E A [.ref (ad 1), .int a1, .int a2, .int a3] (wsC E ad w) (wsC E ad w') := by
  refine g_start (by decide) (Nat.le_of_ble_eq_true rfl) ?_
  intro p e s m below meth c C hr hk hnm ls hl H locs X
  have hx := C.1.1
  have hb := C.1.2.1
  have hl : lv_has ls 5 [(0, .ref (ad 1)), (1, .int a1), (2, .int a2), (3, .int a3)] := hl
  unfold fC_S_setTrait at hf
  refine lv_bipush (v := 17) hx hb dX6_setTrait_0 (by decide) ?_
  refine lv_iload_n hx hb dX6_setTrait_2 rfl (lv_at hl 1 rfl) ?_
  refine lv_bipush (v := 23) hx hb dX6_setTrait_3 (by decide) ?_
  refine lv_imul hx hb dX6_setTrait_5 ?_
  refine lv_iadd hx hb dX6_setTrait_6 ?_
  refine lv_iload_n hx hb dX6_setTrait_7 rfl (lv_at hl 2 rfl) ?_
  refine lv_iadd hx hb dX6_setTrait_8 ?_
  refine lv_istore (lv' := [(4, .int (((17 : Int32) + (a1 * (23 : Int32))) + a2)), (0, .ref (ad 1)), (1, .int a1), (2, .int a2), (3, .int a3)]) hx hb dX6_setTrait_9 hl (by decide) rfl (fun ls hl => ?_)
  refine lv_iload hx hb dX6_setTrait_11 (lv_at hl 0 rfl) ?_
  refine lv_bipush (v := 17) hx hb dX6_setTrait_13 (by decide) ?_
  refine lv_icmp_lt (tgt := 37) hx hb dX6_setTrait_15 (by decide) (fun c15 => ?_) (fun c15 => ?_)
  · have hf := g_t hf c15
    exact g_vret (wsC E ad) C hr hk X hf dX6_setTrait_37
  · have hf := g_f hf c15
    refine lv_iload hx hb dX6_setTrait_18 (lv_at hl 0 rfl) ?_
    refine lv_aload_n hx hb dX6_setTrait_20 rfl (lv_at hl 1 rfl) ?_
    refine g_get C X g_iX6 1 rfl rfl 0 (by decide) rfl m_98 rfl dX6_setTrait_21 ?_
    refine g_llen C X 2 rfl (v := 1397) rfl dX6_setTrait_24 ?_
    refine lv_icmp_ge (tgt := 37) hx hb dX6_setTrait_25 (by decide) (fun c25 => ?_) (fun c25 => ?_)
    · have hf := g_t hf c25
      exact g_vret (wsC E ad) C hr hk X hf dX6_setTrait_37
    · have hf := g_f hf c25
      refine lv_aload_n hx hb dX6_setTrait_28 rfl (lv_at hl 1 rfl) ?_
      refine g_get C X g_iX6 1 rfl rfl 0 (by decide) rfl m_98 rfl dX6_setTrait_29 ?_
      refine lv_iload hx hb dX6_setTrait_32 (lv_at hl 0 rfl) ?_
      refine lv_iload_n hx hb dX6_setTrait_34 rfl (lv_at hl 4 rfl) ?_
      refine lv_i2l hx hb dX6_setTrait_35 rfl ?_
      obtain ⟨h36, hf⟩ := g_cke hf
      obtain ⟨w36, e36, hf⟩ := g_le hf
      refine g_last C X 2 rfl h36 dX6_setTrait_36 (ws2 := wsC E ad w36) (by subst e36; rfl) (fun H locs X => ?_)
      exact g_vret (wsC E ad) C hr hk X hf dX6_setTrait_37
set_option maxRecDepth 100000 in
set_option maxHeartbeats 4000000 in
theorem cC_Ru_echo (l : Launch) (E : g_Env) (A : Nat → Prop) (ad : Nat → Nat) (w : CS) (w' : CS) (r : Int32) (a1 : Int32) (a2 : Int32) (hf : fC_Ru_echo w a1 a2 = some (r, w')) : g_Mi l yX4_echo cX4_echo 4 ((some .int)) ({ frames := 1, cells := 0, slots := 0, locals := 24 }) E A [.ref (ad 1), .int a1, .int a2] (wsC E ad w) r (wsC E ad w') := by
  refine g_start (by decide) (Nat.le_of_ble_eq_true rfl) ?_
  intro p e s m below meth c C hr hk hnm ls hl H locs X
  have hx := C.1.1
  have hb := C.1.2.1
  have hl : lv_has ls 4 [(0, .ref (ad 1)), (1, .int a1), (2, .int a2)] := hl
  unfold fC_Ru_echo at hf
  refine lv_aload_n hx hb dX4_echo_0 rfl (lv_at hl 0 rfl) ?_
  refine lv_iload_n hx hb dX4_echo_1 rfl (lv_at hl 1 rfl) ?_
  refine lv_iconst (v := 5) hx hb dX4_echo_2 (by decide) ?_
  obtain ⟨q3, e3, hf⟩ := g_be hf
  refine g_calli X (g_runV (As := [.int a1, .int (5 : Int32)]) (rest := []) C X (cC_S_trait l E A ad w q3.2 q3.1 a1 (5 : Int32) e3) kX6_trait m_486 1 4 rfl rfl hl.1 rfl ⟨Nat.le_of_ble_eq_true rfl, Nat.le_of_ble_eq_true rfl⟩ rfl (Nat.le_of_ble_eq_true rfl) dX4_echo_3 ⟨Nat.le_of_ble_eq_true rfl, Nat.le_of_ble_eq_true rfl⟩) rfl rfl (fun H locs X => ?_)
  refine lv_istore_n (lv' := [(3, .int q3.1), (0, .ref (ad 1)), (1, .int a1), (2, .int a2)]) hx hb dX4_echo_6 rfl hl (by decide) rfl (fun ls hl => ?_)
  refine lv_aload_n hx hb dX4_echo_7 rfl (lv_at hl 1 rfl) ?_
  refine lv_iload_n hx hb dX4_echo_8 rfl (lv_at hl 2 rfl) ?_
  refine lv_iconst (v := 5) hx hb dX4_echo_9 (by decide) ?_
  refine lv_iload_n hx hb dX4_echo_10 rfl (lv_at hl 3 rfl) ?_
  obtain ⟨q11, e11, hf⟩ := g_be hf
  refine g_callv X (g_runV (As := [.int a1, .int (5 : Int32), .int a2]) (rest := []) C X (cC_S_setTrait l E A ad q3.2 q11  a1 (5 : Int32) a2 e11) kX6_setTrait m_501 1 4 rfl rfl hl.1 rfl ⟨Nat.le_of_ble_eq_true rfl, Nat.le_of_ble_eq_true rfl⟩ rfl (Nat.le_of_ble_eq_true rfl) dX4_echo_11 ⟨Nat.le_of_ble_eq_true rfl, Nat.le_of_ble_eq_true rfl⟩) rfl rfl (fun H locs X => ?_)
  refine lv_iload_n hx hb dX4_echo_14 rfl (lv_at hl 3 rfl) ?_
  refine lv_iload_n hx hb dX4_echo_15 rfl (lv_at hl 0 rfl) ?_
  refine lv_aload_n hx hb dX4_echo_16 rfl (lv_at hl 1 rfl) ?_
  refine lv_iload_n hx hb dX4_echo_17 rfl (lv_at hl 2 rfl) ?_
  refine lv_iconst (v := 2) hx hb dX4_echo_18 (by decide) ?_
  obtain ⟨q19, e19, hf⟩ := g_be hf
  refine g_calli X (g_runV (As := [.int a1, .int (2 : Int32)]) (rest := [.int q3.1, .int a2]) C X (cC_S_trait l E A ad q11 q19.2 q19.1 a1 (2 : Int32) e19) kX6_trait m_486 1 4 rfl rfl hl.1 rfl ⟨Nat.le_of_ble_eq_true rfl, Nat.le_of_ble_eq_true rfl⟩ rfl (Nat.le_of_ble_eq_true rfl) dX4_echo_19 ⟨Nat.le_of_ble_eq_true rfl, Nat.le_of_ble_eq_true rfl⟩) rfl rfl (fun H locs X => ?_)
  refine lv_imul hx hb dX4_echo_22 ?_
  refine lv_iconst (v := 4) hx hb dX4_echo_23 (by decide) ?_
  refine lv_ishr hx hb dX4_echo_24 ?_
  refine lv_iadd hx hb dX4_echo_25 ?_
  exact g_iret (wsC E ad) C hr hk X hf dX4_echo_26
set_option maxRecDepth 100000 in
set_option maxHeartbeats 4000000 in
theorem cC_Ru_load (l : Launch) (E : g_Env) (A : Nat → Prop) (ad : Nat → Nat) (w : CS) (w' : CS) (r : Int32) (a1 : Int32) (hf : fC_Ru_load w a1 = some (r, w')) : g_Mi l yX4_load cX4_load 3 ((some .int)) ({ frames := 2, cells := 0, slots := 0, locals := 45 }) E A [.ref (ad 1), .int a1] (wsC E ad w) r (wsC E ad w') := by
  refine g_start (by decide) (Nat.le_of_ble_eq_true rfl) ?_
  intro p e s m below meth c C hr hk hnm ls hl H locs X
  have hx := C.1.1
  have hb := C.1.2.1
  have hl : lv_has ls 3 [(0, .ref (ad 1)), (1, .int a1)] := hl
  have j101 : ∀ (w : CS) (x1 : Int32) (x2 : Int32) (ls : Array Slot) (H : Heap) (locs : List Loc), fC_Ru_load_101 w x1 x2 = some (r, w') → lv_has ls 3 [(0, .ref (ad 1)), (1, .int x1), (2, .int x2)] → g_W E A s H locs (wsC E ad w) → W p l e ({ frames := 2, cells := 0, slots := 0, locals := 45 }) s m ([.ref (ad 1), .int a1] : List Value).toArray below meth c H locs 0 0 (MQ below (va_Qi (fun (r' : Int32) (u' : va_W) => r' = r ∧ u' = wsC E ad w') (g_B E A) A) ([.ref (ad 1), .int a1] : List Value).toArray s 0 0 A) (F0 m 101 ls []) := by
    intro w x1 x2 ls H locs hf hl X
    unfold fC_Ru_load_101 at hf
    refine lv_aload_n hx hb dX4_load_101 rfl (lv_at hl 0 rfl) ?_
    refine lv_iload_n hx hb dX4_load_102 rfl (lv_at hl 1 rfl) ?_
    refine lv_sipush (v := 512) hx hb dX4_load_103 (by decide) ?_
    obtain ⟨q106, e106, hf⟩ := g_be hf
    refine g_calli X (g_runV (As := [.int x1, .int (512 : Int32)]) (rest := []) C X (cC_S_isIn l E A ad w q106.2 q106.1 x1 (512 : Int32) e106) kX6_isIn m_532 1 4 rfl rfl hl.1 rfl ⟨Nat.le_of_ble_eq_true rfl, Nat.le_of_ble_eq_true rfl⟩ rfl (Nat.le_of_ble_eq_true rfl) dX4_load_106 ⟨Nat.le_of_ble_eq_true rfl, Nat.le_of_ble_eq_true rfl⟩) rfl rfl (fun H locs X => ?_)
    refine lv_if_eq (tgt := 122) hx hb dX4_load_109 (by decide) (fun c109 => ?_) (fun c109 => ?_)
    · have hf := g_t hf c109
      refine lv_iload_n hx hb dX4_load_122 rfl (lv_at hl 2 rfl) ?_
      exact g_iret (wsC E ad) C hr hk X hf dX4_load_123
    · have hf := g_f hf c109
      refine lv_iload_n hx hb dX4_load_112 rfl (lv_at hl 2 rfl) ?_
      refine lv_aload_n hx hb dX4_load_113 rfl (lv_at hl 0 rfl) ?_
      refine lv_iload_n hx hb dX4_load_114 rfl (lv_at hl 1 rfl) ?_
      refine lv_bipush (v := 6) hx hb dX4_load_115 (by decide) ?_
      obtain ⟨q117, e117, hf⟩ := g_be hf
      refine g_calli X (g_runV (As := [.int x1, .int (6 : Int32)]) (rest := [.int x2]) C X (cC_S_trait l E A ad q106.2 q117.2 q117.1 x1 (6 : Int32) e117) kX6_trait m_486 1 4 rfl rfl hl.1 rfl ⟨Nat.le_of_ble_eq_true rfl, Nat.le_of_ble_eq_true rfl⟩ rfl (Nat.le_of_ble_eq_true rfl) dX4_load_117 ⟨Nat.le_of_ble_eq_true rfl, Nat.le_of_ble_eq_true rfl⟩) rfl rfl (fun H locs X => ?_)
      refine lv_iadd hx hb dX4_load_120 ?_
      refine lv_istore_n (lv' := [(2, .int (x2 + q117.1)), (0, .ref (ad 1)), (1, .int x1)]) hx hb dX4_load_121 rfl hl (by decide) rfl (fun ls hl => ?_)
      refine lv_iload_n hx hb dX4_load_122 rfl (lv_at hl 0 rfl) ?_
      exact g_iret (wsC E ad) C hr hk X hf dX4_load_123
  have j78 : ∀ (w : CS) (x1 : Int32) (x2 : Int32) (ls : Array Slot) (H : Heap) (locs : List Loc), fC_Ru_load_78 w x1 x2 = some (r, w') → lv_has ls 3 [(0, .ref (ad 1)), (1, .int x1), (2, .int x2)] → g_W E A s H locs (wsC E ad w) → W p l e ({ frames := 2, cells := 0, slots := 0, locals := 45 }) s m ([.ref (ad 1), .int a1] : List Value).toArray below meth c H locs 0 0 (MQ below (va_Qi (fun (r' : Int32) (u' : va_W) => r' = r ∧ u' = wsC E ad w') (g_B E A) A) ([.ref (ad 1), .int a1] : List Value).toArray s 0 0 A) (F0 m 78 ls []) := by
    intro w x1 x2 ls H locs hf hl X
    unfold fC_Ru_load_78 at hf
    refine lv_aload_n hx hb dX4_load_78 rfl (lv_at hl 0 rfl) ?_
    refine lv_iload_n hx hb dX4_load_79 rfl (lv_at hl 1 rfl) ?_
    refine lv_sipush (v := 256) hx hb dX4_load_80 (by decide) ?_
    obtain ⟨q83, e83, hf⟩ := g_be hf
    refine g_calli X (g_runV (As := [.int x1, .int (256 : Int32)]) (rest := []) C X (cC_S_isIn l E A ad w q83.2 q83.1 x1 (256 : Int32) e83) kX6_isIn m_532 1 4 rfl rfl hl.1 rfl ⟨Nat.le_of_ble_eq_true rfl, Nat.le_of_ble_eq_true rfl⟩ rfl (Nat.le_of_ble_eq_true rfl) dX4_load_83 ⟨Nat.le_of_ble_eq_true rfl, Nat.le_of_ble_eq_true rfl⟩) rfl rfl (fun H locs X => ?_)
    refine lv_if_eq (tgt := 101) hx hb dX4_load_86 (by decide) (fun c86 => ?_) (fun c86 => ?_)
    · have hf := g_t hf c86
      exact j101 q83.2 x1 x2 ls H locs hf (lv_sub hl [0, 1, 2] rfl) X
    · have hf := g_f hf c86
      refine lv_iload_n hx hb dX4_load_89 rfl (lv_at hl 2 rfl) ?_
      refine lv_aload_n hx hb dX4_load_90 rfl (lv_at hl 0 rfl) ?_
      refine lv_iload_n hx hb dX4_load_91 rfl (lv_at hl 1 rfl) ?_
      refine lv_iconst (v := 5) hx hb dX4_load_92 (by decide) ?_
      obtain ⟨q93, e93, hf⟩ := g_be hf
      refine g_calli X (g_runV (As := [.int x1, .int (5 : Int32)]) (rest := [.int x2]) C X (cC_S_trait l E A ad q83.2 q93.2 q93.1 x1 (5 : Int32) e93) kX6_trait m_486 1 4 rfl rfl hl.1 rfl ⟨Nat.le_of_ble_eq_true rfl, Nat.le_of_ble_eq_true rfl⟩ rfl (Nat.le_of_ble_eq_true rfl) dX4_load_93 ⟨Nat.le_of_ble_eq_true rfl, Nat.le_of_ble_eq_true rfl⟩) rfl rfl (fun H locs X => ?_)
      refine lv_bipush (v := 7) hx hb dX4_load_96 (by decide) ?_
      refine lv_iand hx hb dX4_load_98 ?_
      refine lv_iadd hx hb dX4_load_99 ?_
      refine lv_istore_n (lv' := [(2, .int (x2 + (q93.1 &&& (7 : Int32)))), (0, .ref (ad 1)), (1, .int x1)]) hx hb dX4_load_100 rfl hl (by decide) rfl (fun ls hl => ?_)
      exact j101 q93.2 x1 (x2 + (q93.1 &&& (7 : Int32))) ls H locs hf (lv_sub hl [1, 2, 0] rfl) X
  have j65 : ∀ (w : CS) (x1 : Int32) (x2 : Int32) (ls : Array Slot) (H : Heap) (locs : List Loc), fC_Ru_load_65 w x1 x2 = some (r, w') → lv_has ls 3 [(0, .ref (ad 1)), (1, .int x1), (2, .int x2)] → g_W E A s H locs (wsC E ad w) → W p l e ({ frames := 2, cells := 0, slots := 0, locals := 45 }) s m ([.ref (ad 1), .int a1] : List Value).toArray below meth c H locs 0 0 (MQ below (va_Qi (fun (r' : Int32) (u' : va_W) => r' = r ∧ u' = wsC E ad w') (g_B E A) A) ([.ref (ad 1), .int a1] : List Value).toArray s 0 0 A) (F0 m 65 ls []) := by
    intro w x1 x2 ls H locs hf hl X
    unfold fC_Ru_load_65 at hf
    refine lv_aload_n hx hb dX4_load_65 rfl (lv_at hl 0 rfl) ?_
    refine lv_iload_n hx hb dX4_load_66 rfl (lv_at hl 1 rfl) ?_
    refine lv_bipush (v := 64) hx hb dX4_load_67 (by decide) ?_
    obtain ⟨q69, e69, hf⟩ := g_be hf
    refine g_calli X (g_runV (As := [.int x1, .int (64 : Int32)]) (rest := []) C X (cC_S_isIn l E A ad w q69.2 q69.1 x1 (64 : Int32) e69) kX6_isIn m_532 1 4 rfl rfl hl.1 rfl ⟨Nat.le_of_ble_eq_true rfl, Nat.le_of_ble_eq_true rfl⟩ rfl (Nat.le_of_ble_eq_true rfl) dX4_load_69 ⟨Nat.le_of_ble_eq_true rfl, Nat.le_of_ble_eq_true rfl⟩) rfl rfl (fun H locs X => ?_)
    refine lv_if_eq (tgt := 78) hx hb dX4_load_72 (by decide) (fun c72 => ?_) (fun c72 => ?_)
    · have hf := g_t hf c72
      exact j78 q69.2 x1 x2 ls H locs hf (lv_sub hl [0, 1, 2] rfl) X
    · have hf := g_f hf c72
      refine lv_iinc (v := x2 + (4 : Int32)) (lv' := [(2, .int (x2 + (4 : Int32))), (0, .ref (ad 1)), (1, .int x1)]) hx hb dX4_load_75 hl (k := 2) rfl rfl (by decide) rfl (fun ls hl => ?_)
      exact j78 q69.2 x1 (x2 + (4 : Int32)) ls H locs hf (lv_sub hl [1, 2, 0] rfl) X
  have j46 : ∀ (w : CS) (x1 : Int32) (x2 : Int32) (ls : Array Slot) (H : Heap) (locs : List Loc), fC_Ru_load_46 w x1 x2 = some (r, w') → lv_has ls 3 [(0, .ref (ad 1)), (1, .int x1), (2, .int x2)] → g_W E A s H locs (wsC E ad w) → W p l e ({ frames := 2, cells := 0, slots := 0, locals := 45 }) s m ([.ref (ad 1), .int a1] : List Value).toArray below meth c H locs 0 0 (MQ below (va_Qi (fun (r' : Int32) (u' : va_W) => r' = r ∧ u' = wsC E ad w') (g_B E A) A) ([.ref (ad 1), .int a1] : List Value).toArray s 0 0 A) (F0 m 46 ls []) := by
    intro w x1 x2 ls H locs hf hl X
    unfold fC_Ru_load_46 at hf
    refine lv_aload_n hx hb dX4_load_46 rfl (lv_at hl 0 rfl) ?_
    refine lv_iload_n hx hb dX4_load_47 rfl (lv_at hl 1 rfl) ?_
    refine lv_bipush (v := 16) hx hb dX4_load_48 (by decide) ?_
    obtain ⟨q50, e50, hf⟩ := g_be hf
    refine g_calli X (g_runV (As := [.int x1, .int (16 : Int32)]) (rest := []) C X (cC_S_isIn l E A ad w q50.2 q50.1 x1 (16 : Int32) e50) kX6_isIn m_532 1 4 rfl rfl hl.1 rfl ⟨Nat.le_of_ble_eq_true rfl, Nat.le_of_ble_eq_true rfl⟩ rfl (Nat.le_of_ble_eq_true rfl) dX4_load_50 ⟨Nat.le_of_ble_eq_true rfl, Nat.le_of_ble_eq_true rfl⟩) rfl rfl (fun H locs X => ?_)
    refine lv_if_eq (tgt := 65) hx hb dX4_load_53 (by decide) (fun c53 => ?_) (fun c53 => ?_)
    · have hf := g_t hf c53
      exact j65 q50.2 x1 x2 ls H locs hf (lv_sub hl [0, 1, 2] rfl) X
    · have hf := g_f hf c53
      refine lv_iload_n hx hb dX4_load_56 rfl (lv_at hl 2 rfl) ?_
      refine lv_aload_n hx hb dX4_load_57 rfl (lv_at hl 0 rfl) ?_
      refine lv_iload_n hx hb dX4_load_58 rfl (lv_at hl 1 rfl) ?_
      refine lv_iconst (v := 4) hx hb dX4_load_59 (by decide) ?_
      obtain ⟨q60, e60, hf⟩ := g_be hf
      refine g_calli X (g_runV (As := [.int x1, .int (4 : Int32)]) (rest := [.int x2]) C X (cC_S_trait l E A ad q50.2 q60.2 q60.1 x1 (4 : Int32) e60) kX6_trait m_486 1 4 rfl rfl hl.1 rfl ⟨Nat.le_of_ble_eq_true rfl, Nat.le_of_ble_eq_true rfl⟩ rfl (Nat.le_of_ble_eq_true rfl) dX4_load_60 ⟨Nat.le_of_ble_eq_true rfl, Nat.le_of_ble_eq_true rfl⟩) rfl rfl (fun H locs X => ?_)
      refine lv_iadd hx hb dX4_load_63 ?_
      refine lv_istore_n (lv' := [(2, .int (x2 + q60.1)), (0, .ref (ad 1)), (1, .int x1)]) hx hb dX4_load_64 rfl hl (by decide) rfl (fun ls hl => ?_)
      exact j65 q60.2 x1 (x2 + q60.1) ls H locs hf (lv_sub hl [1, 2, 0] rfl) X
  have j25 : ∀ (w : CS) (x1 : Int32) (x2 : Int32) (ls : Array Slot) (H : Heap) (locs : List Loc), fC_Ru_load_25 w x1 x2 = some (r, w') → lv_has ls 3 [(0, .ref (ad 1)), (1, .int x1), (2, .int x2)] → g_W E A s H locs (wsC E ad w) → W p l e ({ frames := 2, cells := 0, slots := 0, locals := 45 }) s m ([.ref (ad 1), .int a1] : List Value).toArray below meth c H locs 0 0 (MQ below (va_Qi (fun (r' : Int32) (u' : va_W) => r' = r ∧ u' = wsC E ad w') (g_B E A) A) ([.ref (ad 1), .int a1] : List Value).toArray s 0 0 A) (F0 m 25 ls []) := by
    intro w x1 x2 ls H locs hf hl X
    unfold fC_Ru_load_25 at hf
    refine lv_aload_n hx hb dX4_load_25 rfl (lv_at hl 0 rfl) ?_
    refine lv_iload_n hx hb dX4_load_26 rfl (lv_at hl 1 rfl) ?_
    refine lv_iconst (v := 4) hx hb dX4_load_27 (by decide) ?_
    obtain ⟨q28, e28, hf⟩ := g_be hf
    refine g_calli X (g_runV (As := [.int x1, .int (4 : Int32)]) (rest := []) C X (cC_S_isIn l E A ad w q28.2 q28.1 x1 (4 : Int32) e28) kX6_isIn m_532 1 4 rfl rfl hl.1 rfl ⟨Nat.le_of_ble_eq_true rfl, Nat.le_of_ble_eq_true rfl⟩ rfl (Nat.le_of_ble_eq_true rfl) dX4_load_28 ⟨Nat.le_of_ble_eq_true rfl, Nat.le_of_ble_eq_true rfl⟩) rfl rfl (fun H locs X => ?_)
    refine lv_if_eq (tgt := 46) hx hb dX4_load_31 (by decide) (fun c31 => ?_) (fun c31 => ?_)
    · have hf := g_t hf c31
      exact j46 q28.2 x1 x2 ls H locs hf (lv_sub hl [0, 1, 2] rfl) X
    · have hf := g_f hf c31
      refine lv_iload_n hx hb dX4_load_34 rfl (lv_at hl 2 rfl) ?_
      refine lv_aload_n hx hb dX4_load_35 rfl (lv_at hl 0 rfl) ?_
      refine lv_iload_n hx hb dX4_load_36 rfl (lv_at hl 1 rfl) ?_
      refine lv_iconst (v := 2) hx hb dX4_load_37 (by decide) ?_
      obtain ⟨q38, e38, hf⟩ := g_be hf
      refine g_calli X (g_runV (As := [.int x1, .int (2 : Int32)]) (rest := [.int x2]) C X (cC_S_trait l E A ad q28.2 q38.2 q38.1 x1 (2 : Int32) e38) kX6_trait m_486 1 4 rfl rfl hl.1 rfl ⟨Nat.le_of_ble_eq_true rfl, Nat.le_of_ble_eq_true rfl⟩ rfl (Nat.le_of_ble_eq_true rfl) dX4_load_38 ⟨Nat.le_of_ble_eq_true rfl, Nat.le_of_ble_eq_true rfl⟩) rfl rfl (fun H locs X => ?_)
      obtain ⟨v41, e41, hf⟩ := g_le hf
      refine g_mabs C hl.1 m_490 m_491 m_80 m_492 (Nat.le_of_ble_eq_true rfl) (Nat.le_of_ble_eq_true rfl) (Nat.zero_le _) (Nat.zero_le _) e41 dX4_load_41 ?_
      refine lv_iadd hx hb dX4_load_44 ?_
      refine lv_istore_n (lv' := [(2, .int (x2 + v41)), (0, .ref (ad 1)), (1, .int x1)]) hx hb dX4_load_45 rfl hl (by decide) rfl (fun ls hl => ?_)
      exact j46 q38.2 x1 (x2 + v41) ls H locs hf (lv_sub hl [1, 2, 0] rfl) X
  unfold fC_Ru_load at hf
  refine lv_aload_n hx hb dX4_load_0 rfl (lv_at hl 0 rfl) ?_
  refine lv_iload_n hx hb dX4_load_1 rfl (lv_at hl 1 rfl) ?_
  refine lv_iconst (v := 1) hx hb dX4_load_2 (by decide) ?_
  obtain ⟨q3, e3, hf⟩ := g_be hf
  refine g_calli X (g_runV (As := [.int a1, .int (1 : Int32)]) (rest := []) C X (cC_S_isIn l E A ad w q3.2 q3.1 a1 (1 : Int32) e3) kX6_isIn m_532 1 4 rfl rfl hl.1 rfl ⟨Nat.le_of_ble_eq_true rfl, Nat.le_of_ble_eq_true rfl⟩ rfl (Nat.le_of_ble_eq_true rfl) dX4_load_3 ⟨Nat.le_of_ble_eq_true rfl, Nat.le_of_ble_eq_true rfl⟩) rfl rfl (fun H locs X => ?_)
  refine lv_if_ne (tgt := 11) hx hb dX4_load_6 (by decide) (fun c6 => ?_) (fun c6 => ?_)
  · have hf := g_f hf c6
    refine lv_iconst (v := 2) hx hb dX4_load_11 (by decide) ?_
    refine lv_istore_n (lv' := [(2, .int (2 : Int32)), (0, .ref (ad 1)), (1, .int a1)]) hx hb dX4_load_12 rfl hl (by decide) rfl (fun ls hl => ?_)
    refine lv_aload_n hx hb dX4_load_13 rfl (lv_at hl 1 rfl) ?_
    refine lv_iload_n hx hb dX4_load_14 rfl (lv_at hl 2 rfl) ?_
    refine lv_iconst (v := 2) hx hb dX4_load_15 (by decide) ?_
    obtain ⟨q16, e16, hf⟩ := g_be hf
    refine g_calli X (g_runV (As := [.int a1, .int (2 : Int32)]) (rest := []) C X (cC_S_isIn l E A ad q3.2 q16.2 q16.1 a1 (2 : Int32) e16) kX6_isIn m_532 1 4 rfl rfl hl.1 rfl ⟨Nat.le_of_ble_eq_true rfl, Nat.le_of_ble_eq_true rfl⟩ rfl (Nat.le_of_ble_eq_true rfl) dX4_load_16 ⟨Nat.le_of_ble_eq_true rfl, Nat.le_of_ble_eq_true rfl⟩) rfl rfl (fun H locs X => ?_)
    refine lv_if_eq (tgt := 25) hx hb dX4_load_19 (by decide) (fun c19 => ?_) (fun c19 => ?_)
    · have hf := g_t hf c19
      exact j25 q16.2 a1 (2 : Int32) ls H locs hf (lv_sub hl [1, 2, 0] rfl) X
    · have hf := g_f hf c19
      refine lv_iinc (v := (2 : Int32) + (3 : Int32)) (lv' := [(2, .int ((2 : Int32) + (3 : Int32))), (0, .ref (ad 1)), (1, .int a1)]) hx hb dX4_load_22 hl (k := 0) rfl rfl (by decide) rfl (fun ls hl => ?_)
      exact j25 q16.2 a1 ((2 : Int32) + (3 : Int32)) ls H locs hf (lv_sub hl [1, 2, 0] rfl) X
  · have hf := g_t hf c6
    refine lv_iconst (v := 0) hx hb dX4_load_9 (by decide) ?_
    exact g_iret (wsC E ad) C hr hk X hf dX4_load_10
set_option maxRecDepth 100000 in
set_option maxHeartbeats 4000000 in
theorem cC_Ru_putToRest (l : Launch) (E : g_Env) (A : Nat → Prop) (ad : Nat → Nat) (w : CS) (w' : CS) (a1 : Int32) (hf : fC_Ru_putToRest w a1 = some w') : g_Mv l yX4_putToRest cX4_putToRest 2 ({ frames := 2, cells := 0, slots := 0, locals := 45 }) E A [.ref (ad 1), .int a1] (wsC E ad w) (wsC E ad w') := by
  refine g_start (by decide) (Nat.le_of_ble_eq_true rfl) ?_
  intro p e s m below meth c C hr hk hnm ls hl H locs X
  have hx := C.1.1
  have hb := C.1.2.1
  have hl : lv_has ls 2 [(0, .ref (ad 1)), (1, .int a1)] := hl
  have j85 : ∀ (w : CS) (x1 : Int32) (ls : Array Slot) (H : Heap) (locs : List Loc), fC_Ru_putToRest_85 w x1 = some w' → lv_has ls 2 [(0, .ref (ad 1)), (1, .int x1)] → g_W E A s H locs (wsC E ad w) → W p l e ({ frames := 2, cells := 0, slots := 0, locals := 45 }) s m ([.ref (ad 1), .int a1] : List Value).toArray below meth c H locs 0 0 (MQ below (va_Qv (fun (u' : va_W) => u' = wsC E ad w') (g_B E A) A) ([.ref (ad 1), .int a1] : List Value).toArray s 0 0 A) (F0 m 85 ls []) := by
    intro w x1 ls H locs hf hl X
    unfold fC_Ru_putToRest_85 at hf
    refine lv_aload_n hx hb dX4_putToRest_85 rfl (lv_at hl 0 rfl) ?_
    refine lv_iload_n hx hb dX4_putToRest_86 rfl (lv_at hl 1 rfl) ?_
    refine lv_sipush (v := 1024) hx hb dX4_putToRest_87 (by decide) ?_
    obtain ⟨q90, e90, hf⟩ := g_be hf
    refine g_calli X (g_runV (As := [.int x1, .int (1024 : Int32)]) (rest := []) C X (cC_S_isIn l E A ad w q90.2 q90.1 x1 (1024 : Int32) e90) kX6_isIn m_532 1 4 rfl rfl hl.1 rfl ⟨Nat.le_of_ble_eq_true rfl, Nat.le_of_ble_eq_true rfl⟩ rfl (Nat.le_of_ble_eq_true rfl) dX4_putToRest_90 ⟨Nat.le_of_ble_eq_true rfl, Nat.le_of_ble_eq_true rfl⟩) rfl rfl (fun H locs X => ?_)
    refine lv_if_eq (tgt := 105) hx hb dX4_putToRest_93 (by decide) (fun c93 => ?_) (fun c93 => ?_)
    · have hf := g_t hf c93
      exact g_vret (wsC E ad) C hr hk X hf dX4_putToRest_105
    · have hf := g_f hf c93
      refine lv_aload_n hx hb dX4_putToRest_96 rfl (lv_at hl 0 rfl) ?_
      refine lv_iload_n hx hb dX4_putToRest_97 rfl (lv_at hl 1 rfl) ?_
      refine lv_bipush (v := 6) hx hb dX4_putToRest_98 (by decide) ?_
      refine lv_bipush (v := 100) hx hb dX4_putToRest_100 (by decide) ?_
      obtain ⟨q102, e102, hf⟩ := g_be hf
      refine g_callv X (g_runV (As := [.int x1, .int (6 : Int32), .int (100 : Int32)]) (rest := []) C X (cC_S_setTrait l E A ad q90.2 q102  x1 (6 : Int32) (100 : Int32) e102) kX6_setTrait m_501 1 4 rfl rfl hl.1 rfl ⟨Nat.le_of_ble_eq_true rfl, Nat.le_of_ble_eq_true rfl⟩ rfl (Nat.le_of_ble_eq_true rfl) dX4_putToRest_102 ⟨Nat.le_of_ble_eq_true rfl, Nat.le_of_ble_eq_true rfl⟩) rfl rfl (fun H locs X => ?_)
      exact g_vret (wsC E ad) C hr hk X hf dX4_putToRest_105
  have j66 : ∀ (w : CS) (x1 : Int32) (ls : Array Slot) (H : Heap) (locs : List Loc), fC_Ru_putToRest_66 w x1 = some w' → lv_has ls 2 [(0, .ref (ad 1)), (1, .int x1)] → g_W E A s H locs (wsC E ad w) → W p l e ({ frames := 2, cells := 0, slots := 0, locals := 45 }) s m ([.ref (ad 1), .int a1] : List Value).toArray below meth c H locs 0 0 (MQ below (va_Qv (fun (u' : va_W) => u' = wsC E ad w') (g_B E A) A) ([.ref (ad 1), .int a1] : List Value).toArray s 0 0 A) (F0 m 66 ls []) := by
    intro w x1 ls H locs hf hl X
    unfold fC_Ru_putToRest_66 at hf
    refine lv_aload_n hx hb dX4_putToRest_66 rfl (lv_at hl 0 rfl) ?_
    refine lv_iload_n hx hb dX4_putToRest_67 rfl (lv_at hl 1 rfl) ?_
    refine lv_sipush (v := 512) hx hb dX4_putToRest_68 (by decide) ?_
    obtain ⟨q71, e71, hf⟩ := g_be hf
    refine g_calli X (g_runV (As := [.int x1, .int (512 : Int32)]) (rest := []) C X (cC_S_isIn l E A ad w q71.2 q71.1 x1 (512 : Int32) e71) kX6_isIn m_532 1 4 rfl rfl hl.1 rfl ⟨Nat.le_of_ble_eq_true rfl, Nat.le_of_ble_eq_true rfl⟩ rfl (Nat.le_of_ble_eq_true rfl) dX4_putToRest_71 ⟨Nat.le_of_ble_eq_true rfl, Nat.le_of_ble_eq_true rfl⟩) rfl rfl (fun H locs X => ?_)
    refine lv_if_eq (tgt := 85) hx hb dX4_putToRest_74 (by decide) (fun c74 => ?_) (fun c74 => ?_)
    · have hf := g_t hf c74
      exact j85 q71.2 x1 ls H locs hf (lv_sub hl [0, 1] rfl) X
    · have hf := g_f hf c74
      refine lv_aload_n hx hb dX4_putToRest_77 rfl (lv_at hl 0 rfl) ?_
      refine lv_iload_n hx hb dX4_putToRest_78 rfl (lv_at hl 1 rfl) ?_
      refine lv_bipush (v := 6) hx hb dX4_putToRest_79 (by decide) ?_
      refine lv_iconst (v := 0) hx hb dX4_putToRest_81 (by decide) ?_
      obtain ⟨q82, e82, hf⟩ := g_be hf
      refine g_callv X (g_runV (As := [.int x1, .int (6 : Int32), .int (0 : Int32)]) (rest := []) C X (cC_S_setTrait l E A ad q71.2 q82  x1 (6 : Int32) (0 : Int32) e82) kX6_setTrait m_501 1 4 rfl rfl hl.1 rfl ⟨Nat.le_of_ble_eq_true rfl, Nat.le_of_ble_eq_true rfl⟩ rfl (Nat.le_of_ble_eq_true rfl) dX4_putToRest_82 ⟨Nat.le_of_ble_eq_true rfl, Nat.le_of_ble_eq_true rfl⟩) rfl rfl (fun H locs X => ?_)
      exact j85 q82 x1 ls H locs hf (lv_sub hl [0, 1] rfl) X
  have j41 : ∀ (w : CS) (x1 : Int32) (ls : Array Slot) (H : Heap) (locs : List Loc), fC_Ru_putToRest_41 w x1 = some w' → lv_has ls 2 [(0, .ref (ad 1)), (1, .int x1)] → g_W E A s H locs (wsC E ad w) → W p l e ({ frames := 2, cells := 0, slots := 0, locals := 45 }) s m ([.ref (ad 1), .int a1] : List Value).toArray below meth c H locs 0 0 (MQ below (va_Qv (fun (u' : va_W) => u' = wsC E ad w') (g_B E A) A) ([.ref (ad 1), .int a1] : List Value).toArray s 0 0 A) (F0 m 41 ls []) := by
    intro w x1 ls H locs hf hl X
    unfold fC_Ru_putToRest_41 at hf
    refine lv_aload_n hx hb dX4_putToRest_41 rfl (lv_at hl 0 rfl) ?_
    refine lv_iload_n hx hb dX4_putToRest_42 rfl (lv_at hl 1 rfl) ?_
    refine lv_sipush (v := 128) hx hb dX4_putToRest_43 (by decide) ?_
    obtain ⟨q46, e46, hf⟩ := g_be hf
    refine g_calli X (g_runV (As := [.int x1, .int (128 : Int32)]) (rest := []) C X (cC_S_isIn l E A ad w q46.2 q46.1 x1 (128 : Int32) e46) kX6_isIn m_532 1 4 rfl rfl hl.1 rfl ⟨Nat.le_of_ble_eq_true rfl, Nat.le_of_ble_eq_true rfl⟩ rfl (Nat.le_of_ble_eq_true rfl) dX4_putToRest_46 ⟨Nat.le_of_ble_eq_true rfl, Nat.le_of_ble_eq_true rfl⟩) rfl rfl (fun H locs X => ?_)
    refine lv_if_eq (tgt := 66) hx hb dX4_putToRest_49 (by decide) (fun c49 => ?_) (fun c49 => ?_)
    · have hf := g_t hf c49
      exact j66 q46.2 x1 ls H locs hf (lv_sub hl [0, 1] rfl) X
    · have hf := g_f hf c49
      refine lv_aload_n hx hb dX4_putToRest_52 rfl (lv_at hl 0 rfl) ?_
      refine lv_iload_n hx hb dX4_putToRest_53 rfl (lv_at hl 1 rfl) ?_
      refine lv_iconst (v := 2) hx hb dX4_putToRest_54 (by decide) ?_
      refine lv_aload_n hx hb dX4_putToRest_55 rfl (lv_at hl 0 rfl) ?_
      refine lv_iload_n hx hb dX4_putToRest_56 rfl (lv_at hl 1 rfl) ?_
      refine lv_iconst (v := 2) hx hb dX4_putToRest_57 (by decide) ?_
      obtain ⟨q58, e58, hf⟩ := g_be hf
      refine g_calli X (g_runV (As := [.int x1, .int (2 : Int32)]) (rest := [.int (2 : Int32), .int x1, .ref (ad 1)]) C X (cC_S_trait l E A ad q46.2 q58.2 q58.1 x1 (2 : Int32) e58) kX6_trait m_486 1 4 rfl rfl hl.1 rfl ⟨Nat.le_of_ble_eq_true rfl, Nat.le_of_ble_eq_true rfl⟩ rfl (Nat.le_of_ble_eq_true rfl) dX4_putToRest_58 ⟨Nat.le_of_ble_eq_true rfl, Nat.le_of_ble_eq_true rfl⟩) rfl rfl (fun H locs X => ?_)
      refine lv_iconst (v := 1) hx hb dX4_putToRest_61 (by decide) ?_
      refine lv_ishr hx hb dX4_putToRest_62 ?_
      obtain ⟨q63, e63, hf⟩ := g_be hf
      refine g_callv X (g_runV (As := [.int x1, .int (2 : Int32), .int (q58.1 >>> ((1 : Int32) &&& 31))]) (rest := []) C X (cC_S_setTrait l E A ad q58.2 q63  x1 (2 : Int32) (q58.1 >>> ((1 : Int32) &&& 31)) e63) kX6_setTrait m_501 1 4 rfl rfl hl.1 rfl ⟨Nat.le_of_ble_eq_true rfl, Nat.le_of_ble_eq_true rfl⟩ rfl (Nat.le_of_ble_eq_true rfl) dX4_putToRest_63 ⟨Nat.le_of_ble_eq_true rfl, Nat.le_of_ble_eq_true rfl⟩) rfl rfl (fun H locs X => ?_)
      exact j66 q63 x1 ls H locs hf (lv_sub hl [0, 1] rfl) X
  have j24 : ∀ (w : CS) (x1 : Int32) (ls : Array Slot) (H : Heap) (locs : List Loc), fC_Ru_putToRest_24 w x1 = some w' → lv_has ls 2 [(0, .ref (ad 1)), (1, .int x1)] → g_W E A s H locs (wsC E ad w) → W p l e ({ frames := 2, cells := 0, slots := 0, locals := 45 }) s m ([.ref (ad 1), .int a1] : List Value).toArray below meth c H locs 0 0 (MQ below (va_Qv (fun (u' : va_W) => u' = wsC E ad w') (g_B E A) A) ([.ref (ad 1), .int a1] : List Value).toArray s 0 0 A) (F0 m 24 ls []) := by
    intro w x1 ls H locs hf hl X
    unfold fC_Ru_putToRest_24 at hf
    refine lv_aload_n hx hb dX4_putToRest_24 rfl (lv_at hl 0 rfl) ?_
    refine lv_iload_n hx hb dX4_putToRest_25 rfl (lv_at hl 1 rfl) ?_
    refine lv_bipush (v := 32) hx hb dX4_putToRest_26 (by decide) ?_
    obtain ⟨q28, e28, hf⟩ := g_be hf
    refine g_calli X (g_runV (As := [.int x1, .int (32 : Int32)]) (rest := []) C X (cC_S_isIn l E A ad w q28.2 q28.1 x1 (32 : Int32) e28) kX6_isIn m_532 1 4 rfl rfl hl.1 rfl ⟨Nat.le_of_ble_eq_true rfl, Nat.le_of_ble_eq_true rfl⟩ rfl (Nat.le_of_ble_eq_true rfl) dX4_putToRest_28 ⟨Nat.le_of_ble_eq_true rfl, Nat.le_of_ble_eq_true rfl⟩) rfl rfl (fun H locs X => ?_)
    refine lv_if_eq (tgt := 41) hx hb dX4_putToRest_31 (by decide) (fun c31 => ?_) (fun c31 => ?_)
    · have hf := g_t hf c31
      exact j41 q28.2 x1 ls H locs hf (lv_sub hl [0, 1] rfl) X
    · have hf := g_f hf c31
      refine lv_aload_n hx hb dX4_putToRest_34 rfl (lv_at hl 0 rfl) ?_
      refine lv_iload_n hx hb dX4_putToRest_35 rfl (lv_at hl 1 rfl) ?_
      refine lv_iconst (v := 5) hx hb dX4_putToRest_36 (by decide) ?_
      refine lv_iconst (v := 0) hx hb dX4_putToRest_37 (by decide) ?_
      obtain ⟨q38, e38, hf⟩ := g_be hf
      refine g_callv X (g_runV (As := [.int x1, .int (5 : Int32), .int (0 : Int32)]) (rest := []) C X (cC_S_setTrait l E A ad q28.2 q38  x1 (5 : Int32) (0 : Int32) e38) kX6_setTrait m_501 1 4 rfl rfl hl.1 rfl ⟨Nat.le_of_ble_eq_true rfl, Nat.le_of_ble_eq_true rfl⟩ rfl (Nat.le_of_ble_eq_true rfl) dX4_putToRest_38 ⟨Nat.le_of_ble_eq_true rfl, Nat.le_of_ble_eq_true rfl⟩) rfl rfl (fun H locs X => ?_)
      exact j41 q38 x1 ls H locs hf (lv_sub hl [0, 1] rfl) X
  unfold fC_Ru_putToRest at hf
  refine lv_aload_n hx hb dX4_putToRest_0 rfl (lv_at hl 0 rfl) ?_
  refine lv_iload_n hx hb dX4_putToRest_1 rfl (lv_at hl 1 rfl) ?_
  refine lv_iconst (v := 3) hx hb dX4_putToRest_2 (by decide) ?_
  refine lv_iconst (v := 0) hx hb dX4_putToRest_3 (by decide) ?_
  obtain ⟨q4, e4, hf⟩ := g_be hf
  refine g_callv X (g_runV (As := [.int a1, .int (3 : Int32), .int (0 : Int32)]) (rest := []) C X (cC_S_setTrait l E A ad w q4  a1 (3 : Int32) (0 : Int32) e4) kX6_setTrait m_501 1 4 rfl rfl hl.1 rfl ⟨Nat.le_of_ble_eq_true rfl, Nat.le_of_ble_eq_true rfl⟩ rfl (Nat.le_of_ble_eq_true rfl) dX4_putToRest_4 ⟨Nat.le_of_ble_eq_true rfl, Nat.le_of_ble_eq_true rfl⟩) rfl rfl (fun H locs X => ?_)
  refine lv_aload_n hx hb dX4_putToRest_7 rfl (lv_at hl 0 rfl) ?_
  refine lv_iload_n hx hb dX4_putToRest_8 rfl (lv_at hl 1 rfl) ?_
  refine lv_bipush (v := 16) hx hb dX4_putToRest_9 (by decide) ?_
  obtain ⟨q11, e11, hf⟩ := g_be hf
  refine g_calli X (g_runV (As := [.int a1, .int (16 : Int32)]) (rest := []) C X (cC_S_isIn l E A ad q4 q11.2 q11.1 a1 (16 : Int32) e11) kX6_isIn m_532 1 4 rfl rfl hl.1 rfl ⟨Nat.le_of_ble_eq_true rfl, Nat.le_of_ble_eq_true rfl⟩ rfl (Nat.le_of_ble_eq_true rfl) dX4_putToRest_11 ⟨Nat.le_of_ble_eq_true rfl, Nat.le_of_ble_eq_true rfl⟩) rfl rfl (fun H locs X => ?_)
  refine lv_if_eq (tgt := 24) hx hb dX4_putToRest_14 (by decide) (fun c14 => ?_) (fun c14 => ?_)
  · have hf := g_t hf c14
    exact j24 q11.2 a1 ls H locs hf (lv_sub hl [0, 1] rfl) X
  · have hf := g_f hf c14
    refine lv_aload_n hx hb dX4_putToRest_17 rfl (lv_at hl 0 rfl) ?_
    refine lv_iload_n hx hb dX4_putToRest_18 rfl (lv_at hl 1 rfl) ?_
    refine lv_iconst (v := 4) hx hb dX4_putToRest_19 (by decide) ?_
    refine lv_iconst (v := 0) hx hb dX4_putToRest_20 (by decide) ?_
    obtain ⟨q21, e21, hf⟩ := g_be hf
    refine g_callv X (g_runV (As := [.int a1, .int (4 : Int32), .int (0 : Int32)]) (rest := []) C X (cC_S_setTrait l E A ad q11.2 q21  a1 (4 : Int32) (0 : Int32) e21) kX6_setTrait m_501 1 4 rfl rfl hl.1 rfl ⟨Nat.le_of_ble_eq_true rfl, Nat.le_of_ble_eq_true rfl⟩ rfl (Nat.le_of_ble_eq_true rfl) dX4_putToRest_21 ⟨Nat.le_of_ble_eq_true rfl, Nat.le_of_ble_eq_true rfl⟩) rfl rfl (fun H locs X => ?_)
    exact j24 q21 a1 ls H locs hf (lv_sub hl [0, 1] rfl) X
set_option maxRecDepth 100000 in
set_option maxHeartbeats 4000000 in
theorem cC_Ru_resound (l : Launch) (E : g_Env) (A : Nat → Prop) (ad : Nat → Nat) (w : CS) (w' : CS) (r : Int32) (a1 : Int32) (a2 : Int32) (hf : fC_Ru_resound w a1 a2 = some (r, w')) : g_Mi l yX4_resound cX4_resound 3 ((some .int)) ({ frames := 1, cells := 0, slots := 0, locals := 24 }) E A [.ref (ad 1), .int a1, .int a2] (wsC E ad w) r (wsC E ad w') := by
  refine g_start (by decide) (Nat.le_of_ble_eq_true rfl) ?_
  intro p e s m below meth c C hr hk hnm ls hl H locs X
  have hx := C.1.1
  have hb := C.1.2.1
  have hl : lv_has ls 3 [(0, .ref (ad 1)), (1, .int a1), (2, .int a2)] := hl
  unfold fC_Ru_resound at hf
  refine lv_aload_n hx hb dX4_resound_0 rfl (lv_at hl 0 rfl) ?_
  refine lv_iload_n hx hb dX4_resound_1 rfl (lv_at hl 1 rfl) ?_
  refine lv_iconst (v := 5) hx hb dX4_resound_2 (by decide) ?_
  refine lv_iload_n hx hb dX4_resound_3 rfl (lv_at hl 2 rfl) ?_
  refine lv_iconst (v := 3) hx hb dX4_resound_4 (by decide) ?_
  refine lv_ishr hx hb dX4_resound_5 ?_
  obtain ⟨q6, e6, hf⟩ := g_be hf
  refine g_callv X (g_runV (As := [.int a1, .int (5 : Int32), .int (a2 >>> ((3 : Int32) &&& 31))]) (rest := []) C X (cC_S_grow l E A ad w q6  a1 (5 : Int32) (a2 >>> ((3 : Int32) &&& 31)) e6) kX6_grow m_482 1 4 rfl rfl hl.1 rfl ⟨Nat.le_of_ble_eq_true rfl, Nat.le_of_ble_eq_true rfl⟩ rfl (Nat.le_of_ble_eq_true rfl) dX4_resound_6 ⟨Nat.le_of_ble_eq_true rfl, Nat.le_of_ble_eq_true rfl⟩) rfl rfl (fun H locs X => ?_)
  refine lv_iload_n hx hb dX4_resound_9 rfl (lv_at hl 2 rfl) ?_
  refine lv_aload_n hx hb dX4_resound_10 rfl (lv_at hl 0 rfl) ?_
  refine lv_iload_n hx hb dX4_resound_11 rfl (lv_at hl 1 rfl) ?_
  refine lv_bipush (v := 8) hx hb dX4_resound_12 (by decide) ?_
  obtain ⟨q14, e14, hf⟩ := g_be hf
  refine g_calli X (g_runV (As := [.int a1, .int (8 : Int32)]) (rest := [.int a2]) C X (cC_S_trait l E A ad q6 q14.2 q14.1 a1 (8 : Int32) e14) kX6_trait m_486 1 4 rfl rfl hl.1 rfl ⟨Nat.le_of_ble_eq_true rfl, Nat.le_of_ble_eq_true rfl⟩ rfl (Nat.le_of_ble_eq_true rfl) dX4_resound_14 ⟨Nat.le_of_ble_eq_true rfl, Nat.le_of_ble_eq_true rfl⟩) rfl rfl (fun H locs X => ?_)
  refine lv_icmp_le (tgt := 28) hx hb dX4_resound_17 (by decide) (fun c17 => ?_) (fun c17 => ?_)
  · have hf := g_t hf c17
    refine lv_iload_n hx hb dX4_resound_28 rfl (lv_at hl 2 rfl) ?_
    exact g_iret (wsC E ad) C hr hk X hf dX4_resound_29
  · have hf := g_f hf c17
    refine lv_aload_n hx hb dX4_resound_20 rfl (lv_at hl 0 rfl) ?_
    refine lv_iload_n hx hb dX4_resound_21 rfl (lv_at hl 1 rfl) ?_
    refine lv_bipush (v := 8) hx hb dX4_resound_22 (by decide) ?_
    refine lv_iload_n hx hb dX4_resound_24 rfl (lv_at hl 2 rfl) ?_
    obtain ⟨q25, e25, hf⟩ := g_be hf
    refine g_callv X (g_runV (As := [.int a1, .int (8 : Int32), .int a2]) (rest := []) C X (cC_S_setTrait l E A ad q14.2 q25  a1 (8 : Int32) a2 e25) kX6_setTrait m_501 1 4 rfl rfl hl.1 rfl ⟨Nat.le_of_ble_eq_true rfl, Nat.le_of_ble_eq_true rfl⟩ rfl (Nat.le_of_ble_eq_true rfl) dX4_resound_25 ⟨Nat.le_of_ble_eq_true rfl, Nat.le_of_ble_eq_true rfl⟩) rfl rfl (fun H locs X => ?_)
    refine lv_iload_n hx hb dX4_resound_28 rfl (lv_at hl 2 rfl) ?_
    exact g_iret (wsC E ad) C hr hk X hf dX4_resound_29
set_option maxRecDepth 100000 in
set_option maxHeartbeats 4000000 in
theorem cC_Ru_tick (l : Launch) (E : g_Env) (A : Nat → Prop) (ad : Nat → Nat) (w : CS) (w' : CS) (r : Int32) (a1 : Int32) (a2 : Int32) (hf : fC_Ru_tick w a1 a2 = some (r, w')) : g_Mi l yX4_tick cX4_tick 3 ((some .int)) ({ frames := 2, cells := 0, slots := 0, locals := 45 }) E A [.ref (ad 1), .int a1, .int a2] (wsC E ad w) r (wsC E ad w') := by
  refine g_start (by decide) (Nat.le_of_ble_eq_true rfl) ?_
  intro p e s m below meth c C hr hk hnm ls hl H locs X
  have hx := C.1.1
  have hb := C.1.2.1
  have hl : lv_has ls 3 [(0, .ref (ad 1)), (1, .int a1), (2, .int a2)] := hl
  unfold fC_Ru_tick at hf
  refine lv_aload_n hx hb dX4_tick_0 rfl (lv_at hl 0 rfl) ?_
  refine lv_iload_n hx hb dX4_tick_1 rfl (lv_at hl 1 rfl) ?_
  refine lv_sipush (v := 1024) hx hb dX4_tick_2 (by decide) ?_
  obtain ⟨q5, e5, hf⟩ := g_be hf
  refine g_calli X (g_runV (As := [.int a1, .int (1024 : Int32)]) (rest := []) C X (cC_S_isIn l E A ad w q5.2 q5.1 a1 (1024 : Int32) e5) kX6_isIn m_532 1 4 rfl rfl hl.1 rfl ⟨Nat.le_of_ble_eq_true rfl, Nat.le_of_ble_eq_true rfl⟩ rfl (Nat.le_of_ble_eq_true rfl) dX4_tick_5 ⟨Nat.le_of_ble_eq_true rfl, Nat.le_of_ble_eq_true rfl⟩) rfl rfl (fun H locs X => ?_)
  refine lv_if_eq (tgt := 29) hx hb dX4_tick_8 (by decide) (fun c8 => ?_) (fun c8 => ?_)
  · have hf := g_t hf c8
    refine lv_aload_n hx hb dX4_tick_29 rfl (lv_at hl 0 rfl) ?_
    refine lv_iload_n hx hb dX4_tick_30 rfl (lv_at hl 1 rfl) ?_
    refine lv_bipush (v := 9) hx hb dX4_tick_31 (by decide) ?_
    refine lv_iconst (v := 3) hx hb dX4_tick_33 (by decide) ?_
    refine lv_aload_n hx hb dX4_tick_34 rfl (lv_at hl 0 rfl) ?_
    refine lv_iload_n hx hb dX4_tick_35 rfl (lv_at hl 1 rfl) ?_
    refine lv_bipush (v := 9) hx hb dX4_tick_36 (by decide) ?_
    obtain ⟨q38, e38, hf⟩ := g_be hf
    refine g_calli X (g_runV (As := [.int a1, .int (9 : Int32)]) (rest := [.int (3 : Int32), .int (9 : Int32), .int a1, .ref (ad 1)]) C X (cC_S_trait l E A ad q5.2 q38.2 q38.1 a1 (9 : Int32) e38) kX6_trait m_486 1 4 rfl rfl hl.1 rfl ⟨Nat.le_of_ble_eq_true rfl, Nat.le_of_ble_eq_true rfl⟩ rfl (Nat.le_of_ble_eq_true rfl) dX4_tick_38 ⟨Nat.le_of_ble_eq_true rfl, Nat.le_of_ble_eq_true rfl⟩) rfl rfl (fun H locs X => ?_)
    refine lv_imul hx hb dX4_tick_41 ?_
    refine lv_iload_n hx hb dX4_tick_42 rfl (lv_at hl 2 rfl) ?_
    refine lv_iadd hx hb dX4_tick_43 ?_
    obtain ⟨q44, e44, hf⟩ := g_be hf
    refine g_callv X (g_runV (As := [.int a1, .int (9 : Int32), .int (((3 : Int32) * q38.1) + a2)]) (rest := []) C X (cC_S_setTrait l E A ad q38.2 q44  a1 (9 : Int32) (((3 : Int32) * q38.1) + a2) e44) kX6_setTrait m_501 1 4 rfl rfl hl.1 rfl ⟨Nat.le_of_ble_eq_true rfl, Nat.le_of_ble_eq_true rfl⟩ rfl (Nat.le_of_ble_eq_true rfl) dX4_tick_44 ⟨Nat.le_of_ble_eq_true rfl, Nat.le_of_ble_eq_true rfl⟩) rfl rfl (fun H locs X => ?_)
    refine lv_aload_n hx hb dX4_tick_47 rfl (lv_at hl 0 rfl) ?_
    refine lv_iload_n hx hb dX4_tick_48 rfl (lv_at hl 1 rfl) ?_
    refine lv_bipush (v := 9) hx hb dX4_tick_49 (by decide) ?_
    obtain ⟨q51, e51, hf⟩ := g_be hf
    refine g_calli X (g_runV (As := [.int a1, .int (9 : Int32)]) (rest := []) C X (cC_S_trait l E A ad q44 q51.2 q51.1 a1 (9 : Int32) e51) kX6_trait m_486 1 4 rfl rfl hl.1 rfl ⟨Nat.le_of_ble_eq_true rfl, Nat.le_of_ble_eq_true rfl⟩ rfl (Nat.le_of_ble_eq_true rfl) dX4_tick_51 ⟨Nat.le_of_ble_eq_true rfl, Nat.le_of_ble_eq_true rfl⟩) rfl rfl (fun H locs X => ?_)
    exact g_iret (wsC E ad) C hr hk X hf dX4_tick_54
  · have hf := g_f hf c8
    refine lv_aload_n hx hb dX4_tick_11 rfl (lv_at hl 0 rfl) ?_
    refine lv_iload_n hx hb dX4_tick_12 rfl (lv_at hl 1 rfl) ?_
    refine lv_bipush (v := 6) hx hb dX4_tick_13 (by decide) ?_
    refine lv_iload_n hx hb dX4_tick_15 rfl (lv_at hl 2 rfl) ?_
    refine lv_iconst (v := 1) hx hb dX4_tick_16 (by decide) ?_
    refine lv_iadd hx hb dX4_tick_17 ?_
    obtain ⟨q18, e18, hf⟩ := g_be hf
    refine g_callv X (g_runV (As := [.int a1, .int (6 : Int32), .int (a2 + (1 : Int32))]) (rest := []) C X (cC_S_grow l E A ad q5.2 q18  a1 (6 : Int32) (a2 + (1 : Int32)) e18) kX6_grow m_482 1 4 rfl rfl hl.1 rfl ⟨Nat.le_of_ble_eq_true rfl, Nat.le_of_ble_eq_true rfl⟩ rfl (Nat.le_of_ble_eq_true rfl) dX4_tick_18 ⟨Nat.le_of_ble_eq_true rfl, Nat.le_of_ble_eq_true rfl⟩) rfl rfl (fun H locs X => ?_)
    refine lv_aload_n hx hb dX4_tick_21 rfl (lv_at hl 0 rfl) ?_
    refine lv_iload_n hx hb dX4_tick_22 rfl (lv_at hl 1 rfl) ?_
    refine lv_bipush (v := 6) hx hb dX4_tick_23 (by decide) ?_
    obtain ⟨q25, e25, hf⟩ := g_be hf
    refine g_calli X (g_runV (As := [.int a1, .int (6 : Int32)]) (rest := []) C X (cC_S_trait l E A ad q18 q25.2 q25.1 a1 (6 : Int32) e25) kX6_trait m_486 1 4 rfl rfl hl.1 rfl ⟨Nat.le_of_ble_eq_true rfl, Nat.le_of_ble_eq_true rfl⟩ rfl (Nat.le_of_ble_eq_true rfl) dX4_tick_25 ⟨Nat.le_of_ble_eq_true rfl, Nat.le_of_ble_eq_true rfl⟩) rfl rfl (fun H locs X => ?_)
    exact g_iret (wsC E ad) C hr hk X hf dX4_tick_28
set_option maxRecDepth 100000 in
set_option maxHeartbeats 4000000 in
theorem cC_Ru_ticksBy (l : Launch) (E : g_Env) (A : Nat → Prop) (ad : Nat → Nat) (w : CS) (w' : CS) (r : Int32) (a1 : Int32) (a2 : Int32) (hf : fC_Ru_ticksBy w a1 a2 = some (r, w')) : g_Mi l yX4_ticksBy cX4_ticksBy 5 ((some .int)) ({ frames := 3, cells := 0, slots := 0, locals := 67 }) E A [.ref (ad 1), .int a1, .int a2] (wsC E ad w) r (wsC E ad w') := by
  refine g_start (by decide) (Nat.le_of_ble_eq_true rfl) ?_
  intro p e s m below meth c C hr hk hnm ls hl H locs X
  have hx := C.1.1
  have hb := C.1.2.1
  have hl : lv_has ls 5 [(0, .ref (ad 1)), (1, .int a1), (2, .int a2)] := hl
  have j12 : ∀ (n : Nat) (w : CS) (x1 : Int32) (x2 : Int32) (x3 : Int32) (x4 : Int32) (ls : Array Slot) (H : Heap) (locs : List Loc), fC_Ru_ticksBy_12 n w x1 x2 x3 x4 = some (r, w') → lv_has ls 5 [(0, .ref (ad 1)), (1, .int x1), (2, .int x2), (3, .int x3), (4, .int x4)] → g_W E A s H locs (wsC E ad w) → W p l e ({ frames := 3, cells := 0, slots := 0, locals := 67 }) s m ([.ref (ad 1), .int a1, .int a2] : List Value).toArray below meth c H locs 0 0 (MQ below (va_Qi (fun (r' : Int32) (u' : va_W) => r' = r ∧ u' = wsC E ad w') (g_B E A) A) ([.ref (ad 1), .int a1, .int a2] : List Value).toArray s 0 0 A) (F0 m 12 ls []) := by
    intro n
    induction n with
    | zero => intro w x1 x2 x3 x4 ls H locs hf; exact absurd hf (by simp [fC_Ru_ticksBy_12])
    | succ n12 ih12 =>
      intro w x1 x2 x3 x4 ls H locs hf hl X
      unfold fC_Ru_ticksBy_12 at hf
      refine lv_iload hx hb dX4_ticksBy_12 (lv_at hl 4 rfl) ?_
      refine lv_iload_n hx hb dX4_ticksBy_14 rfl (lv_at hl 2 rfl) ?_
      refine lv_icmp_ge (tgt := 34) hx hb dX4_ticksBy_15 (by decide) (fun c15 => ?_) (fun c15 => ?_)
      · have hf := g_t hf c15
        refine lv_iload_n hx hb dX4_ticksBy_34 rfl (lv_at hl 3 rfl) ?_
        exact g_iret (wsC E ad) C hr hk X hf dX4_ticksBy_35
      · have hf := g_f hf c15
        refine lv_iload_n hx hb dX4_ticksBy_18 rfl (lv_at hl 3 rfl) ?_
        refine lv_aload_n hx hb dX4_ticksBy_19 rfl (lv_at hl 0 rfl) ?_
        refine lv_iload_n hx hb dX4_ticksBy_20 rfl (lv_at hl 1 rfl) ?_
        refine lv_iload hx hb dX4_ticksBy_21 (lv_at hl 4 rfl) ?_
        obtain ⟨q23, e23, hf⟩ := g_be hf
        refine g_calli X (g_runS (As := [.ref (ad 1), .int x1, .int x4]) (rest := [.int x3]) C X (cC_Ru_tick l E A ad w q23.2 q23.1 x1 x4 e23) kX4_tick m_529 hl.1 rfl ⟨Nat.le_of_ble_eq_true rfl, Nat.le_of_ble_eq_true rfl⟩ rfl (Nat.le_of_ble_eq_true rfl) dX4_ticksBy_23 ⟨Nat.le_of_ble_eq_true rfl, Nat.le_of_ble_eq_true rfl⟩) rfl rfl (fun H locs X => ?_)
        refine lv_iadd hx hb dX4_ticksBy_26 ?_
        refine lv_istore_n (lv' := [(3, .int (x3 + q23.1)), (0, .ref (ad 1)), (1, .int x1), (2, .int x2), (4, .int x4)]) hx hb dX4_ticksBy_27 rfl hl (by decide) rfl (fun ls hl => ?_)
        refine lv_iinc (v := x4 + (1 : Int32)) (lv' := [(4, .int (x4 + (1 : Int32))), (3, .int (x3 + q23.1)), (0, .ref (ad 1)), (1, .int x1), (2, .int x2)]) hx hb dX4_ticksBy_28 hl (k := 4) rfl rfl (by decide) rfl (fun ls hl => ?_)
        refine lv_goto (tgt := 12) hx hb dX4_ticksBy_31 (by decide) ?_
        exact ih12 q23.2 x1 x2 (x3 + q23.1) (x4 + (1 : Int32)) ls H locs hf (lv_sub hl [2, 3, 4, 1, 0] rfl) X
  unfold fC_Ru_ticksBy at hf
  refine lv_iload_n hx hb dX4_ticksBy_0 rfl (lv_at hl 1 rfl) ?_
  refine lv_iconst (v := -1) hx hb dX4_ticksBy_1 (by decide) ?_
  refine lv_icmp_ne (tgt := 7) hx hb dX4_ticksBy_2 (by decide) (fun c2 => ?_) (fun c2 => ?_)
  · have hf := g_f hf c2
    refine lv_iconst (v := 0) hx hb dX4_ticksBy_7 (by decide) ?_
    refine lv_istore_n (lv' := [(3, .int (0 : Int32)), (0, .ref (ad 1)), (1, .int a1), (2, .int a2)]) hx hb dX4_ticksBy_8 rfl hl (by decide) rfl (fun ls hl => ?_)
    refine lv_iconst (v := 0) hx hb dX4_ticksBy_9 (by decide) ?_
    refine lv_istore (lv' := [(4, .int (0 : Int32)), (3, .int (0 : Int32)), (0, .ref (ad 1)), (1, .int a1), (2, .int a2)]) hx hb dX4_ticksBy_10 hl (by decide) rfl (fun ls hl => ?_)
    exact j12 g_fuel w a1 a2 (0 : Int32) (0 : Int32) ls H locs hf (lv_sub hl [2, 3, 4, 1, 0] rfl) X
  · have hf := g_t hf c2
    refine lv_iconst (v := 0) hx hb dX4_ticksBy_5 (by decide) ?_
    exact g_iret (wsC E ad) C hr hk X hf dX4_ticksBy_6
set_option maxRecDepth 100000 in
set_option maxHeartbeats 4000000 in
theorem cC_Ru_turn (l : Launch) (E : g_Env) (A : Nat → Prop) (ad : Nat → Nat) (w : CS) (w' : CS) (r : Int32) (a1 : Int32) (a2 : Int32) (hf : fC_Ru_turn w a1 a2 = some (r, w')) : g_Mi l yX4_turn cX4_turn 3 ((some .int)) ({ frames := 2, cells := 0, slots := 0, locals := 53 }) E A [.ref (ad 1), .int a1, .int a2] (wsC E ad w) r (wsC E ad w') := by
  refine g_start (by decide) (Nat.le_of_ble_eq_true rfl) ?_
  intro p e s m below meth c C hr hk hnm ls hl H locs X
  have hx := C.1.1
  have hb := C.1.2.1
  have hl : lv_has ls 3 [(0, .ref (ad 1)), (1, .int a1), (2, .int a2)] := hl
  unfold fC_Ru_turn at hf
  refine lv_aload_n hx hb dX4_turn_0 rfl (lv_at hl 0 rfl) ?_
  refine lv_iload_n hx hb dX4_turn_1 rfl (lv_at hl 1 rfl) ?_
  refine lv_iconst (v := 3) hx hb dX4_turn_2 (by decide) ?_
  refine lv_iconst (v := 1) hx hb dX4_turn_3 (by decide) ?_
  obtain ⟨q4, e4, hf⟩ := g_be hf
  refine g_callv X (g_runV (As := [.int a1, .int (3 : Int32), .int (1 : Int32)]) (rest := []) C X (cC_S_grow l E A ad w q4  a1 (3 : Int32) (1 : Int32) e4) kX6_grow m_482 1 4 rfl rfl hl.1 rfl ⟨Nat.le_of_ble_eq_true rfl, Nat.le_of_ble_eq_true rfl⟩ rfl (Nat.le_of_ble_eq_true rfl) dX4_turn_4 ⟨Nat.le_of_ble_eq_true rfl, Nat.le_of_ble_eq_true rfl⟩) rfl rfl (fun H locs X => ?_)
  refine lv_aload_n hx hb dX4_turn_7 rfl (lv_at hl 0 rfl) ?_
  refine lv_iload_n hx hb dX4_turn_8 rfl (lv_at hl 1 rfl) ?_
  refine lv_iconst (v := 0) hx hb dX4_turn_9 (by decide) ?_
  obtain ⟨q10, e10, hf⟩ := g_be hf
  refine g_calli X (g_runV (As := [.int a1, .int (0 : Int32)]) (rest := []) C X (cC_S_trait l E A ad q4 q10.2 q10.1 a1 (0 : Int32) e10) kX6_trait m_486 1 4 rfl rfl hl.1 rfl ⟨Nat.le_of_ble_eq_true rfl, Nat.le_of_ble_eq_true rfl⟩ rfl (Nat.le_of_ble_eq_true rfl) dX4_turn_10 ⟨Nat.le_of_ble_eq_true rfl, Nat.le_of_ble_eq_true rfl⟩) rfl rfl (fun H locs X => ?_)
  by_cases s13_0 : q10.1 = (2 : Int32)
  · have hf := g_t hf s13_0
    refine g_tabIn (tgt := 64) hx hb s13_0 dX4_turn_13 (by decide) (by decide) rfl (by decide) ?_
    refine lv_aload_n hx hb dX4_turn_64 rfl (lv_at hl 0 rfl) ?_
    refine lv_iload_n hx hb dX4_turn_65 rfl (lv_at hl 1 rfl) ?_
    refine lv_iload_n hx hb dX4_turn_66 rfl (lv_at hl 2 rfl) ?_
    obtain ⟨q67, e67, hf⟩ := g_be hf
    refine g_calli X (g_runS (As := [.ref (ad 1), .int a1, .int a2]) (rest := []) C X (cC_Ru_clip l E A ad q10.2 q67.2 q67.1 a1 a2 e67) kX4_clip m_487 hl.1 rfl ⟨Nat.le_of_ble_eq_true rfl, Nat.le_of_ble_eq_true rfl⟩ rfl (Nat.le_of_ble_eq_true rfl) dX4_turn_67 ⟨Nat.le_of_ble_eq_true rfl, Nat.le_of_ble_eq_true rfl⟩) rfl rfl (fun H locs X => ?_)
    exact g_iret (wsC E ad) C hr hk X hf dX4_turn_70
  have hf := g_f hf s13_0
  by_cases s13_1 : q10.1 = (3 : Int32)
  · have hf := g_t hf s13_1
    refine g_tabIn (tgt := 64) hx hb s13_1 dX4_turn_13 (by decide) (by decide) rfl (by decide) ?_
    refine lv_aload_n hx hb dX4_turn_64 rfl (lv_at hl 0 rfl) ?_
    refine lv_iload_n hx hb dX4_turn_65 rfl (lv_at hl 1 rfl) ?_
    refine lv_iload_n hx hb dX4_turn_66 rfl (lv_at hl 2 rfl) ?_
    obtain ⟨q67, e67, hf⟩ := g_be hf
    refine g_calli X (g_runS (As := [.ref (ad 1), .int a1, .int a2]) (rest := []) C X (cC_Ru_clip l E A ad q10.2 q67.2 q67.1 a1 a2 e67) kX4_clip m_487 hl.1 rfl ⟨Nat.le_of_ble_eq_true rfl, Nat.le_of_ble_eq_true rfl⟩ rfl (Nat.le_of_ble_eq_true rfl) dX4_turn_67 ⟨Nat.le_of_ble_eq_true rfl, Nat.le_of_ble_eq_true rfl⟩) rfl rfl (fun H locs X => ?_)
    exact g_iret (wsC E ad) C hr hk X hf dX4_turn_70
  have hf := g_f hf s13_1
  by_cases s13_2 : q10.1 = (4 : Int32)
  · have hf := g_t hf s13_2
    refine g_tabIn (tgt := 71) hx hb s13_2 dX4_turn_13 (by decide) (by decide) rfl (by decide) ?_
    refine lv_aload_n hx hb dX4_turn_71 rfl (lv_at hl 0 rfl) ?_
    refine lv_iload_n hx hb dX4_turn_72 rfl (lv_at hl 1 rfl) ?_
    refine lv_iload_n hx hb dX4_turn_73 rfl (lv_at hl 2 rfl) ?_
    refine lv_aload_n hx hb dX4_turn_74 rfl (lv_at hl 0 rfl) ?_
    refine lv_iload_n hx hb dX4_turn_75 rfl (lv_at hl 1 rfl) ?_
    refine lv_iload_n hx hb dX4_turn_76 rfl (lv_at hl 2 rfl) ?_
    obtain ⟨q77, e77, hf⟩ := g_be hf
    refine g_calli X (g_runS (As := [.ref (ad 1), .int a1, .int a2]) (rest := [.int a2, .int a1, .ref (ad 1)]) C X (cC_Ru_clip l E A ad q10.2 q77.2 q77.1 a1 a2 e77) kX4_clip m_487 hl.1 rfl ⟨Nat.le_of_ble_eq_true rfl, Nat.le_of_ble_eq_true rfl⟩ rfl (Nat.le_of_ble_eq_true rfl) dX4_turn_77 ⟨Nat.le_of_ble_eq_true rfl, Nat.le_of_ble_eq_true rfl⟩) rfl rfl (fun H locs X => ?_)
    obtain ⟨q80, e80, hf⟩ := g_be hf
    refine g_calli X (g_runS (As := [.ref (ad 1), .int a1, .int a2, .int q77.1]) (rest := []) C X (cC_Ru_bend l E A ad q77.2 q80.2 q80.1 a1 a2 q77.1 e80) kX4_bend m_495 hl.1 rfl ⟨Nat.le_of_ble_eq_true rfl, Nat.le_of_ble_eq_true rfl⟩ rfl (Nat.le_of_ble_eq_true rfl) dX4_turn_80 ⟨Nat.le_of_ble_eq_true rfl, Nat.le_of_ble_eq_true rfl⟩) rfl rfl (fun H locs X => ?_)
    exact g_iret (wsC E ad) C hr hk X hf dX4_turn_83
  have hf := g_f hf s13_2
  by_cases s13_3 : q10.1 = (5 : Int32)
  · have hf := g_t hf s13_3
    refine g_tabIn (tgt := 110) hx hb s13_3 dX4_turn_13 (by decide) (by decide) rfl (by decide) ?_
    refine lv_iload_n hx hb dX4_turn_110 rfl (lv_at hl 2 rfl) ?_
    exact g_iret (wsC E ad) C hr hk X hf dX4_turn_111
  have hf := g_f hf s13_3
  by_cases s13_4 : q10.1 = (6 : Int32)
  · have hf := g_t hf s13_4
    refine g_tabIn (tgt := 110) hx hb s13_4 dX4_turn_13 (by decide) (by decide) rfl (by decide) ?_
    refine lv_iload_n hx hb dX4_turn_110 rfl (lv_at hl 2 rfl) ?_
    exact g_iret (wsC E ad) C hr hk X hf dX4_turn_111
  have hf := g_f hf s13_4
  by_cases s13_5 : q10.1 = (7 : Int32)
  · have hf := g_t hf s13_5
    refine g_tabIn (tgt := 84) hx hb s13_5 dX4_turn_13 (by decide) (by decide) rfl (by decide) ?_
    refine lv_aload_n hx hb dX4_turn_84 rfl (lv_at hl 0 rfl) ?_
    refine lv_iload_n hx hb dX4_turn_85 rfl (lv_at hl 1 rfl) ?_
    refine lv_iload_n hx hb dX4_turn_86 rfl (lv_at hl 2 rfl) ?_
    obtain ⟨q87, e87, hf⟩ := g_be hf
    refine g_calli X (g_runS (As := [.ref (ad 1), .int a1, .int a2]) (rest := []) C X (cC_Ru_echo l E A ad q10.2 q87.2 q87.1 a1 a2 e87) kX4_echo m_498 hl.1 rfl ⟨Nat.le_of_ble_eq_true rfl, Nat.le_of_ble_eq_true rfl⟩ rfl (Nat.le_of_ble_eq_true rfl) dX4_turn_87 ⟨Nat.le_of_ble_eq_true rfl, Nat.le_of_ble_eq_true rfl⟩) rfl rfl (fun H locs X => ?_)
    exact g_iret (wsC E ad) C hr hk X hf dX4_turn_90
  have hf := g_f hf s13_5
  by_cases s13_6 : q10.1 = (8 : Int32)
  · have hf := g_t hf s13_6
    refine g_tabIn (tgt := 91) hx hb s13_6 dX4_turn_13 (by decide) (by decide) rfl (by decide) ?_
    refine lv_aload_n hx hb dX4_turn_91 rfl (lv_at hl 0 rfl) ?_
    refine lv_iload_n hx hb dX4_turn_92 rfl (lv_at hl 1 rfl) ?_
    refine lv_aload_n hx hb dX4_turn_93 rfl (lv_at hl 0 rfl) ?_
    refine lv_iload_n hx hb dX4_turn_94 rfl (lv_at hl 1 rfl) ?_
    refine lv_iload_n hx hb dX4_turn_95 rfl (lv_at hl 2 rfl) ?_
    obtain ⟨q96, e96, hf⟩ := g_be hf
    refine g_calli X (g_runS (As := [.ref (ad 1), .int a1, .int a2]) (rest := [.int a1, .ref (ad 1)]) C X (cC_Ru_echo l E A ad q10.2 q96.2 q96.1 a1 a2 e96) kX4_echo m_498 hl.1 rfl ⟨Nat.le_of_ble_eq_true rfl, Nat.le_of_ble_eq_true rfl⟩ rfl (Nat.le_of_ble_eq_true rfl) dX4_turn_96 ⟨Nat.le_of_ble_eq_true rfl, Nat.le_of_ble_eq_true rfl⟩) rfl rfl (fun H locs X => ?_)
    obtain ⟨q99, e99, hf⟩ := g_be hf
    refine g_calli X (g_runS (As := [.ref (ad 1), .int a1, .int q96.1]) (rest := []) C X (cC_Ru_resound l E A ad q96.2 q99.2 q99.1 a1 q96.1 e99) kX4_resound m_502 hl.1 rfl ⟨Nat.le_of_ble_eq_true rfl, Nat.le_of_ble_eq_true rfl⟩ rfl (Nat.le_of_ble_eq_true rfl) dX4_turn_99 ⟨Nat.le_of_ble_eq_true rfl, Nat.le_of_ble_eq_true rfl⟩) rfl rfl (fun H locs X => ?_)
    exact g_iret (wsC E ad) C hr hk X hf dX4_turn_102
  have hf := g_f hf s13_6
  by_cases s13_7 : q10.1 = (9 : Int32)
  · have hf := g_t hf s13_7
    refine g_tabIn (tgt := 103) hx hb s13_7 dX4_turn_13 (by decide) (by decide) rfl (by decide) ?_
    refine lv_aload_n hx hb dX4_turn_103 rfl (lv_at hl 0 rfl) ?_
    refine lv_iload_n hx hb dX4_turn_104 rfl (lv_at hl 1 rfl) ?_
    refine lv_iload_n hx hb dX4_turn_105 rfl (lv_at hl 2 rfl) ?_
    obtain ⟨q106, e106, hf⟩ := g_be hf
    refine g_calli X (g_runS (As := [.ref (ad 1), .int a1, .int a2]) (rest := []) C X (cC_Ru_countIn l E A ad q10.2 q106.2 q106.1 a1 a2 e106) kX4_countIn m_505 hl.1 rfl ⟨Nat.le_of_ble_eq_true rfl, Nat.le_of_ble_eq_true rfl⟩ rfl (Nat.le_of_ble_eq_true rfl) dX4_turn_106 ⟨Nat.le_of_ble_eq_true rfl, Nat.le_of_ble_eq_true rfl⟩) rfl rfl (fun H locs X => ?_)
    exact g_iret (wsC E ad) C hr hk X hf dX4_turn_109
  have hf := g_f hf s13_7
  by_cases s13_8 : q10.1 = (10 : Int32)
  · have hf := g_t hf s13_8
    refine g_tabIn (tgt := 103) hx hb s13_8 dX4_turn_13 (by decide) (by decide) rfl (by decide) ?_
    refine lv_aload_n hx hb dX4_turn_103 rfl (lv_at hl 0 rfl) ?_
    refine lv_iload_n hx hb dX4_turn_104 rfl (lv_at hl 1 rfl) ?_
    refine lv_iload_n hx hb dX4_turn_105 rfl (lv_at hl 2 rfl) ?_
    obtain ⟨q106, e106, hf⟩ := g_be hf
    refine g_calli X (g_runS (As := [.ref (ad 1), .int a1, .int a2]) (rest := []) C X (cC_Ru_countIn l E A ad q10.2 q106.2 q106.1 a1 a2 e106) kX4_countIn m_505 hl.1 rfl ⟨Nat.le_of_ble_eq_true rfl, Nat.le_of_ble_eq_true rfl⟩ rfl (Nat.le_of_ble_eq_true rfl) dX4_turn_106 ⟨Nat.le_of_ble_eq_true rfl, Nat.le_of_ble_eq_true rfl⟩) rfl rfl (fun H locs X => ?_)
    exact g_iret (wsC E ad) C hr hk X hf dX4_turn_109
  have hf := g_f hf s13_8
  refine lv_tableOut (tgt := 110) hx hb dX4_turn_13 (by have z0 := g_ne (2) s13_0 (by decide); have z1 := g_ne (3) s13_1 (by decide); have z2 := g_ne (4) s13_2 (by decide); have z3 := g_ne (5) s13_3 (by decide); have z4 := g_ne (6) s13_4 (by decide); have z5 := g_ne (7) s13_5 (by decide); have z6 := g_ne (8) s13_6 (by decide); have z7 := g_ne (9) s13_7 (by decide); have z8 := g_ne (10) s13_8 (by decide); omega) (by decide) ?_
  refine lv_iload_n hx hb dX4_turn_110 rfl (lv_at hl 2 rfl) ?_
  exact g_iret (wsC E ad) C hr hk X hf dX4_turn_111
set_option maxRecDepth 100000 in
set_option maxHeartbeats 4000000 in
theorem cC_Sh_isFull (l : Launch) (E : g_Env) (A : Nat → Prop) (ad : Nat → Nat) (w : CS) (w' : CS) (r : Int32)  (hf : fC_Sh_isFull w  = some (r, w')) : g_Mi l yX5_isFull cX5_isFull 1 ((some .boolean)) ({ frames := 0, cells := 0, slots := 0, locals := 0 }) E A [.ref (ad 6)] (wsC E ad w) r (wsC E ad w') := by
  refine g_start (by decide) (Nat.le_of_ble_eq_true rfl) ?_
  intro p e s m below meth c C hr hk hnm ls hl H locs X
  have hx := C.1.1
  have hb := C.1.2.1
  have hl : lv_has ls 1 [(0, .ref (ad 6))] := hl
  unfold fC_Sh_isFull at hf
  refine lv_aload_n hx hb dX5_isFull_0 rfl (lv_at hl 0 rfl) ?_
  refine g_get C X g_iX5 6 rfl rfl 1 (by decide) rfl m_137 rfl dX5_isFull_1 ?_
  refine lv_aload_n hx hb dX5_isFull_4 rfl (lv_at hl 0 rfl) ?_
  refine g_get C X g_iX5 6 rfl rfl 0 (by decide) rfl m_136 rfl dX5_isFull_5 ?_
  refine g_rlen C X 7 rfl (v := 16) rfl dX5_isFull_8 ?_
  refine lv_icmp_lt (tgt := 16) hx hb dX5_isFull_9 (by decide) (fun c9 => ?_) (fun c9 => ?_)
  · have hf := g_t hf c9
    refine lv_iconst (v := 0) hx hb dX5_isFull_16 (by decide) ?_
    exact g_zret (wsC E ad) C hr hk rfl X hf dX5_isFull_17
  · have hf := g_f hf c9
    refine lv_iconst (v := 1) hx hb dX5_isFull_12 (by decide) ?_
    refine lv_goto (tgt := 17) hx hb dX5_isFull_13 (by decide) ?_
    exact g_zret (wsC E ad) C hr hk rfl X hf dX5_isFull_17
set_option maxRecDepth 100000 in
set_option maxHeartbeats 4000000 in
theorem cC_Sh_startAnew (l : Launch) (E : g_Env) (A : Nat → Prop) (ad : Nat → Nat) (w : CS) (w' : CS)  (hf : fC_Sh_startAnew w  = some w') : g_Mv l yX5_startAnew cX5_startAnew 1 ({ frames := 0, cells := 0, slots := 0, locals := 0 }) E A [.ref (ad 6)] (wsC E ad w) (wsC E ad w') := by
  refine g_start (by decide) (Nat.le_of_ble_eq_true rfl) ?_
  intro p e s m below meth c C hr hk hnm ls hl H locs X
  have hx := C.1.1
  have hb := C.1.2.1
  have hl : lv_has ls 1 [(0, .ref (ad 6))] := hl
  unfold fC_Sh_startAnew at hf
  refine lv_aload_n hx hb dX5_startAnew_0 rfl (lv_at hl 0 rfl) ?_
  refine lv_iconst (v := 0) hx hb dX5_startAnew_1 (by decide) ?_
  obtain ⟨w2, e2, hf⟩ := g_le hf
  refine g_put C X g_iX5 tyX5_ok nmX5 6 rfl rfl 1 (by decide) rfl m_137 rfl rfl rfl (Nat.le_of_ble_eq_true rfl) dX5_startAnew_2 (ws2 := wsC E ad w2) (by subst e2; rfl) (fun H locs X => ?_)
  refine lv_aload_n hx hb dX5_startAnew_5 rfl (lv_at hl 0 rfl) ?_
  refine lv_iconst (v := 1) hx hb dX5_startAnew_6 (by decide) ?_
  obtain ⟨w7, e7, hf⟩ := g_le hf
  refine g_put C X g_iX5 tyX5_ok nmX5 6 rfl rfl 2 (by decide) rfl m_139 rfl rfl rfl (Nat.le_of_ble_eq_true rfl) dX5_startAnew_7 (ws2 := wsC E ad w7) (by subst e7; rfl) (fun H locs X => ?_)
  exact g_vret (wsC E ad) C hr hk X hf dX5_startAnew_10
set_option maxRecDepth 100000 in
set_option maxHeartbeats 4000000 in
theorem cC_S_thingsMade (l : Launch) (E : g_Env) (A : Nat → Prop) (ad : Nat → Nat) (w : CS) (w' : CS) (r : Int32)  (hf : fC_S_thingsMade w  = some (r, w')) : g_Mi l yX6_thingsMade cX6_thingsMade 1 ((some .int)) ({ frames := 0, cells := 0, slots := 0, locals := 0 }) E A [.ref (ad 1)] (wsC E ad w) r (wsC E ad w') := by
  refine g_start (by decide) (Nat.le_of_ble_eq_true rfl) ?_
  intro p e s m below meth c C hr hk hnm ls hl H locs X
  have hx := C.1.1
  have hb := C.1.2.1
  have hl : lv_has ls 1 [(0, .ref (ad 1))] := hl
  unfold fC_S_thingsMade at hf
  refine lv_aload_n hx hb dX6_thingsMade_0 rfl (lv_at hl 0 rfl) ?_
  refine g_get C X g_iX6 1 rfl rfl 0 (by decide) rfl m_98 rfl dX6_thingsMade_1 ?_
  refine lv_bipush (v := 16) hx hb dX6_thingsMade_4 (by decide) ?_
  obtain ⟨h6, hf⟩ := g_cke hf
  obtain ⟨v6, e6, hf⟩ := g_le hf
  refine g_lald C X 2 rfl h6 e6 dX6_thingsMade_6 ?_
  refine lv_l2i hx hb dX6_thingsMade_7 rfl ?_
  exact g_iret (wsC E ad) C hr hk X hf dX6_thingsMade_8
set_option maxRecDepth 100000 in
set_option maxHeartbeats 4000000 in
theorem cC_S_hasPlace (l : Launch) (E : g_Env) (A : Nat → Prop) (ad : Nat → Nat) (w : CS) (w' : CS) (r : Int32) (a1 : Int32) (a2 : Int32) (hf : fC_S_hasPlace w a1 a2 = some (r, w')) : g_Mi l yX6_hasPlace cX6_hasPlace 3 ((some .boolean)) ({ frames := 1, cells := 0, slots := 0, locals := 23 }) E A [.ref (ad 1), .int a1, .int a2] (wsC E ad w) r (wsC E ad w') := by
  refine g_start (by decide) (Nat.le_of_ble_eq_true rfl) ?_
  intro p e s m below meth c C hr hk hnm ls hl H locs X
  have hx := C.1.1
  have hb := C.1.2.1
  have hl : lv_has ls 3 [(0, .ref (ad 1)), (1, .int a1), (2, .int a2)] := hl
  unfold fC_S_hasPlace at hf
  refine lv_iload_n hx hb dX6_hasPlace_0 rfl (lv_at hl 2 rfl) ?_
  refine lv_if_lt (tgt := 19) hx hb dX6_hasPlace_1 (by decide) (fun c1 => ?_) (fun c1 => ?_)
  · have hf := g_t hf c1
    refine lv_iconst (v := 0) hx hb dX6_hasPlace_19 (by decide) ?_
    exact g_zret (wsC E ad) C hr hk rfl X hf dX6_hasPlace_20
  · have hf := g_f hf c1
    refine lv_iload_n hx hb dX6_hasPlace_4 rfl (lv_at hl 2 rfl) ?_
    refine lv_aload_n hx hb dX6_hasPlace_5 rfl (lv_at hl 0 rfl) ?_
    refine lv_iload_n hx hb dX6_hasPlace_6 rfl (lv_at hl 1 rfl) ?_
    refine lv_bipush (v := 10) hx hb dX6_hasPlace_7 (by decide) ?_
    obtain ⟨q9, e9, hf⟩ := g_be hf
    refine g_calli X (g_runV (As := [.int a1, .int (10 : Int32)]) (rest := [.int a2]) C X (cC_S_trait l E A ad w q9.2 q9.1 a1 (10 : Int32) e9) kX6_trait m_253 1 4 rfl rfl hl.1 rfl ⟨Nat.le_of_ble_eq_true rfl, Nat.le_of_ble_eq_true rfl⟩ rfl (Nat.le_of_ble_eq_true rfl) dX6_hasPlace_9 ⟨Nat.le_of_ble_eq_true rfl, Nat.le_of_ble_eq_true rfl⟩) rfl rfl (fun H locs X => ?_)
    refine lv_icmp_ge (tgt := 19) hx hb dX6_hasPlace_12 (by decide) (fun c12 => ?_) (fun c12 => ?_)
    · have hf := g_t hf c12
      refine lv_iconst (v := 0) hx hb dX6_hasPlace_19 (by decide) ?_
      exact g_zret (wsC E ad) C hr hk rfl X hf dX6_hasPlace_20
    · have hf := g_f hf c12
      refine lv_iconst (v := 1) hx hb dX6_hasPlace_15 (by decide) ?_
      refine lv_goto (tgt := 20) hx hb dX6_hasPlace_16 (by decide) ?_
      exact g_zret (wsC E ad) C hr hk rfl X hf dX6_hasPlace_20
set_option maxRecDepth 100000 in
set_option maxHeartbeats 4000000 in
theorem cC_S_setPlace (l : Launch) (E : g_Env) (A : Nat → Prop) (ad : Nat → Nat) (w : CS) (w' : CS) (a1 : Int32) (a2 : Int32) (a3 : Int64) (hf : fC_S_setPlace w a1 a2 a3 = some w') : g_Mv l yX6_setPlace cX6_setPlace 5 ({ frames := 2, cells := 0, slots := 0, locals := 45 }) E A [.ref (ad 1), .int a1, .int a2, .long a3] (wsC E ad w) (wsC E ad w') := by
  refine g_start (by decide) (Nat.le_of_ble_eq_true rfl) ?_
  intro p e s m below meth c C hr hk hnm ls hl H locs X
  have hx := C.1.1
  have hb := C.1.2.1
  have hl : lv_has ls 5 [(0, .ref (ad 1)), (1, .int a1), (2, .int a2), (3, .long a3)] := hl
  unfold fC_S_setPlace at hf
  refine lv_aload_n hx hb dX6_setPlace_0 rfl (lv_at hl 0 rfl) ?_
  refine lv_iload_n hx hb dX6_setPlace_1 rfl (lv_at hl 1 rfl) ?_
  refine lv_iload_n hx hb dX6_setPlace_2 rfl (lv_at hl 2 rfl) ?_
  obtain ⟨q3, e3, hf⟩ := g_be hf
  refine g_calli X (g_runV (As := [.int a1, .int a2]) (rest := []) C X (cC_S_hasPlace l E A ad w q3.2 q3.1 a1 a2 e3) kX6_hasPlace m_249 1 4 rfl rfl hl.1 rfl ⟨Nat.le_of_ble_eq_true rfl, Nat.le_of_ble_eq_true rfl⟩ rfl (Nat.le_of_ble_eq_true rfl) dX6_setPlace_3 ⟨Nat.le_of_ble_eq_true rfl, Nat.le_of_ble_eq_true rfl⟩) rfl rfl (fun H locs X => ?_)
  refine lv_if_eq (tgt := 20) hx hb dX6_setPlace_6 (by decide) (fun c6 => ?_) (fun c6 => ?_)
  · have hf := g_t hf c6
    exact g_vret (wsC E ad) C hr hk X hf dX6_setPlace_20
  · have hf := g_f hf c6
    refine lv_aload_n hx hb dX6_setPlace_9 rfl (lv_at hl 0 rfl) ?_
    refine g_get C X g_iX6 1 rfl rfl 0 (by decide) rfl m_98 rfl dX6_setPlace_10 ?_
    refine lv_iload_n hx hb dX6_setPlace_13 rfl (lv_at hl 1 rfl) ?_
    refine lv_iload_n hx hb dX6_setPlace_14 rfl (lv_at hl 2 rfl) ?_
    obtain ⟨q15, e15, hf⟩ := g_be hf
    refine g_calli X (g_runS (As := [.int a1, .int a2]) (rest := [.ref (ad 2)]) C X (cC_S_placeCell l E A ad q3.2 q15.2 q15.1 a1 a2 e15) kX6_placeCell m_257 hl.1 rfl ⟨Nat.le_of_ble_eq_true rfl, Nat.le_of_ble_eq_true rfl⟩ rfl (Nat.le_of_ble_eq_true rfl) dX6_setPlace_15 ⟨Nat.le_of_ble_eq_true rfl, Nat.le_of_ble_eq_true rfl⟩) rfl rfl (fun H locs X => ?_)
    refine lv_lload_n hx hb dX6_setPlace_18 rfl (lv_at hl 3 rfl) ?_
    obtain ⟨h19, hf⟩ := g_cke hf
    obtain ⟨w19, e19, hf⟩ := g_le hf
    refine g_last C X 2 rfl h19 dX6_setPlace_19 (ws2 := wsC E ad w19) (by subst e19; rfl) (fun H locs X => ?_)
    exact g_vret (wsC E ad) C hr hk X hf dX6_setPlace_20
set_option maxRecDepth 100000 in
set_option maxHeartbeats 4000000 in
theorem cC_S_add (l : Launch) (E : g_Env) (A : Nat → Prop) (ad : Nat → Nat) (w : CS) (w' : CS) (r : Int32) (a1 : Int32) (a2 : Int32) (hf : fC_S_add w a1 a2 = some (r, w')) : g_Mi l yX6_add cX6_add 5 ((some .int)) ({ frames := 3, cells := 0, slots := 0, locals := 69 }) E A [.ref (ad 1), .int a1, .int a2] (wsC E ad w) r (wsC E ad w') := by
  refine g_start (by decide) (Nat.le_of_ble_eq_true rfl) ?_
  intro p e s m below meth c C hr hk hnm ls hl H locs X
  have hx := C.1.1
  have hb := C.1.2.1
  have hl : lv_has ls 5 [(0, .ref (ad 1)), (1, .int a1), (2, .int a2)] := hl
  have j75 : ∀ (n : Nat) (w : CS) (x2 : Int32) (x3 : Int32) (x4 : Int32) (ls : Array Slot) (H : Heap) (locs : List Loc), fC_S_add_75 n w x2 x3 x4 = some (r, w') → lv_has ls 5 [(0, .ref (ad 1)), (2, .int x2), (3, .int x3), (4, .int x4)] → g_W E A s H locs (wsC E ad w) → W p l e ({ frames := 3, cells := 0, slots := 0, locals := 69 }) s m ([.ref (ad 1), .int a1, .int a2] : List Value).toArray below meth c H locs 0 0 (MQ below (va_Qi (fun (r' : Int32) (u' : va_W) => r' = r ∧ u' = wsC E ad w') (g_B E A) A) ([.ref (ad 1), .int a1, .int a2] : List Value).toArray s 0 0 A) (F0 m 75 ls []) := by
    intro n
    induction n with
    | zero => intro w x2 x3 x4 ls H locs hf; exact absurd hf (by simp [fC_S_add_75])
    | succ n75 ih75 =>
      intro w x2 x3 x4 ls H locs hf hl X
      unfold fC_S_add_75 at hf
      refine lv_iload hx hb dX6_add_75 (lv_at hl 3 rfl) ?_
      refine lv_iload_n hx hb dX6_add_77 rfl (lv_at hl 1 rfl) ?_
      refine lv_icmp_ge (tgt := 97) hx hb dX6_add_78 (by decide) (fun c78 => ?_) (fun c78 => ?_)
      · have hf := g_t hf c78
        refine lv_iload_n hx hb dX6_add_97 rfl (lv_at hl 2 rfl) ?_
        exact g_iret (wsC E ad) C hr hk X hf dX6_add_98
      · have hf := g_f hf c78
        refine lv_aload_n hx hb dX6_add_81 rfl (lv_at hl 0 rfl) ?_
        refine lv_iload_n hx hb dX6_add_82 rfl (lv_at hl 2 rfl) ?_
        refine lv_iload hx hb dX6_add_83 (lv_at hl 3 rfl) ?_
        refine lv_ldc2 (v := -1) hx hb C.1.2.2.2.1 (C.1.2.2.2.2 _ m_97) dX6_add_85 ?_
        obtain ⟨q88, e88, hf⟩ := g_be hf
        refine g_callv X (g_runV (As := [.int x3, .int x4, .long (-1 : Int64)]) (rest := []) C X (cC_S_setPlace l E A ad w q88  x3 x4 (-1 : Int64) e88) kX6_setPlace m_245 1 4 rfl rfl hl.1 rfl ⟨Nat.le_of_ble_eq_true rfl, Nat.le_of_ble_eq_true rfl⟩ rfl (Nat.le_of_ble_eq_true rfl) dX6_add_88 ⟨Nat.le_of_ble_eq_true rfl, Nat.le_of_ble_eq_true rfl⟩) rfl rfl (fun H locs X => ?_)
        refine lv_iinc (v := x4 + (1 : Int32)) (lv' := [(4, .int (x4 + (1 : Int32))), (0, .ref (ad 1)), (2, .int x2), (3, .int x3)]) hx hb dX6_add_91 hl (k := 3) rfl rfl (by decide) rfl (fun ls hl => ?_)
        refine lv_goto (tgt := 75) hx hb dX6_add_94 (by decide) ?_
        exact ih75 q88 x2 x3 (x4 + (1 : Int32)) ls H locs hf (lv_sub hl [1, 2, 3, 0] rfl) X
  have j63 : ∀ (w : CS) (x1 : Int32) (x2 : Int32) (x3 : Int32) (ls : Array Slot) (H : Heap) (locs : List Loc), fC_S_add_63 w x1 x2 x3 = some (r, w') → lv_has ls 5 [(0, .ref (ad 1)), (1, .int x1), (2, .int x2), (3, .int x3)] → g_W E A s H locs (wsC E ad w) → W p l e ({ frames := 3, cells := 0, slots := 0, locals := 69 }) s m ([.ref (ad 1), .int a1, .int a2] : List Value).toArray below meth c H locs 0 0 (MQ below (va_Qi (fun (r' : Int32) (u' : va_W) => r' = r ∧ u' = wsC E ad w') (g_B E A) A) ([.ref (ad 1), .int a1, .int a2] : List Value).toArray s 0 0 A) (F0 m 63 ls []) := by
    intro w x1 x2 x3 ls H locs hf hl X
    unfold fC_S_add_63 at hf
    refine lv_iload_n hx hb dX6_add_63 rfl (lv_at hl 1 rfl) ?_
    refine lv_ldc (v := 10682368) hx hb C.1.2.2.2.1 (C.1.2.2.2.2 _ m_244) dX6_add_64 ?_
    obtain ⟨q66, e66, hf⟩ := g_be hf
    refine g_calli X (g_runS (As := [.int x1, .int (10682368 : Int32)]) (rest := []) C X (cC_K_isUnderAny l E A ad w q66.2 q66.1 x1 (10682368 : Int32) e66) kX2_isUnderAny m_240 hl.1 rfl ⟨Nat.le_of_ble_eq_true rfl, Nat.le_of_ble_eq_true rfl⟩ rfl (Nat.le_of_ble_eq_true rfl) dX6_add_66 ⟨Nat.le_of_ble_eq_true rfl, Nat.le_of_ble_eq_true rfl⟩) rfl rfl (fun H locs X => ?_)
    refine lv_if_eq (tgt := 97) hx hb dX6_add_69 (by decide) (fun c69 => ?_) (fun c69 => ?_)
    · have hf := g_t hf c69
      refine lv_iload_n hx hb dX6_add_97 rfl (lv_at hl 3 rfl) ?_
      exact g_iret (wsC E ad) C hr hk X hf dX6_add_98
    · have hf := g_f hf c69
      refine lv_iconst (v := 0) hx hb dX6_add_72 (by decide) ?_
      refine lv_istore (lv' := [(4, .int (0 : Int32)), (0, .ref (ad 1)), (1, .int x1), (2, .int x2), (3, .int x3)]) hx hb dX6_add_73 hl (by decide) rfl (fun ls hl => ?_)
      exact j75 g_fuel q66.2 x2 x3 (0 : Int32) ls H locs hf (lv_sub hl [1, 3, 4, 0] rfl) X
  have j46 : ∀ (w : CS) (x1 : Int32) (x2 : Int32) (x3 : Int32) (ls : Array Slot) (H : Heap) (locs : List Loc), fC_S_add_46 w x1 x2 x3 = some (r, w') → lv_has ls 5 [(0, .ref (ad 1)), (1, .int x1), (2, .int x2), (3, .int x3)] → g_W E A s H locs (wsC E ad w) → W p l e ({ frames := 3, cells := 0, slots := 0, locals := 69 }) s m ([.ref (ad 1), .int a1, .int a2] : List Value).toArray below meth c H locs 0 0 (MQ below (va_Qi (fun (r' : Int32) (u' : va_W) => r' = r ∧ u' = wsC E ad w') (g_B E A) A) ([.ref (ad 1), .int a1, .int a2] : List Value).toArray s 0 0 A) (F0 m 46 ls []) := by
    intro w x1 x2 x3 ls H locs hf hl X
    unfold fC_S_add_46 at hf
    refine lv_iload_n hx hb dX6_add_46 rfl (lv_at hl 1 rfl) ?_
    refine lv_ldc (v := 10739712) hx hb C.1.2.2.2.1 (C.1.2.2.2.2 _ m_243) dX6_add_47 ?_
    obtain ⟨q49, e49, hf⟩ := g_be hf
    refine g_calli X (g_runS (As := [.int x1, .int (10739712 : Int32)]) (rest := []) C X (cC_K_isUnderAny l E A ad w q49.2 q49.1 x1 (10739712 : Int32) e49) kX2_isUnderAny m_240 hl.1 rfl ⟨Nat.le_of_ble_eq_true rfl, Nat.le_of_ble_eq_true rfl⟩ rfl (Nat.le_of_ble_eq_true rfl) dX6_add_49 ⟨Nat.le_of_ble_eq_true rfl, Nat.le_of_ble_eq_true rfl⟩) rfl rfl (fun H locs X => ?_)
    refine lv_if_eq (tgt := 63) hx hb dX6_add_52 (by decide) (fun c52 => ?_) (fun c52 => ?_)
    · have hf := g_t hf c52
      exact j63 q49.2 x1 x2 x3 ls H locs hf (lv_sub hl [0, 1, 2, 3] rfl) X
    · have hf := g_f hf c52
      refine lv_aload_n hx hb dX6_add_55 rfl (lv_at hl 0 rfl) ?_
      refine lv_iload_n hx hb dX6_add_56 rfl (lv_at hl 3 rfl) ?_
      refine lv_bipush (v := 10) hx hb dX6_add_57 (by decide) ?_
      refine lv_iload_n hx hb dX6_add_59 rfl (lv_at hl 2 rfl) ?_
      obtain ⟨q60, e60, hf⟩ := g_be hf
      refine g_callv X (g_runV (As := [.int x3, .int (10 : Int32), .int x2]) (rest := []) C X (cC_S_setTrait l E A ad q49.2 q60  x3 (10 : Int32) x2 e60) kX6_setTrait m_236 1 4 rfl rfl hl.1 rfl ⟨Nat.le_of_ble_eq_true rfl, Nat.le_of_ble_eq_true rfl⟩ rfl (Nat.le_of_ble_eq_true rfl) dX6_add_60 ⟨Nat.le_of_ble_eq_true rfl, Nat.le_of_ble_eq_true rfl⟩) rfl rfl (fun H locs X => ?_)
      exact j63 q60 x1 x2 x3 ls H locs hf (lv_sub hl [0, 1, 2, 3] rfl) X
  unfold fC_S_add at hf
  refine lv_aload_n hx hb dX6_add_0 rfl (lv_at hl 0 rfl) ?_
  obtain ⟨q1, e1, hf⟩ := g_be hf
  refine g_calli X (g_runV (As := []) (rest := []) C X (cC_S_thingsMade l E A ad w q1.2 q1.1  e1) kX6_thingsMade m_235 1 4 rfl rfl hl.1 rfl ⟨Nat.le_of_ble_eq_true rfl, Nat.le_of_ble_eq_true rfl⟩ rfl (Nat.le_of_ble_eq_true rfl) dX6_add_1 ⟨Nat.le_of_ble_eq_true rfl, Nat.le_of_ble_eq_true rfl⟩) rfl rfl (fun H locs X => ?_)
  refine lv_istore_n (lv' := [(3, .int q1.1), (0, .ref (ad 1)), (1, .int a1), (2, .int a2)]) hx hb dX6_add_4 rfl hl (by decide) rfl (fun ls hl => ?_)
  refine lv_aload_n hx hb dX6_add_5 rfl (lv_at hl 1 rfl) ?_
  refine g_get C X g_iX6 1 rfl rfl 0 (by decide) rfl m_98 rfl dX6_add_6 ?_
  refine lv_bipush (v := 16) hx hb dX6_add_9 (by decide) ?_
  refine lv_iload_n hx hb dX6_add_11 rfl (lv_at hl 0 rfl) ?_
  refine lv_iconst (v := 1) hx hb dX6_add_12 (by decide) ?_
  refine lv_iadd hx hb dX6_add_13 ?_
  refine lv_i2l hx hb dX6_add_14 rfl ?_
  obtain ⟨h15, hf⟩ := g_cke hf
  obtain ⟨w15, e15, hf⟩ := g_le hf
  refine g_last C X 2 rfl h15 dX6_add_15 (ws2 := wsC E ad w15) (by subst e15; rfl) (fun H locs X => ?_)
  refine lv_aload_n hx hb dX6_add_16 rfl (lv_at hl 1 rfl) ?_
  refine lv_iload_n hx hb dX6_add_17 rfl (lv_at hl 0 rfl) ?_
  refine lv_iconst (v := 0) hx hb dX6_add_18 (by decide) ?_
  refine lv_iload_n hx hb dX6_add_19 rfl (lv_at hl 2 rfl) ?_
  obtain ⟨q20, e20, hf⟩ := g_be hf
  refine g_callv X (g_runV (As := [.int q1.1, .int (0 : Int32), .int a1]) (rest := []) C X (cC_S_setTrait l E A ad w15 q20  q1.1 (0 : Int32) a1 e20) kX6_setTrait m_236 1 4 rfl rfl hl.1 rfl ⟨Nat.le_of_ble_eq_true rfl, Nat.le_of_ble_eq_true rfl⟩ rfl (Nat.le_of_ble_eq_true rfl) dX6_add_20 ⟨Nat.le_of_ble_eq_true rfl, Nat.le_of_ble_eq_true rfl⟩) rfl rfl (fun H locs X => ?_)
  refine lv_aload_n hx hb dX6_add_23 rfl (lv_at hl 1 rfl) ?_
  refine lv_iload_n hx hb dX6_add_24 rfl (lv_at hl 0 rfl) ?_
  refine lv_iconst (v := 1) hx hb dX6_add_25 (by decide) ?_
  refine lv_iload_n hx hb dX6_add_26 rfl (lv_at hl 0 rfl) ?_
  obtain ⟨q27, e27, hf⟩ := g_be hf
  refine g_callv X (g_runV (As := [.int q1.1, .int (1 : Int32), .int q1.1]) (rest := []) C X (cC_S_setTrait l E A ad q20 q27  q1.1 (1 : Int32) q1.1 e27) kX6_setTrait m_236 1 4 rfl rfl hl.1 rfl ⟨Nat.le_of_ble_eq_true rfl, Nat.le_of_ble_eq_true rfl⟩ rfl (Nat.le_of_ble_eq_true rfl) dX6_add_27 ⟨Nat.le_of_ble_eq_true rfl, Nat.le_of_ble_eq_true rfl⟩) rfl rfl (fun H locs X => ?_)
  refine lv_iload_n hx hb dX6_add_30 rfl (lv_at hl 2 rfl) ?_
  refine lv_iconst (v := 1) hx hb dX6_add_31 (by decide) ?_
  obtain ⟨q32, e32, hf⟩ := g_be hf
  refine g_calli X (g_runS (As := [.int a1, .int (1 : Int32)]) (rest := []) C X (cC_K_isUnderAny l E A ad q27 q32.2 q32.1 a1 (1 : Int32) e32) kX2_isUnderAny m_240 hl.1 rfl ⟨Nat.le_of_ble_eq_true rfl, Nat.le_of_ble_eq_true rfl⟩ rfl (Nat.le_of_ble_eq_true rfl) dX6_add_32 ⟨Nat.le_of_ble_eq_true rfl, Nat.le_of_ble_eq_true rfl⟩) rfl rfl (fun H locs X => ?_)
  refine lv_if_eq (tgt := 46) hx hb dX6_add_35 (by decide) (fun c35 => ?_) (fun c35 => ?_)
  · have hf := g_t hf c35
    exact j46 q32.2 a1 a2 q1.1 ls H locs hf (lv_sub hl [1, 2, 3, 0] rfl) X
  · have hf := g_f hf c35
    refine lv_aload_n hx hb dX6_add_38 rfl (lv_at hl 1 rfl) ?_
    refine lv_iload_n hx hb dX6_add_39 rfl (lv_at hl 0 rfl) ?_
    refine lv_iconst (v := 2) hx hb dX6_add_40 (by decide) ?_
    refine lv_bipush (v := 8) hx hb dX6_add_41 (by decide) ?_
    obtain ⟨q43, e43, hf⟩ := g_be hf
    refine g_callv X (g_runV (As := [.int q1.1, .int (2 : Int32), .int (8 : Int32)]) (rest := []) C X (cC_S_setTrait l E A ad q32.2 q43  q1.1 (2 : Int32) (8 : Int32) e43) kX6_setTrait m_236 1 4 rfl rfl hl.1 rfl ⟨Nat.le_of_ble_eq_true rfl, Nat.le_of_ble_eq_true rfl⟩ rfl (Nat.le_of_ble_eq_true rfl) dX6_add_43 ⟨Nat.le_of_ble_eq_true rfl, Nat.le_of_ble_eq_true rfl⟩) rfl rfl (fun H locs X => ?_)
    exact j46 q43 a1 a2 q1.1 ls H locs hf (lv_sub hl [1, 2, 3, 0] rfl) X
set_option maxRecDepth 100000 in
set_option maxHeartbeats 4000000 in
theorem cC_S_cellsInUse (l : Launch) (E : g_Env) (A : Nat → Prop) (ad : Nat → Nat) (w : CS) (w' : CS) (r : Int32)  (hf : fC_S_cellsInUse w  = some (r, w')) : g_Mi l yX6_cellsInUse cX6_cellsInUse 1 ((some .int)) ({ frames := 1, cells := 0, slots := 0, locals := 30 }) E A [.ref (ad 1)] (wsC E ad w) r (wsC E ad w') := by
  refine g_start (by decide) (Nat.le_of_ble_eq_true rfl) ?_
  intro p e s m below meth c C hr hk hnm ls hl H locs X
  have hx := C.1.1
  have hb := C.1.2.1
  have hl : lv_has ls 1 [(0, .ref (ad 1))] := hl
  unfold fC_S_cellsInUse at hf
  refine lv_bipush (v := 17) hx hb dX6_cellsInUse_0 (by decide) ?_
  refine lv_aload_n hx hb dX6_cellsInUse_2 rfl (lv_at hl 0 rfl) ?_
  obtain ⟨q3, e3, hf⟩ := g_be hf
  refine g_calli X (g_runV (As := []) (rest := [.int (17 : Int32)]) C X (cC_S_thingsMade l E A ad w q3.2 q3.1  e3) kX6_thingsMade m_235 1 4 rfl rfl hl.1 rfl ⟨Nat.le_of_ble_eq_true rfl, Nat.le_of_ble_eq_true rfl⟩ rfl (Nat.le_of_ble_eq_true rfl) dX6_cellsInUse_3 ⟨Nat.le_of_ble_eq_true rfl, Nat.le_of_ble_eq_true rfl⟩) rfl rfl (fun H locs X => ?_)
  refine lv_bipush (v := 23) hx hb dX6_cellsInUse_6 (by decide) ?_
  refine lv_imul hx hb dX6_cellsInUse_8 ?_
  refine lv_iadd hx hb dX6_cellsInUse_9 ?_
  refine lv_sipush (v := 1397) hx hb dX6_cellsInUse_10 (by decide) ?_
  obtain ⟨v13, e13, hf⟩ := g_le hf
  refine g_mmin C hl.1 m_292 m_293 m_80 m_294 (Nat.le_of_ble_eq_true rfl) (Nat.le_of_ble_eq_true rfl) (Nat.zero_le _) (Nat.zero_le _) e13 dX6_cellsInUse_13 ?_
  exact g_iret (wsC E ad) C hr hk X hf dX6_cellsInUse_16
set_option maxRecDepth 100000 in
set_option maxHeartbeats 4000000 in
theorem cC_S_countChanges (l : Launch) (E : g_Env) (A : Nat → Prop) (ad : Nat → Nat) (w : CS) (w' : CS) (r : Int32) (a1 : Int32) (hf : fC_S_countChanges w a1 = some (r, w')) : g_Mi l yX6_countChanges cX6_countChanges 4 ((some .int)) ({ frames := 0, cells := 0, slots := 0, locals := 0 }) E A [.ref (ad 1), .int a1] (wsC E ad w) r (wsC E ad w') := by
  refine g_start (by decide) (Nat.le_of_ble_eq_true rfl) ?_
  intro p e s m below meth c C hr hk hnm ls hl H locs X
  have hx := C.1.1
  have hb := C.1.2.1
  have hl : lv_has ls 4 [(0, .ref (ad 1)), (1, .int a1)] := hl
  have j4 : ∀ (n : Nat) (w : CS) (x1 : Int32) (x2 : Int32) (x3 : Int32) (ls : Array Slot) (H : Heap) (locs : List Loc), fC_S_countChanges_4 n w x1 x2 x3 = some (r, w') → lv_has ls 4 [(0, .ref (ad 1)), (1, .int x1), (2, .int x2), (3, .int x3)] → g_W E A s H locs (wsC E ad w) → W p l e ({ frames := 0, cells := 0, slots := 0, locals := 0 }) s m ([.ref (ad 1), .int a1] : List Value).toArray below meth c H locs 0 0 (MQ below (va_Qi (fun (r' : Int32) (u' : va_W) => r' = r ∧ u' = wsC E ad w') (g_B E A) A) ([.ref (ad 1), .int a1] : List Value).toArray s 0 0 A) (F0 m 4 ls []) := by
    intro n
    induction n with
    | zero => intro w x1 x2 x3 ls H locs hf; exact absurd hf (by simp [fC_S_countChanges_4])
    | succ n4 ih4 =>
      intro w x1 x2 x3 ls H locs hf hl X
      have j28 : ∀ (w : CS) (x1 : Int32) (x2 : Int32) (x3 : Int32) (ls : Array Slot) (H : Heap) (locs : List Loc), fC_S_countChanges_28 (fC_S_countChanges_4 n4) w x1 x2 x3 = some (r, w') → lv_has ls 4 [(0, .ref (ad 1)), (1, .int x1), (2, .int x2), (3, .int x3)] → g_W E A s H locs (wsC E ad w) → W p l e ({ frames := 0, cells := 0, slots := 0, locals := 0 }) s m ([.ref (ad 1), .int a1] : List Value).toArray below meth c H locs 0 0 (MQ below (va_Qi (fun (r' : Int32) (u' : va_W) => r' = r ∧ u' = wsC E ad w') (g_B E A) A) ([.ref (ad 1), .int a1] : List Value).toArray s 0 0 A) (F0 m 28 ls []) := by
        intro w x1 x2 x3 ls H locs hf hl X
        unfold fC_S_countChanges_28 at hf
        refine lv_iinc (v := x3 + (1 : Int32)) (lv' := [(3, .int (x3 + (1 : Int32))), (0, .ref (ad 1)), (1, .int x1), (2, .int x2)]) hx hb dX6_countChanges_28 hl (k := 3) rfl rfl (by decide) rfl (fun ls hl => ?_)
        refine lv_goto (tgt := 4) hx hb dX6_countChanges_31 (by decide) ?_
        exact ih4 w x1 x2 (x3 + (1 : Int32)) ls H locs hf (lv_sub hl [1, 2, 3, 0] rfl) X
      unfold fC_S_countChanges_4 at hf
      refine lv_iload_n hx hb dX6_countChanges_4 rfl (lv_at hl 3 rfl) ?_
      refine lv_iload_n hx hb dX6_countChanges_5 rfl (lv_at hl 1 rfl) ?_
      refine lv_icmp_ge (tgt := 34) hx hb dX6_countChanges_6 (by decide) (fun c6 => ?_) (fun c6 => ?_)
      · have hf := g_t hf c6
        refine lv_iload_n hx hb dX6_countChanges_34 rfl (lv_at hl 2 rfl) ?_
        exact g_iret (wsC E ad) C hr hk X hf dX6_countChanges_35
      · have hf := g_f hf c6
        refine lv_aload_n hx hb dX6_countChanges_9 rfl (lv_at hl 0 rfl) ?_
        refine g_get C X g_iX6 1 rfl rfl 0 (by decide) rfl m_98 rfl dX6_countChanges_10 ?_
        refine lv_iload_n hx hb dX6_countChanges_13 rfl (lv_at hl 3 rfl) ?_
        obtain ⟨h14, hf⟩ := g_cke hf
        obtain ⟨v14, e14, hf⟩ := g_le hf
        refine g_lald C X 2 rfl h14 e14 dX6_countChanges_14 ?_
        refine lv_aload_n hx hb dX6_countChanges_15 rfl (lv_at hl 0 rfl) ?_
        refine g_get C X g_iX6 1 rfl rfl 1 (by decide) rfl m_99 rfl dX6_countChanges_16 ?_
        refine lv_iload_n hx hb dX6_countChanges_19 rfl (lv_at hl 3 rfl) ?_
        obtain ⟨h20, hf⟩ := g_cke hf
        obtain ⟨v20, e20, hf⟩ := g_le hf
        refine g_lald C X 3 rfl h20 e20 dX6_countChanges_20 ?_
        refine W.lcmp hx hb dX6_countChanges_21 ?_
        refine lv_if_eq (tgt := 28) hx hb dX6_countChanges_22 (by decide) (fun c22 => ?_) (fun c22 => ?_)
        · have hf := g_t hf c22
          exact j28 w x1 x2 x3 ls H locs hf (lv_sub hl [0, 1, 2, 3] rfl) X
        · have hf := g_f hf c22
          refine lv_iinc (v := x2 + (1 : Int32)) (lv' := [(2, .int (x2 + (1 : Int32))), (0, .ref (ad 1)), (1, .int x1), (3, .int x3)]) hx hb dX6_countChanges_25 hl (k := 2) rfl rfl (by decide) rfl (fun ls hl => ?_)
          exact j28 w x1 (x2 + (1 : Int32)) x3 ls H locs hf (lv_sub hl [1, 2, 0, 3] rfl) X
  unfold fC_S_countChanges at hf
  refine lv_iconst (v := 0) hx hb dX6_countChanges_0 (by decide) ?_
  refine lv_istore_n (lv' := [(2, .int (0 : Int32)), (0, .ref (ad 1)), (1, .int a1)]) hx hb dX6_countChanges_1 rfl hl (by decide) rfl (fun ls hl => ?_)
  refine lv_iconst (v := 0) hx hb dX6_countChanges_2 (by decide) ?_
  refine lv_istore_n (lv' := [(3, .int (0 : Int32)), (2, .int (0 : Int32)), (0, .ref (ad 1)), (1, .int a1)]) hx hb dX6_countChanges_3 rfl hl (by decide) rfl (fun ls hl => ?_)
  exact j4 g_fuel w a1 (0 : Int32) (0 : Int32) ls H locs hf (lv_sub hl [2, 3, 1, 0] rfl) X
set_option maxRecDepth 100000 in
set_option maxHeartbeats 4000000 in
theorem cC_S_dropChanges (l : Launch) (E : g_Env) (A : Nat → Prop) (ad : Nat → Nat) (w : CS) (w' : CS)  (hf : fC_S_dropChanges w  = some w') : g_Mv l yX6_dropChanges cX6_dropChanges 1 ({ frames := 1, cells := 0, slots := 0, locals := 30 }) E A [.ref (ad 1)] (wsC E ad w) (wsC E ad w') := by
  refine g_start (by decide) (Nat.le_of_ble_eq_true rfl) ?_
  intro p e s m below meth c C hr hk hnm ls hl H locs X
  have hx := C.1.1
  have hb := C.1.2.1
  have hl : lv_has ls 1 [(0, .ref (ad 1))] := hl
  unfold fC_S_dropChanges at hf
  refine lv_aload_n hx hb dX6_dropChanges_0 rfl (lv_at hl 0 rfl) ?_
  refine g_get C X g_iX6 1 rfl rfl 1 (by decide) rfl m_99 rfl dX6_dropChanges_1 ?_
  refine lv_iconst (v := 0) hx hb dX6_dropChanges_4 (by decide) ?_
  refine lv_aload_n hx hb dX6_dropChanges_5 rfl (lv_at hl 0 rfl) ?_
  refine g_get C X g_iX6 1 rfl rfl 0 (by decide) rfl m_98 rfl dX6_dropChanges_6 ?_
  refine lv_iconst (v := 0) hx hb dX6_dropChanges_9 (by decide) ?_
  refine lv_sipush (v := 1397) hx hb dX6_dropChanges_10 (by decide) ?_
  obtain ⟨h13, hf⟩ := g_cpe hf
  obtain ⟨w13, e13, hf⟩ := g_le hf
  refine g_copyl C X hl.1 m_281 m_283 m_282 m_79 3 2 rfl rfl h13 (Nat.le_of_ble_eq_true rfl) (Nat.le_of_ble_eq_true rfl) dX6_dropChanges_13 (ws2 := wsC E ad w13) (by subst e13; rfl) (fun H locs X => ?_)
  exact g_vret (wsC E ad) C hr hk X hf dX6_dropChanges_16
set_option maxRecDepth 100000 in
set_option maxHeartbeats 4000000 in
theorem cC_S_fits (l : Launch) (E : g_Env) (A : Nat → Prop) (ad : Nat → Nat) (w : CS) (w' : CS) (r : Int32) (a1 : Int32) (a2 : Int32) (hf : fC_S_fits w a1 a2 = some (r, w')) : g_Mi l yX6_fits cX6_fits 3 ((some .boolean)) ({ frames := 2, cells := 0, slots := 0, locals := 45 }) E A [.ref (ad 1), .int a1, .int a2] (wsC E ad w) r (wsC E ad w') := by
  refine g_start (by decide) (Nat.le_of_ble_eq_true rfl) ?_
  intro p e s m below meth c C hr hk hnm ls hl H locs X
  have hx := C.1.1
  have hb := C.1.2.1
  have hl : lv_has ls 3 [(0, .ref (ad 1)), (1, .int a1), (2, .int a2)] := hl
  unfold fC_S_fits at hf
  refine lv_iload_n hx hb dX6_fits_0 rfl (lv_at hl 1 rfl) ?_
  refine lv_iconst (v := -1) hx hb dX6_fits_1 (by decide) ?_
  refine lv_icmp_eq (tgt := 22) hx hb dX6_fits_2 (by decide) (fun c2 => ?_) (fun c2 => ?_)
  · have hf := g_t hf c2
    refine lv_iconst (v := 1) hx hb dX6_fits_22 (by decide) ?_
    refine lv_goto (tgt := 27) hx hb dX6_fits_23 (by decide) ?_
    exact g_zret (wsC E ad) C hr hk rfl X hf dX6_fits_27
  · have hf := g_f hf c2
    refine lv_aload_n hx hb dX6_fits_5 rfl (lv_at hl 0 rfl) ?_
    refine lv_iload_n hx hb dX6_fits_6 rfl (lv_at hl 1 rfl) ?_
    refine lv_aload_n hx hb dX6_fits_7 rfl (lv_at hl 0 rfl) ?_
    refine lv_iload_n hx hb dX6_fits_8 rfl (lv_at hl 2 rfl) ?_
    refine lv_iconst (v := 0) hx hb dX6_fits_9 (by decide) ?_
    obtain ⟨q10, e10, hf⟩ := g_be hf
    refine g_calli X (g_runV (As := [.int a2, .int (0 : Int32)]) (rest := [.int a1, .ref (ad 1)]) C X (cC_S_trait l E A ad w q10.2 q10.1 a2 (0 : Int32) e10) kX6_trait m_253 1 4 rfl rfl hl.1 rfl ⟨Nat.le_of_ble_eq_true rfl, Nat.le_of_ble_eq_true rfl⟩ rfl (Nat.le_of_ble_eq_true rfl) dX6_fits_10 ⟨Nat.le_of_ble_eq_true rfl, Nat.le_of_ble_eq_true rfl⟩) rfl rfl (fun H locs X => ?_)
    obtain ⟨q13, e13, hf⟩ := g_be hf
    refine g_calli X (g_runS (As := [.int q10.1]) (rest := [.int a1, .ref (ad 1)]) C X (cC_K_fittingIn l E A ad q10.2 q13.2 q13.1 q10.1 e13) kX2_fittingIn m_367 hl.1 rfl ⟨Nat.le_of_ble_eq_true rfl, Nat.le_of_ble_eq_true rfl⟩ rfl (Nat.le_of_ble_eq_true rfl) dX6_fits_13 ⟨Nat.le_of_ble_eq_true rfl, Nat.le_of_ble_eq_true rfl⟩) rfl rfl (fun H locs X => ?_)
    obtain ⟨q16, e16, hf⟩ := g_be hf
    refine g_calli X (g_runV (As := [.int a1, .int q13.1]) (rest := []) C X (cC_S_isIn l E A ad q13.2 q16.2 q16.1 a1 q13.1 e16) kX6_isIn m_372 1 4 rfl rfl hl.1 rfl ⟨Nat.le_of_ble_eq_true rfl, Nat.le_of_ble_eq_true rfl⟩ rfl (Nat.le_of_ble_eq_true rfl) dX6_fits_16 ⟨Nat.le_of_ble_eq_true rfl, Nat.le_of_ble_eq_true rfl⟩) rfl rfl (fun H locs X => ?_)
    refine lv_if_eq (tgt := 26) hx hb dX6_fits_19 (by decide) (fun c19 => ?_) (fun c19 => ?_)
    · have hf := g_t hf c19
      refine lv_iconst (v := 0) hx hb dX6_fits_26 (by decide) ?_
      exact g_zret (wsC E ad) C hr hk rfl X hf dX6_fits_27
    · have hf := g_f hf c19
      refine lv_iconst (v := 1) hx hb dX6_fits_22 (by decide) ?_
      refine lv_goto (tgt := 27) hx hb dX6_fits_23 (by decide) ?_
      exact g_zret (wsC E ad) C hr hk rfl X hf dX6_fits_27
set_option maxRecDepth 100000 in
set_option maxHeartbeats 4000000 in
theorem cC_S_hasPlaces (l : Launch) (E : g_Env) (A : Nat → Prop) (ad : Nat → Nat) (w : CS) (w' : CS) (r : Int32) (a1 : Int32) (a2 : Int32) (a3 : Int32) (hf : fC_S_hasPlaces w a1 a2 a3 = some (r, w')) : g_Mi l yX6_hasPlaces cX6_hasPlaces 4 ((some .boolean)) ({ frames := 1, cells := 0, slots := 0, locals := 23 }) E A [.ref (ad 1), .int a1, .int a2, .int a3] (wsC E ad w) r (wsC E ad w') := by
  refine g_start (by decide) (Nat.le_of_ble_eq_true rfl) ?_
  intro p e s m below meth c C hr hk hnm ls hl H locs X
  have hx := C.1.1
  have hb := C.1.2.1
  have hl : lv_has ls 4 [(0, .ref (ad 1)), (1, .int a1), (2, .int a2), (3, .int a3)] := hl
  unfold fC_S_hasPlaces at hf
  refine lv_iload_n hx hb dX6_hasPlaces_0 rfl (lv_at hl 2 rfl) ?_
  refine lv_if_lt (tgt := 29) hx hb dX6_hasPlaces_1 (by decide) (fun c1 => ?_) (fun c1 => ?_)
  · have hf := g_t hf c1
    refine lv_iconst (v := 0) hx hb dX6_hasPlaces_29 (by decide) ?_
    exact g_zret (wsC E ad) C hr hk rfl X hf dX6_hasPlaces_30
  · have hf := g_f hf c1
    refine lv_iload_n hx hb dX6_hasPlaces_4 rfl (lv_at hl 3 rfl) ?_
    refine lv_if_lt (tgt := 29) hx hb dX6_hasPlaces_5 (by decide) (fun c5 => ?_) (fun c5 => ?_)
    · have hf := g_t hf c5
      refine lv_iconst (v := 0) hx hb dX6_hasPlaces_29 (by decide) ?_
      exact g_zret (wsC E ad) C hr hk rfl X hf dX6_hasPlaces_30
    · have hf := g_f hf c5
      refine lv_iload_n hx hb dX6_hasPlaces_8 rfl (lv_at hl 2 rfl) ?_
      refine lv_i2l hx hb dX6_hasPlaces_9 rfl ?_
      refine lv_iload_n hx hb dX6_hasPlaces_10 rfl (lv_at hl 3 rfl) ?_
      refine lv_i2l hx hb dX6_hasPlaces_11 rfl ?_
      refine lv_ladd hx hb dX6_hasPlaces_12 ?_
      refine lv_aload_n hx hb dX6_hasPlaces_13 rfl (lv_at hl 0 rfl) ?_
      refine lv_iload_n hx hb dX6_hasPlaces_14 rfl (lv_at hl 1 rfl) ?_
      refine lv_bipush (v := 10) hx hb dX6_hasPlaces_15 (by decide) ?_
      obtain ⟨q17, e17, hf⟩ := g_be hf
      refine g_calli X (g_runV (As := [.int a1, .int (10 : Int32)]) (rest := [.long (a2.toInt64 + a3.toInt64)]) C X (cC_S_trait l E A ad w q17.2 q17.1 a1 (10 : Int32) e17) kX6_trait m_253 1 4 rfl rfl hl.1 rfl ⟨Nat.le_of_ble_eq_true rfl, Nat.le_of_ble_eq_true rfl⟩ rfl (Nat.le_of_ble_eq_true rfl) dX6_hasPlaces_17 ⟨Nat.le_of_ble_eq_true rfl, Nat.le_of_ble_eq_true rfl⟩) rfl rfl (fun H locs X => ?_)
      refine lv_i2l hx hb dX6_hasPlaces_20 rfl ?_
      refine W.lcmp hx hb dX6_hasPlaces_21 ?_
      refine lv_if_gt (tgt := 29) hx hb dX6_hasPlaces_22 (by decide) (fun c22 => ?_) (fun c22 => ?_)
      · have hf := g_t hf c22
        refine lv_iconst (v := 0) hx hb dX6_hasPlaces_29 (by decide) ?_
        exact g_zret (wsC E ad) C hr hk rfl X hf dX6_hasPlaces_30
      · have hf := g_f hf c22
        refine lv_iconst (v := 1) hx hb dX6_hasPlaces_25 (by decide) ?_
        refine lv_goto (tgt := 30) hx hb dX6_hasPlaces_26 (by decide) ?_
        exact g_zret (wsC E ad) C hr hk rfl X hf dX6_hasPlaces_30
set_option maxRecDepth 100000 in
set_option maxHeartbeats 4000000 in
theorem cC_S_howManyFit (l : Launch) (E : g_Env) (A : Nat → Prop) (ad : Nat → Nat) (w : CS) (w' : CS) (r : Int32) (a1 : Int32) (a2 : Int32) (a3 : Int32) (a4 : Int32) (hf : fC_S_howManyFit w a1 a2 a3 a4 = some (r, w')) : g_Mi l yX6_howManyFit cX6_howManyFit 6 ((some .int)) ({ frames := 3, cells := 0, slots := 0, locals := 67 }) E A [.ref (ad 1), .int a1, .int a2, .int a3, .int a4] (wsC E ad w) r (wsC E ad w') := by
  refine g_start (by decide) (Nat.le_of_ble_eq_true rfl) ?_
  intro p e s m below meth c C hr hk hnm ls hl H locs X
  have hx := C.1.1
  have hb := C.1.2.1
  have hl : lv_has ls 6 [(0, .ref (ad 1)), (1, .int a1), (2, .int a2), (3, .int a3), (4, .int a4)] := hl
  have j16 : ∀ (n : Nat) (w : CS) (x1 : Int32) (x2 : Int32) (x3 : Int32) (x4 : Int32) (x5 : Int32) (ls : Array Slot) (H : Heap) (locs : List Loc), fC_S_howManyFit_16 n w x1 x2 x3 x4 x5 = some (r, w') → lv_has ls 6 [(0, .ref (ad 1)), (1, .int x1), (2, .int x2), (3, .int x3), (4, .int x4), (5, .int x5)] → g_W E A s H locs (wsC E ad w) → W p l e ({ frames := 3, cells := 0, slots := 0, locals := 67 }) s m ([.ref (ad 1), .int a1, .int a2, .int a3, .int a4] : List Value).toArray below meth c H locs 0 0 (MQ below (va_Qi (fun (r' : Int32) (u' : va_W) => r' = r ∧ u' = wsC E ad w') (g_B E A) A) ([.ref (ad 1), .int a1, .int a2, .int a3, .int a4] : List Value).toArray s 0 0 A) (F0 m 16 ls []) := by
    intro n
    induction n with
    | zero => intro w x1 x2 x3 x4 x5 ls H locs hf; exact absurd hf (by simp [fC_S_howManyFit_16])
    | succ n16 ih16 =>
      intro w x1 x2 x3 x4 x5 ls H locs hf hl X
      unfold fC_S_howManyFit_16 at hf
      refine lv_iload hx hb dX6_howManyFit_16 (lv_at hl 5 rfl) ?_
      refine lv_iload hx hb dX6_howManyFit_18 (lv_at hl 4 rfl) ?_
      refine lv_icmp_ge (tgt := 47) hx hb dX6_howManyFit_20 (by decide) (fun c20 => ?_) (fun c20 => ?_)
      · have hf := g_t hf c20
        refine lv_iload hx hb dX6_howManyFit_47 (lv_at hl 5 rfl) ?_
        exact g_iret (wsC E ad) C hr hk X hf dX6_howManyFit_49
      · have hf := g_f hf c20
        refine lv_aload_n hx hb dX6_howManyFit_23 rfl (lv_at hl 0 rfl) ?_
        refine lv_aload_n hx hb dX6_howManyFit_24 rfl (lv_at hl 0 rfl) ?_
        refine lv_iload_n hx hb dX6_howManyFit_25 rfl (lv_at hl 1 rfl) ?_
        refine lv_iload_n hx hb dX6_howManyFit_26 rfl (lv_at hl 2 rfl) ?_
        refine lv_iload hx hb dX6_howManyFit_27 (lv_at hl 5 rfl) ?_
        refine lv_iadd hx hb dX6_howManyFit_29 ?_
        obtain ⟨q30, e30, hf⟩ := g_be hf
        refine g_calll X (g_runV (As := [.int x1, .int (x2 + x5)]) (rest := [.ref (ad 1)]) C X (cC_S_atPlace l E A ad w q30.2 q30.1 x1 (x2 + x5) e30) kX6_atPlace m_415 1 4 rfl rfl hl.1 rfl ⟨Nat.le_of_ble_eq_true rfl, Nat.le_of_ble_eq_true rfl⟩ rfl (Nat.le_of_ble_eq_true rfl) dX6_howManyFit_30 ⟨Nat.le_of_ble_eq_true rfl, Nat.le_of_ble_eq_true rfl⟩) rfl rfl (fun H locs X => ?_)
        refine lv_l2i hx hb dX6_howManyFit_33 rfl ?_
        refine lv_iload_n hx hb dX6_howManyFit_34 rfl (lv_at hl 3 rfl) ?_
        obtain ⟨q35, e35, hf⟩ := g_be hf
        refine g_calli X (g_runV (As := [.int q30.1.toInt32, .int x3]) (rest := []) C X (cC_S_fits l E A ad q30.2 q35.2 q35.1 q30.1.toInt32 x3 e35) kX6_fits m_416 1 4 rfl rfl hl.1 rfl ⟨Nat.le_of_ble_eq_true rfl, Nat.le_of_ble_eq_true rfl⟩ rfl (Nat.le_of_ble_eq_true rfl) dX6_howManyFit_35 ⟨Nat.le_of_ble_eq_true rfl, Nat.le_of_ble_eq_true rfl⟩) rfl rfl (fun H locs X => ?_)
        refine lv_if_eq (tgt := 47) hx hb dX6_howManyFit_38 (by decide) (fun c38 => ?_) (fun c38 => ?_)
        · have hf := g_t hf c38
          refine lv_iload hx hb dX6_howManyFit_47 (lv_at hl 5 rfl) ?_
          exact g_iret (wsC E ad) C hr hk X hf dX6_howManyFit_49
        · have hf := g_f hf c38
          refine lv_iinc (v := x5 + (1 : Int32)) (lv' := [(5, .int (x5 + (1 : Int32))), (0, .ref (ad 1)), (1, .int x1), (2, .int x2), (3, .int x3), (4, .int x4)]) hx hb dX6_howManyFit_41 hl (k := 5) rfl rfl (by decide) rfl (fun ls hl => ?_)
          refine lv_goto (tgt := 16) hx hb dX6_howManyFit_44 (by decide) ?_
          exact ih16 q35.2 x1 x2 x3 x4 (x5 + (1 : Int32)) ls H locs hf (lv_sub hl [1, 2, 3, 4, 5, 0] rfl) X
  unfold fC_S_howManyFit at hf
  refine lv_aload_n hx hb dX6_howManyFit_0 rfl (lv_at hl 0 rfl) ?_
  refine lv_iload_n hx hb dX6_howManyFit_1 rfl (lv_at hl 1 rfl) ?_
  refine lv_ldc (v := 57344) hx hb C.1.2.2.2.1 (C.1.2.2.2.2 _ m_414) dX6_howManyFit_2 ?_
  obtain ⟨q4, e4, hf⟩ := g_be hf
  refine g_calli X (g_runV (As := [.int a1, .int (57344 : Int32)]) (rest := []) C X (cC_S_isIn l E A ad w q4.2 q4.1 a1 (57344 : Int32) e4) kX6_isIn m_372 1 4 rfl rfl hl.1 rfl ⟨Nat.le_of_ble_eq_true rfl, Nat.le_of_ble_eq_true rfl⟩ rfl (Nat.le_of_ble_eq_true rfl) dX6_howManyFit_4 ⟨Nat.le_of_ble_eq_true rfl, Nat.le_of_ble_eq_true rfl⟩) rfl rfl (fun H locs X => ?_)
  refine lv_if_eq (tgt := 13) hx hb dX6_howManyFit_7 (by decide) (fun c7 => ?_) (fun c7 => ?_)
  · have hf := g_t hf c7
    refine lv_iconst (v := 0) hx hb dX6_howManyFit_13 (by decide) ?_
    refine lv_istore (lv' := [(5, .int (0 : Int32)), (0, .ref (ad 1)), (1, .int a1), (2, .int a2), (3, .int a3), (4, .int a4)]) hx hb dX6_howManyFit_14 hl (by decide) rfl (fun ls hl => ?_)
    exact j16 g_fuel q4.2 a1 a2 a3 a4 (0 : Int32) ls H locs hf (lv_sub hl [1, 2, 3, 4, 5, 0] rfl) X
  · have hf := g_f hf c7
    refine lv_iload hx hb dX6_howManyFit_10 (lv_at hl 4 rfl) ?_
    exact g_iret (wsC E ad) C hr hk X hf dX6_howManyFit_12
set_option maxRecDepth 100000 in
set_option maxHeartbeats 4000000 in
theorem cC_S_isHistoryFull (l : Launch) (E : g_Env) (A : Nat → Prop) (ad : Nat → Nat) (w : CS) (w' : CS) (r : Int32)  (hf : fC_S_isHistoryFull w  = some (r, w')) : g_Mi l yX6_isHistoryFull cX6_isHistoryFull 1 ((some .boolean)) ({ frames := 0, cells := 0, slots := 0, locals := 0 }) E A [.ref (ad 1)] (wsC E ad w) r (wsC E ad w') := by
  refine g_start (by decide) (Nat.le_of_ble_eq_true rfl) ?_
  intro p e s m below meth c C hr hk hnm ls hl H locs X
  have hx := C.1.1
  have hb := C.1.2.1
  have hl : lv_has ls 1 [(0, .ref (ad 1))] := hl
  unfold fC_S_isHistoryFull at hf
  refine lv_aload_n hx hb dX6_isHistoryFull_0 rfl (lv_at hl 0 rfl) ?_
  refine g_get C X g_iX6 1 rfl rfl 3 (by decide) rfl m_101 rfl dX6_isHistoryFull_1 ?_
  refine lv_sipush (v := 512) hx hb dX6_isHistoryFull_4 (by decide) ?_
  refine lv_icmp_lt (tgt := 14) hx hb dX6_isHistoryFull_7 (by decide) (fun c7 => ?_) (fun c7 => ?_)
  · have hf := g_t hf c7
    refine lv_iconst (v := 0) hx hb dX6_isHistoryFull_14 (by decide) ?_
    exact g_zret (wsC E ad) C hr hk rfl X hf dX6_isHistoryFull_15
  · have hf := g_f hf c7
    refine lv_iconst (v := 1) hx hb dX6_isHistoryFull_10 (by decide) ?_
    refine lv_goto (tgt := 15) hx hb dX6_isHistoryFull_11 (by decide) ?_
    exact g_zret (wsC E ad) C hr hk rfl X hf dX6_isHistoryFull_15
set_option maxRecDepth 100000 in
set_option maxHeartbeats 4000000 in
theorem cC_S_movePlaces (l : Launch) (E : g_Env) (A : Nat → Prop) (ad : Nat → Nat) (w : CS) (w' : CS) (a1 : Int32) (a2 : Int32) (a3 : Int32) (a4 : Int32) (a5 : Int32) (hf : fC_S_movePlaces w a1 a2 a3 a4 a5 = some w') : g_Mv l yX6_movePlaces cX6_movePlaces 6 ({ frames := 2, cells := 0, slots := 0, locals := 46 }) E A [.ref (ad 1), .int a1, .int a2, .int a3, .int a4, .int a5] (wsC E ad w) (wsC E ad w') := by
  refine g_start (by decide) (Nat.le_of_ble_eq_true rfl) ?_
  intro p e s m below meth c C hr hk hnm ls hl H locs X
  have hx := C.1.1
  have hb := C.1.2.1
  have hl : lv_has ls 6 [(0, .ref (ad 1)), (1, .int a1), (2, .int a2), (3, .int a3), (4, .int a4), (5, .int a5)] := hl
  unfold fC_S_movePlaces at hf
  refine lv_aload_n hx hb dX6_movePlaces_0 rfl (lv_at hl 0 rfl) ?_
  refine lv_iload_n hx hb dX6_movePlaces_1 rfl (lv_at hl 1 rfl) ?_
  refine lv_iload_n hx hb dX6_movePlaces_2 rfl (lv_at hl 2 rfl) ?_
  refine lv_iload hx hb dX6_movePlaces_3 (lv_at hl 5 rfl) ?_
  obtain ⟨q5, e5, hf⟩ := g_be hf
  refine g_calli X (g_runV (As := [.int a1, .int a2, .int a5]) (rest := []) C X (cC_S_hasPlaces l E A ad w q5.2 q5.1 a1 a2 a5 e5) kX6_hasPlaces m_421 1 4 rfl rfl hl.1 rfl ⟨Nat.le_of_ble_eq_true rfl, Nat.le_of_ble_eq_true rfl⟩ rfl (Nat.le_of_ble_eq_true rfl) dX6_movePlaces_5 ⟨Nat.le_of_ble_eq_true rfl, Nat.le_of_ble_eq_true rfl⟩) rfl rfl (fun H locs X => ?_)
  refine lv_if_eq (tgt := 47) hx hb dX6_movePlaces_8 (by decide) (fun c8 => ?_) (fun c8 => ?_)
  · have hf := g_t hf c8
    exact g_vret (wsC E ad) C hr hk X hf dX6_movePlaces_47
  · have hf := g_f hf c8
    refine lv_aload_n hx hb dX6_movePlaces_11 rfl (lv_at hl 0 rfl) ?_
    refine lv_iload_n hx hb dX6_movePlaces_12 rfl (lv_at hl 3 rfl) ?_
    refine lv_iload hx hb dX6_movePlaces_13 (lv_at hl 4 rfl) ?_
    refine lv_iload hx hb dX6_movePlaces_15 (lv_at hl 5 rfl) ?_
    obtain ⟨q17, e17, hf⟩ := g_be hf
    refine g_calli X (g_runV (As := [.int a3, .int a4, .int a5]) (rest := []) C X (cC_S_hasPlaces l E A ad q5.2 q17.2 q17.1 a3 a4 a5 e17) kX6_hasPlaces m_421 1 4 rfl rfl hl.1 rfl ⟨Nat.le_of_ble_eq_true rfl, Nat.le_of_ble_eq_true rfl⟩ rfl (Nat.le_of_ble_eq_true rfl) dX6_movePlaces_17 ⟨Nat.le_of_ble_eq_true rfl, Nat.le_of_ble_eq_true rfl⟩) rfl rfl (fun H locs X => ?_)
    refine lv_if_eq (tgt := 47) hx hb dX6_movePlaces_20 (by decide) (fun c20 => ?_) (fun c20 => ?_)
    · have hf := g_t hf c20
      exact g_vret (wsC E ad) C hr hk X hf dX6_movePlaces_47
    · have hf := g_f hf c20
      refine lv_aload_n hx hb dX6_movePlaces_23 rfl (lv_at hl 0 rfl) ?_
      refine g_get C X g_iX6 1 rfl rfl 0 (by decide) rfl m_98 rfl dX6_movePlaces_24 ?_
      refine lv_iload_n hx hb dX6_movePlaces_27 rfl (lv_at hl 1 rfl) ?_
      refine lv_iload_n hx hb dX6_movePlaces_28 rfl (lv_at hl 2 rfl) ?_
      obtain ⟨q29, e29, hf⟩ := g_be hf
      refine g_calli X (g_runS (As := [.int a1, .int a2]) (rest := [.ref (ad 2)]) C X (cC_S_placeCell l E A ad q17.2 q29.2 q29.1 a1 a2 e29) kX6_placeCell m_257 hl.1 rfl ⟨Nat.le_of_ble_eq_true rfl, Nat.le_of_ble_eq_true rfl⟩ rfl (Nat.le_of_ble_eq_true rfl) dX6_movePlaces_29 ⟨Nat.le_of_ble_eq_true rfl, Nat.le_of_ble_eq_true rfl⟩) rfl rfl (fun H locs X => ?_)
      refine lv_aload_n hx hb dX6_movePlaces_32 rfl (lv_at hl 0 rfl) ?_
      refine g_get C X g_iX6 1 rfl rfl 0 (by decide) rfl m_98 rfl dX6_movePlaces_33 ?_
      refine lv_iload_n hx hb dX6_movePlaces_36 rfl (lv_at hl 3 rfl) ?_
      refine lv_iload hx hb dX6_movePlaces_37 (lv_at hl 4 rfl) ?_
      obtain ⟨q39, e39, hf⟩ := g_be hf
      refine g_calli X (g_runS (As := [.int a3, .int a4]) (rest := [.ref (ad 2), .int q29.1, .ref (ad 2)]) C X (cC_S_placeCell l E A ad q29.2 q39.2 q39.1 a3 a4 e39) kX6_placeCell m_257 hl.1 rfl ⟨Nat.le_of_ble_eq_true rfl, Nat.le_of_ble_eq_true rfl⟩ rfl (Nat.le_of_ble_eq_true rfl) dX6_movePlaces_39 ⟨Nat.le_of_ble_eq_true rfl, Nat.le_of_ble_eq_true rfl⟩) rfl rfl (fun H locs X => ?_)
      refine lv_iload hx hb dX6_movePlaces_42 (lv_at hl 5 rfl) ?_
      obtain ⟨h44, hf⟩ := g_cpe hf
      obtain ⟨w44, e44, hf⟩ := g_le hf
      refine g_copyl C X hl.1 m_281 m_283 m_282 m_79 2 2 rfl rfl h44 (Nat.le_of_ble_eq_true rfl) (Nat.le_of_ble_eq_true rfl) dX6_movePlaces_44 (ws2 := wsC E ad w44) (by subst e44; rfl) (fun H locs X => ?_)
      exact g_vret (wsC E ad) C hr hk X hf dX6_movePlaces_47
set_option maxRecDepth 100000 in
set_option maxHeartbeats 4000000 in
theorem cC__isShelf (l : Launch) (E : g_Env) (A : Nat → Prop) (ad : Nat → Nat) (w : CS) (w' : CS) (r : Int32) (a0 : Int32) (hf : fC__isShelf w a0 = some (r, w')) : g_Mi l yX7_isShelf cX7_isShelf 1 ((some .boolean)) ({ frames := 0, cells := 0, slots := 0, locals := 0 }) E A [.int a0] (wsC E ad w) r (wsC E ad w') := by
  refine g_start (by decide) (Nat.le_of_ble_eq_true rfl) ?_
  intro p e s m below meth c C hr hk hnm ls hl H locs X
  have hx := C.1.1
  have hb := C.1.2.1
  have hl : lv_has ls 1 [(0, .int a0)] := hl
  unfold fC__isShelf at hf
  refine lv_iload_n hx hb dX7_isShelf_0 rfl (lv_at hl 0 rfl) ?_
  refine lv_if_lt (tgt := 14) hx hb dX7_isShelf_1 (by decide) (fun c1 => ?_) (fun c1 => ?_)
  · have hf := g_t hf c1
    refine lv_iconst (v := 0) hx hb dX7_isShelf_14 (by decide) ?_
    exact g_zret (wsC E ad) C hr hk rfl X hf dX7_isShelf_15
  · have hf := g_f hf c1
    refine lv_iload_n hx hb dX7_isShelf_4 rfl (lv_at hl 0 rfl) ?_
    refine lv_bipush (v := 16) hx hb dX7_isShelf_5 (by decide) ?_
    refine lv_icmp_ge (tgt := 14) hx hb dX7_isShelf_7 (by decide) (fun c7 => ?_) (fun c7 => ?_)
    · have hf := g_t hf c7
      refine lv_iconst (v := 0) hx hb dX7_isShelf_14 (by decide) ?_
      exact g_zret (wsC E ad) C hr hk rfl X hf dX7_isShelf_15
    · have hf := g_f hf c7
      refine lv_iconst (v := 1) hx hb dX7_isShelf_10 (by decide) ?_
      refine lv_goto (tgt := 15) hx hb dX7_isShelf_11 (by decide) ?_
      exact g_zret (wsC E ad) C hr hk rfl X hf dX7_isShelf_15
set_option maxRecDepth 100000 in
set_option maxHeartbeats 4000000 in
theorem cC_S_onShelf (l : Launch) (E : g_Env) (A : Nat → Prop) (ad : Nat → Nat) (w : CS) (w' : CS) (r : Int32) (a1 : Int32) (hf : fC_S_onShelf w a1 = some (r, w')) : g_Mi l yX6_onShelf cX6_onShelf 2 ((some .int)) ({ frames := 1, cells := 0, slots := 0, locals := 20 }) E A [.ref (ad 1), .int a1] (wsC E ad w) r (wsC E ad w') := by
  refine g_start (by decide) (Nat.le_of_ble_eq_true rfl) ?_
  intro p e s m below meth c C hr hk hnm ls hl H locs X
  have hx := C.1.1
  have hb := C.1.2.1
  have hl : lv_has ls 2 [(0, .ref (ad 1)), (1, .int a1)] := hl
  unfold fC_S_onShelf at hf
  refine lv_iload_n hx hb dX6_onShelf_0 rfl (lv_at hl 1 rfl) ?_
  obtain ⟨q1, e1, hf⟩ := g_be hf
  refine g_calli X (g_runSN (As := [.int a1]) (rest := []) C X (cC__isShelf l E A ad w q1.2 q1.1 a1 e1) kX7_isShelf n_12 hl.1 rfl ⟨Nat.le_of_ble_eq_true rfl, Nat.le_of_ble_eq_true rfl⟩ rfl (Nat.le_of_ble_eq_true rfl) dX6_onShelf_1 ⟨Nat.le_of_ble_eq_true rfl, Nat.le_of_ble_eq_true rfl⟩) rfl rfl (fun H locs X => ?_)
  refine lv_if_eq (tgt := 17) hx hb dX6_onShelf_4 (by decide) (fun c4 => ?_) (fun c4 => ?_)
  · have hf := g_t hf c4
    refine lv_iconst (v := -1) hx hb dX6_onShelf_17 (by decide) ?_
    exact g_iret (wsC E ad) C hr hk X hf dX6_onShelf_18
  · have hf := g_f hf c4
    refine lv_aload_n hx hb dX6_onShelf_7 rfl (lv_at hl 0 rfl) ?_
    refine g_get C X g_iX6 1 rfl rfl 0 (by decide) rfl m_98 rfl dX6_onShelf_8 ?_
    refine lv_iload_n hx hb dX6_onShelf_11 rfl (lv_at hl 1 rfl) ?_
    obtain ⟨h12, hf⟩ := g_cke hf
    obtain ⟨v12, e12, hf⟩ := g_le hf
    refine g_lald C X 2 rfl h12 e12 dX6_onShelf_12 ?_
    refine lv_l2i hx hb dX6_onShelf_13 rfl ?_
    refine lv_goto (tgt := 18) hx hb dX6_onShelf_14 (by decide) ?_
    exact g_iret (wsC E ad) C hr hk X hf dX6_onShelf_18
set_option maxRecDepth 100000 in
set_option maxHeartbeats 4000000 in
theorem cC_S_setShelf (l : Launch) (E : g_Env) (A : Nat → Prop) (ad : Nat → Nat) (w : CS) (w' : CS) (a1 : Int32) (a2 : Int32) (hf : fC_S_setShelf w a1 a2 = some w') : g_Mv l yX6_setShelf cX6_setShelf 3 ({ frames := 1, cells := 0, slots := 0, locals := 20 }) E A [.ref (ad 1), .int a1, .int a2] (wsC E ad w) (wsC E ad w') := by
  refine g_start (by decide) (Nat.le_of_ble_eq_true rfl) ?_
  intro p e s m below meth c C hr hk hnm ls hl H locs X
  have hx := C.1.1
  have hb := C.1.2.1
  have hl : lv_has ls 3 [(0, .ref (ad 1)), (1, .int a1), (2, .int a2)] := hl
  unfold fC_S_setShelf at hf
  refine lv_iload_n hx hb dX6_setShelf_0 rfl (lv_at hl 1 rfl) ?_
  obtain ⟨q1, e1, hf⟩ := g_be hf
  refine g_calli X (g_runSN (As := [.int a1]) (rest := []) C X (cC__isShelf l E A ad w q1.2 q1.1 a1 e1) kX7_isShelf n_12 hl.1 rfl ⟨Nat.le_of_ble_eq_true rfl, Nat.le_of_ble_eq_true rfl⟩ rfl (Nat.le_of_ble_eq_true rfl) dX6_setShelf_1 ⟨Nat.le_of_ble_eq_true rfl, Nat.le_of_ble_eq_true rfl⟩) rfl rfl (fun H locs X => ?_)
  refine lv_if_eq (tgt := 15) hx hb dX6_setShelf_4 (by decide) (fun c4 => ?_) (fun c4 => ?_)
  · have hf := g_t hf c4
    exact g_vret (wsC E ad) C hr hk X hf dX6_setShelf_15
  · have hf := g_f hf c4
    refine lv_aload_n hx hb dX6_setShelf_7 rfl (lv_at hl 0 rfl) ?_
    refine g_get C X g_iX6 1 rfl rfl 0 (by decide) rfl m_98 rfl dX6_setShelf_8 ?_
    refine lv_iload_n hx hb dX6_setShelf_11 rfl (lv_at hl 1 rfl) ?_
    refine lv_iload_n hx hb dX6_setShelf_12 rfl (lv_at hl 2 rfl) ?_
    refine lv_i2l hx hb dX6_setShelf_13 rfl ?_
    obtain ⟨h14, hf⟩ := g_cke hf
    obtain ⟨w14, e14, hf⟩ := g_le hf
    refine g_last C X 2 rfl h14 dX6_setShelf_14 (ws2 := wsC E ad w14) (by subst e14; rfl) (fun H locs X => ?_)
    exact g_vret (wsC E ad) C hr hk X hf dX6_setShelf_15
set_option maxRecDepth 100000 in
set_option maxHeartbeats 4000000 in
theorem cC__acts (l : Launch) (E : g_Env) (A : Nat → Prop) (ad : Nat → Nat) (w : CS) (w' : CS) (r : Int32)  (hf : fC__acts w  = some (r, w')) : g_Mi l yX7_acts cX7_acts 1 ((some .int)) ({ frames := 0, cells := 0, slots := 0, locals := 0 }) E A [.ref (ad 0)] (wsC E ad w) r (wsC E ad w') := by
  refine g_start (by decide) (Nat.le_of_ble_eq_true rfl) ?_
  intro p e s m below meth c C hr hk hnm ls hl H locs X
  have hx := C.1.1
  have hb := C.1.2.1
  have hl : lv_has ls 1 [(0, .ref (ad 0))] := hl
  unfold fC__acts at hf
  refine lv_aload_n hx hb dX7_acts_0 rfl (lv_at hl 0 rfl) ?_
  refine lv_iconst (v := 0) hx hb dX7_acts_1 (by decide) ?_
  obtain ⟨w2, e2, hf⟩ := g_le hf
  refine g_put C X g_iX7 tyX7_ok nmX7 0 rfl rfl 3 (by decide) rfl m_151 rfl rfl rfl (Nat.le_of_ble_eq_true rfl) dX7_acts_2 (ws2 := wsC E ad w2) (by subst e2; rfl) (fun H locs X => ?_)
  refine lv_aload_n hx hb dX7_acts_5 rfl (lv_at hl 0 rfl) ?_
  refine g_get C X g_iX7 0 rfl rfl 0 (by decide) rfl m_148 rfl dX7_acts_6 ?_
  refine g_getN C X g_iX6 1 rfl rfl 3 (by decide) rfl n_0 rfl dX7_acts_9 ?_
  exact g_iret (wsC E ad) C hr hk X hf dX7_acts_12
set_option maxRecDepth 100000 in
set_option maxHeartbeats 4000000 in
theorem cC__refuse (l : Launch) (E : g_Env) (A : Nat → Prop) (ad : Nat → Nat) (w : CS) (w' : CS) (r : Int32) (a1 : Int32) (hf : fC__refuse w a1 = some (r, w')) : g_Mi l yX7_refuse cX7_refuse 2 ((some .int)) ({ frames := 0, cells := 0, slots := 0, locals := 0 }) E A [.ref (ad 0), .int a1] (wsC E ad w) r (wsC E ad w') := by
  refine g_start (by decide) (Nat.le_of_ble_eq_true rfl) ?_
  intro p e s m below meth c C hr hk hnm ls hl H locs X
  have hx := C.1.1
  have hb := C.1.2.1
  have hl : lv_has ls 2 [(0, .ref (ad 0)), (1, .int a1)] := hl
  unfold fC__refuse at hf
  refine lv_aload_n hx hb dX7_refuse_0 rfl (lv_at hl 0 rfl) ?_
  refine lv_iload_n hx hb dX7_refuse_1 rfl (lv_at hl 1 rfl) ?_
  obtain ⟨w2, e2, hf⟩ := g_le hf
  refine g_put C X g_iX7 tyX7_ok nmX7 0 rfl rfl 3 (by decide) rfl m_151 rfl rfl rfl (Nat.le_of_ble_eq_true rfl) dX7_refuse_2 (ws2 := wsC E ad w2) (by subst e2; rfl) (fun H locs X => ?_)
  refine lv_iconst (v := 0) hx hb dX7_refuse_5 (by decide) ?_
  exact g_iret (wsC E ad) C hr hk X hf dX7_refuse_6
set_option maxRecDepth 100000 in
set_option maxHeartbeats 4000000 in
theorem cC__askWhether (l : Launch) (E : g_Env) (A : Nat → Prop) (ad : Nat → Nat) (w : CS) (w' : CS) (r : Int32) (a1 : Int32) (a2 : Int32) (hf : fC__askWhether w a1 a2 = some (r, w')) : g_Mi l yX7_askWhether cX7_askWhether 3 ((some .int)) ({ frames := 2, cells := 0, slots := 0, locals := 45 }) E A [.ref (ad 0), .int a1, .int a2] (wsC E ad w) r (wsC E ad w') := by
  refine g_start (by decide) (Nat.le_of_ble_eq_true rfl) ?_
  intro p e s m below meth c C hr hk hnm ls hl H locs X
  have hx := C.1.1
  have hb := C.1.2.1
  have hl : lv_has ls 3 [(0, .ref (ad 0)), (1, .int a1), (2, .int a2)] := hl
  unfold fC__askWhether at hf
  refine lv_aload_n hx hb dX7_askWhether_0 rfl (lv_at hl 0 rfl) ?_
  refine lv_iconst (v := 0) hx hb dX7_askWhether_1 (by decide) ?_
  obtain ⟨w2, e2, hf⟩ := g_le hf
  refine g_put C X g_iX7 tyX7_ok nmX7 0 rfl rfl 3 (by decide) rfl m_151 rfl rfl rfl (Nat.le_of_ble_eq_true rfl) dX7_askWhether_2 (ws2 := wsC E ad w2) (by subst e2; rfl) (fun H locs X => ?_)
  refine lv_iload_n hx hb dX7_askWhether_5 rfl (lv_at hl 1 rfl) ?_
  obtain ⟨q6, e6, hf⟩ := g_be hf
  refine g_calli X (g_runS (As := [.int a1]) (rest := []) C X (cC__isShelf l E A ad w2 q6.2 q6.1 a1 e6) kX7_isShelf m_216 hl.1 rfl ⟨Nat.le_of_ble_eq_true rfl, Nat.le_of_ble_eq_true rfl⟩ rfl (Nat.le_of_ble_eq_true rfl) dX7_askWhether_6 ⟨Nat.le_of_ble_eq_true rfl, Nat.le_of_ble_eq_true rfl⟩) rfl rfl (fun H locs X => ?_)
  refine lv_if_eq (tgt := 19) hx hb dX7_askWhether_9 (by decide) (fun c9 => ?_) (fun c9 => ?_)
  · have hf := g_t hf c9
    refine lv_aload_n hx hb dX7_askWhether_19 rfl (lv_at hl 0 rfl) ?_
    refine lv_iconst (v := 1) hx hb dX7_askWhether_20 (by decide) ?_
    obtain ⟨q21, e21, hf⟩ := g_be hf
    refine g_calli X (g_runV (As := [.int (1 : Int32)]) (rest := []) C X (cC__refuse l E A ad q6.2 q21.2 q21.1 (1 : Int32) e21) kX7_refuse m_204 0 5 rfl rfl hl.1 rfl ⟨Nat.le_of_ble_eq_true rfl, Nat.le_of_ble_eq_true rfl⟩ rfl (Nat.le_of_ble_eq_true rfl) dX7_askWhether_21 ⟨Nat.le_of_ble_eq_true rfl, Nat.le_of_ble_eq_true rfl⟩) rfl rfl (fun H locs X => ?_)
    exact g_iret (wsC E ad) C hr hk X hf dX7_askWhether_24
  · have hf := g_f hf c9
    refine lv_iload_n hx hb dX7_askWhether_12 rfl (lv_at hl 2 rfl) ?_
    obtain ⟨q13, e13, hf⟩ := g_be hf
    refine g_calli X (g_runS (As := [.int a2]) (rest := []) C X (cC_K_isKind l E A ad q6.2 q13.2 q13.1 a2 e13) kX2_isKind m_576 hl.1 rfl ⟨Nat.le_of_ble_eq_true rfl, Nat.le_of_ble_eq_true rfl⟩ rfl (Nat.le_of_ble_eq_true rfl) dX7_askWhether_13 ⟨Nat.le_of_ble_eq_true rfl, Nat.le_of_ble_eq_true rfl⟩) rfl rfl (fun H locs X => ?_)
    refine lv_if_ne (tgt := 25) hx hb dX7_askWhether_16 (by decide) (fun c16 => ?_) (fun c16 => ?_)
    · have hf := g_f hf c16
      refine lv_aload_n hx hb dX7_askWhether_25 rfl (lv_at hl 0 rfl) ?_
      refine g_get C X g_iX7 0 rfl rfl 0 (by decide) rfl m_148 rfl dX7_askWhether_26 ?_
      refine lv_aload_n hx hb dX7_askWhether_29 rfl (lv_at hl 0 rfl) ?_
      refine g_get C X g_iX7 0 rfl rfl 0 (by decide) rfl m_148 rfl dX7_askWhether_30 ?_
      refine lv_iload_n hx hb dX7_askWhether_33 rfl (lv_at hl 1 rfl) ?_
      obtain ⟨q34, e34, hf⟩ := g_be hf
      refine g_calli X (g_runV (As := [.int a1]) (rest := [.ref (ad 1)]) C X (cC_S_onShelf l E A ad q13.2 q34.2 q34.1 a1 e34) kX6_onShelf m_333 1 4 rfl rfl hl.1 rfl ⟨Nat.le_of_ble_eq_true rfl, Nat.le_of_ble_eq_true rfl⟩ rfl (Nat.le_of_ble_eq_true rfl) dX7_askWhether_34 ⟨Nat.le_of_ble_eq_true rfl, Nat.le_of_ble_eq_true rfl⟩) rfl rfl (fun H locs X => ?_)
      refine lv_iconst (v := 1) hx hb dX7_askWhether_37 (by decide) ?_
      refine lv_iload_n hx hb dX7_askWhether_38 rfl (lv_at hl 2 rfl) ?_
      refine lv_ishl hx hb dX7_askWhether_39 ?_
      obtain ⟨q40, e40, hf⟩ := g_be hf
      refine g_calli X (g_runV (As := [.int q34.1, .int ((1 : Int32) <<< (a2 &&& 31))]) (rest := []) C X (cC_S_isIn l E A ad q34.2 q40.2 q40.1 q34.1 ((1 : Int32) <<< (a2 &&& 31)) e40) kX6_isIn m_358 1 4 rfl rfl hl.1 rfl ⟨Nat.le_of_ble_eq_true rfl, Nat.le_of_ble_eq_true rfl⟩ rfl (Nat.le_of_ble_eq_true rfl) dX7_askWhether_40 ⟨Nat.le_of_ble_eq_true rfl, Nat.le_of_ble_eq_true rfl⟩) rfl rfl (fun H locs X => ?_)
      refine lv_if_eq (tgt := 50) hx hb dX7_askWhether_43 (by decide) (fun c43 => ?_) (fun c43 => ?_)
      · have hf := g_t hf c43
        refine lv_iconst (v := 0) hx hb dX7_askWhether_50 (by decide) ?_
        exact g_iret (wsC E ad) C hr hk X hf dX7_askWhether_51
      · have hf := g_f hf c43
        refine lv_iconst (v := 1) hx hb dX7_askWhether_46 (by decide) ?_
        refine lv_goto (tgt := 51) hx hb dX7_askWhether_47 (by decide) ?_
        exact g_iret (wsC E ad) C hr hk X hf dX7_askWhether_51
    · have hf := g_t hf c16
      refine lv_aload_n hx hb dX7_askWhether_19 rfl (lv_at hl 0 rfl) ?_
      refine lv_iconst (v := 1) hx hb dX7_askWhether_20 (by decide) ?_
      obtain ⟨q21, e21, hf⟩ := g_be hf
      refine g_calli X (g_runV (As := [.int (1 : Int32)]) (rest := []) C X (cC__refuse l E A ad q13.2 q21.2 q21.1 (1 : Int32) e21) kX7_refuse m_204 0 5 rfl rfl hl.1 rfl ⟨Nat.le_of_ble_eq_true rfl, Nat.le_of_ble_eq_true rfl⟩ rfl (Nat.le_of_ble_eq_true rfl) dX7_askWhether_21 ⟨Nat.le_of_ble_eq_true rfl, Nat.le_of_ble_eq_true rfl⟩) rfl rfl (fun H locs X => ?_)
      exact g_iret (wsC E ad) C hr hk X hf dX7_askWhether_24
