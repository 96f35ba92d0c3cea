set_option maxRecDepth 100000 in
set_option maxHeartbeats 4000000 in
theorem cC__ask (l : Launch) (E : g_Env) (A : Nat → Prop) (ad : Nat → Nat) (w : CS) (w' : CS) (r : Int32) (a1 : Int32) (a2 : Int32) (hf : fC__ask w a1 a2 = some (r, w')) : g_Mi l yX7_ask cX7_ask 3 ((some .int)) ({ frames := 3, cells := 0, slots := 0, locals := 67 }) E A [.ref (ad 0), .int a1, .int a2] (wsC E ad w) r (wsC E ad w') := by
  refine g_start (by decide) (Nat.le_of_ble_eq_true rfl) ?_
  intro p e s m below meth c C hr hk hnm ls hl H locs X
  have hx := C.1.1
  have hb := C.1.2.1
  have hl : lv_has ls 3 [(0, .ref (ad 0)), (1, .int a1), (2, .int a2)] := hl
  unfold fC__ask at hf
  refine lv_aload_n hx hb dX7_ask_0 rfl (lv_at hl 0 rfl) ?_
  refine lv_iload_n hx hb dX7_ask_1 rfl (lv_at hl 1 rfl) ?_
  refine lv_iload_n hx hb dX7_ask_2 rfl (lv_at hl 2 rfl) ?_
  obtain ⟨q3, e3, hf⟩ := g_be hf
  refine g_calli X (g_runV (As := [.int a1, .int a2]) (rest := []) C X (cC__askWhether l E A ad w q3.2 q3.1 a1 a2 e3) kX7_askWhether m_572 0 5 rfl rfl hl.1 rfl ⟨Nat.le_of_ble_eq_true rfl, Nat.le_of_ble_eq_true rfl⟩ rfl (Nat.le_of_ble_eq_true rfl) dX7_ask_3 ⟨Nat.le_of_ble_eq_true rfl, Nat.le_of_ble_eq_true rfl⟩) rfl rfl (fun H locs X => ?_)
  exact g_iret (wsC E ad) C hr hk X hf dX7_ask_6
set_option maxRecDepth 100000 in
set_option maxHeartbeats 4000000 in
theorem cC__holdsNone (l : Launch) (E : g_Env) (A : Nat → Prop) (ad : Nat → Nat) (w : CS) (w' : CS) (r : Int32) (a1 : Int32) (a2 : Int32) (hf : fC__holdsNone w a1 a2 = some (r, w')) : g_Mi l yX7_holdsNone cX7_holdsNone 3 ((some .boolean)) ({ frames := 2, cells := 0, slots := 0, locals := 45 }) E A [.ref (ad 0), .int a1, .int a2] (wsC E ad w) r (wsC E ad w') := by
  refine g_start (by decide) (Nat.le_of_ble_eq_true rfl) ?_
  intro p e s m below meth c C hr hk hnm ls hl H locs X
  have hx := C.1.1
  have hb := C.1.2.1
  have hl : lv_has ls 3 [(0, .ref (ad 0)), (1, .int a1), (2, .int a2)] := hl
  have j64 : ∀ (w : CS)  (ls : Array Slot) (H : Heap) (locs : List Loc), fC__holdsNone_64 w  = some (r, w') → lv_has ls 3 [(0, .ref (ad 0))] → g_W E A s H locs (wsC E ad w) → W p l e ({ frames := 2, cells := 0, slots := 0, locals := 45 }) s m ([.ref (ad 0), .int a1, .int a2] : List Value).toArray below meth c H locs 0 0 (MQ below (va_Qi (fun (r' : Int32) (u' : va_W) => r' = r ∧ u' = wsC E ad w') (g_B E A) A) ([.ref (ad 0), .int a1, .int a2] : List Value).toArray s 0 0 A) (F0 m 64 ls []) := by
    intro w  ls H locs hf hl X
    unfold fC__holdsNone_64 at hf
    refine lv_aload_n hx hb dX7_holdsNone_64 rfl (lv_at hl 0 rfl) ?_
    refine g_get C X g_iX7 0 rfl rfl 3 (by decide) rfl m_151 rfl dX7_holdsNone_65 ?_
    refine lv_if_eq (tgt := 75) hx hb dX7_holdsNone_68 (by decide) (fun c68 => ?_) (fun c68 => ?_)
    · have hf := g_t hf c68
      refine lv_iconst (v := 0) hx hb dX7_holdsNone_75 (by decide) ?_
      exact g_zret (wsC E ad) C hr hk rfl X hf dX7_holdsNone_76
    · have hf := g_f hf c68
      refine lv_iconst (v := 1) hx hb dX7_holdsNone_71 (by decide) ?_
      refine lv_goto (tgt := 76) hx hb dX7_holdsNone_72 (by decide) ?_
      exact g_zret (wsC E ad) C hr hk rfl X hf dX7_holdsNone_76
  unfold fC__holdsNone at hf
  refine lv_aload_n hx hb dX7_holdsNone_0 rfl (lv_at hl 0 rfl) ?_
  refine lv_iconst (v := 0) hx hb dX7_holdsNone_1 (by decide) ?_
  obtain ⟨w2, e2, hf⟩ := g_le hf
  refine g_put C X g_iX7 tyX7_ok nmX7 0 rfl rfl 3 (by decide) rfl m_151 rfl rfl rfl (Nat.le_of_ble_eq_true rfl) dX7_holdsNone_2 (ws2 := wsC E ad w2) (by subst e2; rfl) (fun H locs X => ?_)
  refine lv_iload_n hx hb dX7_holdsNone_5 rfl (lv_at hl 1 rfl) ?_
  obtain ⟨q6, e6, hf⟩ := g_be hf
  refine g_calli X (g_runS (As := [.int a1]) (rest := []) C X (cC__isShelf l E A ad w2 q6.2 q6.1 a1 e6) kX7_isShelf m_216 hl.1 rfl ⟨Nat.le_of_ble_eq_true rfl, Nat.le_of_ble_eq_true rfl⟩ rfl (Nat.le_of_ble_eq_true rfl) dX7_holdsNone_6 ⟨Nat.le_of_ble_eq_true rfl, Nat.le_of_ble_eq_true rfl⟩) rfl rfl (fun H locs X => ?_)
  refine lv_if_ne (tgt := 20) hx hb dX7_holdsNone_9 (by decide) (fun c9 => ?_) (fun c9 => ?_)
  · have hf := g_f hf c9
    refine lv_aload_n hx hb dX7_holdsNone_20 rfl (lv_at hl 0 rfl) ?_
    refine g_get C X g_iX7 0 rfl rfl 0 (by decide) rfl m_148 rfl dX7_holdsNone_21 ?_
    refine lv_iload_n hx hb dX7_holdsNone_24 rfl (lv_at hl 1 rfl) ?_
    obtain ⟨q25, e25, hf⟩ := g_be hf
    refine g_calli X (g_runV (As := [.int a1]) (rest := []) C X (cC_S_onShelf l E A ad q6.2 q25.2 q25.1 a1 e25) kX6_onShelf m_333 1 4 rfl rfl hl.1 rfl ⟨Nat.le_of_ble_eq_true rfl, Nat.le_of_ble_eq_true rfl⟩ rfl (Nat.le_of_ble_eq_true rfl) dX7_holdsNone_25 ⟨Nat.le_of_ble_eq_true rfl, Nat.le_of_ble_eq_true rfl⟩) rfl rfl (fun H locs X => ?_)
    refine lv_iconst (v := -1) hx hb dX7_holdsNone_28 (by decide) ?_
    refine lv_icmp_ne (tgt := 40) hx hb dX7_holdsNone_29 (by decide) (fun c29 => ?_) (fun c29 => ?_)
    · have hf := g_f hf c29
      refine lv_aload_n hx hb dX7_holdsNone_40 rfl (lv_at hl 0 rfl) ?_
      refine g_get C X g_iX7 0 rfl rfl 0 (by decide) rfl m_148 rfl dX7_holdsNone_41 ?_
      refine lv_aload_n hx hb dX7_holdsNone_44 rfl (lv_at hl 0 rfl) ?_
      refine g_get C X g_iX7 0 rfl rfl 0 (by decide) rfl m_148 rfl dX7_holdsNone_45 ?_
      refine lv_iload_n hx hb dX7_holdsNone_48 rfl (lv_at hl 1 rfl) ?_
      obtain ⟨q49, e49, hf⟩ := g_be hf
      refine g_calli X (g_runV (As := [.int a1]) (rest := [.ref (ad 1)]) C X (cC_S_onShelf l E A ad q25.2 q49.2 q49.1 a1 e49) kX6_onShelf m_333 1 4 rfl rfl hl.1 rfl ⟨Nat.le_of_ble_eq_true rfl, Nat.le_of_ble_eq_true rfl⟩ rfl (Nat.le_of_ble_eq_true rfl) dX7_holdsNone_49 ⟨Nat.le_of_ble_eq_true rfl, Nat.le_of_ble_eq_true rfl⟩) rfl rfl (fun H locs X => ?_)
      refine lv_iload_n hx hb dX7_holdsNone_52 rfl (lv_at hl 2 rfl) ?_
      obtain ⟨q53, e53, hf⟩ := g_be hf
      refine g_calli X (g_runV (As := [.int q49.1, .int a2]) (rest := []) C X (cC_S_isIn l E A ad q49.2 q53.2 q53.1 q49.1 a2 e53) kX6_isIn m_358 1 4 rfl rfl hl.1 rfl ⟨Nat.le_of_ble_eq_true rfl, Nat.le_of_ble_eq_true rfl⟩ rfl (Nat.le_of_ble_eq_true rfl) dX7_holdsNone_53 ⟨Nat.le_of_ble_eq_true rfl, Nat.le_of_ble_eq_true rfl⟩) rfl rfl (fun H locs X => ?_)
      refine lv_if_ne (tgt := 64) hx hb dX7_holdsNone_56 (by decide) (fun c56 => ?_) (fun c56 => ?_)
      · have hf := g_f hf c56
        exact j64 q53.2  ls H locs hf (lv_sub hl [0] rfl) X
      · have hf := g_t hf c56
        refine lv_aload_n hx hb dX7_holdsNone_59 rfl (lv_at hl 0 rfl) ?_
        refine lv_iconst (v := 3) hx hb dX7_holdsNone_60 (by decide) ?_
        obtain ⟨w61, e61, hf⟩ := g_le hf
        refine g_put C X g_iX7 tyX7_ok nmX7 0 rfl rfl 3 (by decide) rfl m_151 rfl rfl rfl (Nat.le_of_ble_eq_true rfl) dX7_holdsNone_61 (ws2 := wsC E ad w61) (by subst e61; rfl) (fun H locs X => ?_)
        exact j64 w61  ls H locs hf (lv_sub hl [0] rfl) X
    · have hf := g_t hf c29
      refine lv_aload_n hx hb dX7_holdsNone_32 rfl (lv_at hl 0 rfl) ?_
      refine lv_iconst (v := 2) hx hb dX7_holdsNone_33 (by decide) ?_
      obtain ⟨w34, e34, hf⟩ := g_le hf
      refine g_put C X g_iX7 tyX7_ok nmX7 0 rfl rfl 3 (by decide) rfl m_151 rfl rfl rfl (Nat.le_of_ble_eq_true rfl) dX7_holdsNone_34 (ws2 := wsC E ad w34) (by subst e34; rfl) (fun H locs X => ?_)
      refine lv_goto (tgt := 64) hx hb dX7_holdsNone_37 (by decide) ?_
      exact j64 w34  ls H locs hf (lv_sub hl [0] rfl) X
  · have hf := g_t hf c9
    refine lv_aload_n hx hb dX7_holdsNone_12 rfl (lv_at hl 0 rfl) ?_
    refine lv_iconst (v := 1) hx hb dX7_holdsNone_13 (by decide) ?_
    obtain ⟨w14, e14, hf⟩ := g_le hf
    refine g_put C X g_iX7 tyX7_ok nmX7 0 rfl rfl 3 (by decide) rfl m_151 rfl rfl rfl (Nat.le_of_ble_eq_true rfl) dX7_holdsNone_14 (ws2 := wsC E ad w14) (by subst e14; rfl) (fun H locs X => ?_)
    refine lv_goto (tgt := 64) hx hb dX7_holdsNone_17 (by decide) ?_
    exact j64 w14  ls H locs hf (lv_sub hl [0] rfl) X
set_option maxRecDepth 100000 in
set_option maxHeartbeats 4000000 in
theorem cC__hasNoPlace (l : Launch) (E : g_Env) (A : Nat → Prop) (ad : Nat → Nat) (w : CS) (w' : CS) (r : Int32) (a1 : Int32) (a2 : Int32) (a3 : Int32) (hf : fC__hasNoPlace w a1 a2 a3 = some (r, w')) : g_Mi l yX7_hasNoPlace cX7_hasNoPlace 4 ((some .boolean)) ({ frames := 3, cells := 0, slots := 0, locals := 67 }) E A [.ref (ad 0), .int a1, .int a2, .int a3] (wsC E ad w) r (wsC E ad w') := by
  refine g_start (by decide) (Nat.le_of_ble_eq_true rfl) ?_
  intro p e s m below meth c C hr hk hnm ls hl H locs X
  have hx := C.1.1
  have hb := C.1.2.1
  have hl : lv_has ls 4 [(0, .ref (ad 0)), (1, .int a1), (2, .int a2), (3, .int a3)] := hl
  have j33 : ∀ (w : CS)  (ls : Array Slot) (H : Heap) (locs : List Loc), fC__hasNoPlace_33 w  = some (r, w') → lv_has ls 4 [(0, .ref (ad 0))] → g_W E A s H locs (wsC E ad w) → W p l e ({ frames := 3, cells := 0, slots := 0, locals := 67 }) s m ([.ref (ad 0), .int a1, .int a2, .int a3] : List Value).toArray below meth c H locs 0 0 (MQ below (va_Qi (fun (r' : Int32) (u' : va_W) => r' = r ∧ u' = wsC E ad w') (g_B E A) A) ([.ref (ad 0), .int a1, .int a2, .int a3] : List Value).toArray s 0 0 A) (F0 m 33 ls []) := by
    intro w  ls H locs hf hl X
    unfold fC__hasNoPlace_33 at hf
    refine lv_aload_n hx hb dX7_hasNoPlace_33 rfl (lv_at hl 0 rfl) ?_
    refine g_get C X g_iX7 0 rfl rfl 3 (by decide) rfl m_151 rfl dX7_hasNoPlace_34 ?_
    refine lv_if_eq (tgt := 44) hx hb dX7_hasNoPlace_37 (by decide) (fun c37 => ?_) (fun c37 => ?_)
    · have hf := g_t hf c37
      refine lv_iconst (v := 0) hx hb dX7_hasNoPlace_44 (by decide) ?_
      exact g_zret (wsC E ad) C hr hk rfl X hf dX7_hasNoPlace_45
    · have hf := g_f hf c37
      refine lv_iconst (v := 1) hx hb dX7_hasNoPlace_40 (by decide) ?_
      refine lv_goto (tgt := 45) hx hb dX7_hasNoPlace_41 (by decide) ?_
      exact g_zret (wsC E ad) C hr hk rfl X hf dX7_hasNoPlace_45
  unfold fC__hasNoPlace at hf
  refine lv_aload_n hx hb dX7_hasNoPlace_0 rfl (lv_at hl 0 rfl) ?_
  refine lv_iload_n hx hb dX7_hasNoPlace_1 rfl (lv_at hl 1 rfl) ?_
  refine lv_iload_n hx hb dX7_hasNoPlace_2 rfl (lv_at hl 2 rfl) ?_
  obtain ⟨q3, e3, hf⟩ := g_be hf
  refine g_calli X (g_runV (As := [.int a1, .int a2]) (rest := []) C X (cC__holdsNone l E A ad w q3.2 q3.1 a1 a2 e3) kX7_holdsNone m_354 0 5 rfl rfl hl.1 rfl ⟨Nat.le_of_ble_eq_true rfl, Nat.le_of_ble_eq_true rfl⟩ rfl (Nat.le_of_ble_eq_true rfl) dX7_hasNoPlace_3 ⟨Nat.le_of_ble_eq_true rfl, Nat.le_of_ble_eq_true rfl⟩) rfl rfl (fun H locs X => ?_)
  refine lv_if_ne (tgt := 33) hx hb dX7_hasNoPlace_6 (by decide) (fun c6 => ?_) (fun c6 => ?_)
  · have hf := g_f hf c6
    exact j33 q3.2  ls H locs hf (lv_sub hl [0] rfl) X
  · have hf := g_t hf c6
    refine lv_aload_n hx hb dX7_hasNoPlace_9 rfl (lv_at hl 0 rfl) ?_
    refine g_get C X g_iX7 0 rfl rfl 0 (by decide) rfl m_148 rfl dX7_hasNoPlace_10 ?_
    refine lv_aload_n hx hb dX7_hasNoPlace_13 rfl (lv_at hl 0 rfl) ?_
    refine g_get C X g_iX7 0 rfl rfl 0 (by decide) rfl m_148 rfl dX7_hasNoPlace_14 ?_
    refine lv_iload_n hx hb dX7_hasNoPlace_17 rfl (lv_at hl 1 rfl) ?_
    obtain ⟨q18, e18, hf⟩ := g_be hf
    refine g_calli X (g_runV (As := [.int a1]) (rest := [.ref (ad 1)]) C X (cC_S_onShelf l E A ad q3.2 q18.2 q18.1 a1 e18) kX6_onShelf m_333 1 4 rfl rfl hl.1 rfl ⟨Nat.le_of_ble_eq_true rfl, Nat.le_of_ble_eq_true rfl⟩ rfl (Nat.le_of_ble_eq_true rfl) dX7_hasNoPlace_18 ⟨Nat.le_of_ble_eq_true rfl, Nat.le_of_ble_eq_true rfl⟩) rfl rfl (fun H locs X => ?_)
    refine lv_iload_n hx hb dX7_hasNoPlace_21 rfl (lv_at hl 3 rfl) ?_
    obtain ⟨q22, e22, hf⟩ := g_be hf
    refine g_calli X (g_runV (As := [.int q18.1, .int a3]) (rest := []) C X (cC_S_hasPlace l E A ad q18.2 q22.2 q22.1 q18.1 a3 e22) kX6_hasPlace m_362 1 4 rfl rfl hl.1 rfl ⟨Nat.le_of_ble_eq_true rfl, Nat.le_of_ble_eq_true rfl⟩ rfl (Nat.le_of_ble_eq_true rfl) dX7_hasNoPlace_22 ⟨Nat.le_of_ble_eq_true rfl, Nat.le_of_ble_eq_true rfl⟩) rfl rfl (fun H locs X => ?_)
    refine lv_if_ne (tgt := 33) hx hb dX7_hasNoPlace_25 (by decide) (fun c25 => ?_) (fun c25 => ?_)
    · have hf := g_f hf c25
      exact j33 q22.2  ls H locs hf (lv_sub hl [0] rfl) X
    · have hf := g_t hf c25
      refine lv_aload_n hx hb dX7_hasNoPlace_28 rfl (lv_at hl 0 rfl) ?_
      refine lv_iconst (v := 4) hx hb dX7_hasNoPlace_29 (by decide) ?_
      obtain ⟨w30, e30, hf⟩ := g_le hf
      refine g_put C X g_iX7 tyX7_ok nmX7 0 rfl rfl 3 (by decide) rfl m_151 rfl rfl rfl (Nat.le_of_ble_eq_true rfl) dX7_hasNoPlace_30 (ws2 := wsC E ad w30) (by subst e30; rfl) (fun H locs X => ?_)
      exact j33 w30  ls H locs hf (lv_sub hl [0] rfl) X
set_option maxRecDepth 100000 in
set_option maxHeartbeats 4000000 in
theorem cC__at (l : Launch) (E : g_Env) (A : Nat → Prop) (ad : Nat → Nat) (w : CS) (w' : CS) (r : Int32) (a1 : Int32) (a2 : Int32) (a3 : Int32) (hf : fC__at w a1 a2 a3 = some (r, w')) : g_Mi l yX7_at cX7_at 6 ((some .int)) ({ frames := 4, cells := 0, slots := 0, locals := 90 }) E A [.ref (ad 0), .int a1, .int a2, .int a3] (wsC E ad w) r (wsC E ad w') := by
  refine g_start (by decide) (Nat.le_of_ble_eq_true rfl) ?_
  intro p e s m below meth c C hr hk hnm ls hl H locs X
  have hx := C.1.1
  have hb := C.1.2.1
  have hl : lv_has ls 6 [(0, .ref (ad 0)), (1, .int a1), (2, .int a2), (3, .int a3)] := hl
  unfold fC__at at hf
  refine lv_aload_n hx hb dX7_at_0 rfl (lv_at hl 0 rfl) ?_
  refine lv_iload_n hx hb dX7_at_1 rfl (lv_at hl 1 rfl) ?_
  refine lv_ldc (v := 8454144) hx hb C.1.2.2.2.1 (C.1.2.2.2.2 _ m_606) dX7_at_2 ?_
  refine lv_iload_n hx hb dX7_at_4 rfl (lv_at hl 2 rfl) ?_
  obtain ⟨q5, e5, hf⟩ := g_be hf
  refine g_calli X (g_runV (As := [.int a1, .int (8454144 : Int32), .int a2]) (rest := []) C X (cC__hasNoPlace l E A ad w q5.2 q5.1 a1 (8454144 : Int32) a2 e5) kX7_hasNoPlace m_350 0 5 rfl rfl hl.1 rfl ⟨Nat.le_of_ble_eq_true rfl, Nat.le_of_ble_eq_true rfl⟩ rfl (Nat.le_of_ble_eq_true rfl) dX7_at_5 ⟨Nat.le_of_ble_eq_true rfl, Nat.le_of_ble_eq_true rfl⟩) rfl rfl (fun H locs X => ?_)
  refine lv_if_eq (tgt := 13) hx hb dX7_at_8 (by decide) (fun c8 => ?_) (fun c8 => ?_)
  · have hf := g_t hf c8
    refine lv_aload_n hx hb dX7_at_13 rfl (lv_at hl 0 rfl) ?_
    refine g_get C X g_iX7 0 rfl rfl 0 (by decide) rfl m_148 rfl dX7_at_14 ?_
    refine lv_aload_n hx hb dX7_at_17 rfl (lv_at hl 0 rfl) ?_
    refine g_get C X g_iX7 0 rfl rfl 0 (by decide) rfl m_148 rfl dX7_at_18 ?_
    refine lv_iload_n hx hb dX7_at_21 rfl (lv_at hl 1 rfl) ?_
    obtain ⟨q22, e22, hf⟩ := g_be hf
    refine g_calli X (g_runV (As := [.int a1]) (rest := [.ref (ad 1)]) C X (cC_S_onShelf l E A ad q5.2 q22.2 q22.1 a1 e22) kX6_onShelf m_333 1 4 rfl rfl hl.1 rfl ⟨Nat.le_of_ble_eq_true rfl, Nat.le_of_ble_eq_true rfl⟩ rfl (Nat.le_of_ble_eq_true rfl) dX7_at_22 ⟨Nat.le_of_ble_eq_true rfl, Nat.le_of_ble_eq_true rfl⟩) rfl rfl (fun H locs X => ?_)
    refine lv_iload_n hx hb dX7_at_25 rfl (lv_at hl 2 rfl) ?_
    obtain ⟨q26, e26, hf⟩ := g_be hf
    refine g_calll X (g_runV (As := [.int q22.1, .int a2]) (rest := []) C X (cC_S_atPlace l E A ad q22.2 q26.2 q26.1 q22.1 a2 e26) kX6_atPlace m_373 1 4 rfl rfl hl.1 rfl ⟨Nat.le_of_ble_eq_true rfl, Nat.le_of_ble_eq_true rfl⟩ rfl (Nat.le_of_ble_eq_true rfl) dX7_at_26 ⟨Nat.le_of_ble_eq_true rfl, Nat.le_of_ble_eq_true rfl⟩) rfl rfl (fun H locs X => ?_)
    refine lv_l2i hx hb dX7_at_29 rfl ?_
    refine lv_istore (lv' := [(4, .int q26.1.toInt32), (0, .ref (ad 0)), (1, .int a1), (2, .int a2), (3, .int a3)]) hx hb dX7_at_30 hl (by decide) rfl (fun ls hl => ?_)
    refine lv_iload hx hb dX7_at_32 (lv_at hl 0 rfl) ?_
    refine lv_iconst (v := -1) hx hb dX7_at_34 (by decide) ?_
    refine lv_icmp_ne (tgt := 44) hx hb dX7_at_35 (by decide) (fun c35 => ?_) (fun c35 => ?_)
    · have hf := g_f hf c35
      refine lv_aload_n hx hb dX7_at_44 rfl (lv_at hl 1 rfl) ?_
      refine g_get C X g_iX7 0 rfl rfl 0 (by decide) rfl m_148 rfl dX7_at_45 ?_
      refine lv_iload hx hb dX7_at_48 (lv_at hl 0 rfl) ?_
      refine lv_iload_n hx hb dX7_at_50 rfl (lv_at hl 4 rfl) ?_
      obtain ⟨q51, e51, hf⟩ := g_be hf
      refine g_calli X (g_runV (As := [.int q26.1.toInt32, .int a3]) (rest := []) C X (cC_S_hasPlace l E A ad q26.2 q51.2 q51.1 q26.1.toInt32 a3 e51) kX6_hasPlace m_362 1 4 rfl rfl hl.1 rfl ⟨Nat.le_of_ble_eq_true rfl, Nat.le_of_ble_eq_true rfl⟩ rfl (Nat.le_of_ble_eq_true rfl) dX7_at_51 ⟨Nat.le_of_ble_eq_true rfl, Nat.le_of_ble_eq_true rfl⟩) rfl rfl (fun H locs X => ?_)
      refine lv_if_ne (tgt := 63) hx hb dX7_at_54 (by decide) (fun c54 => ?_) (fun c54 => ?_)
      · have hf := g_f hf c54
        refine lv_aload_n hx hb dX7_at_63 rfl (lv_at hl 1 rfl) ?_
        refine g_get C X g_iX7 0 rfl rfl 0 (by decide) rfl m_148 rfl dX7_at_64 ?_
        refine lv_iload hx hb dX7_at_67 (lv_at hl 0 rfl) ?_
        refine lv_iload_n hx hb dX7_at_69 rfl (lv_at hl 4 rfl) ?_
        obtain ⟨q70, e70, hf⟩ := g_be hf
        refine g_calll X (g_runV (As := [.int q26.1.toInt32, .int a3]) (rest := []) C X (cC_S_atPlace l E A ad q51.2 q70.2 q70.1 q26.1.toInt32 a3 e70) kX6_atPlace m_373 1 4 rfl rfl hl.1 rfl ⟨Nat.le_of_ble_eq_true rfl, Nat.le_of_ble_eq_true rfl⟩ rfl (Nat.le_of_ble_eq_true rfl) dX7_at_70 ⟨Nat.le_of_ble_eq_true rfl, Nat.le_of_ble_eq_true rfl⟩) rfl rfl (fun H locs X => ?_)
        refine lv_l2i hx hb dX7_at_73 rfl ?_
        refine lv_istore (lv' := [(5, .int q70.1.toInt32), (4, .int q26.1.toInt32), (0, .ref (ad 0)), (1, .int a1), (2, .int a2), (3, .int a3)]) hx hb dX7_at_74 hl (by decide) rfl (fun ls hl => ?_)
        refine lv_iload hx hb dX7_at_76 (lv_at hl 0 rfl) ?_
        refine lv_iconst (v := -1) hx hb dX7_at_78 (by decide) ?_
        refine lv_icmp_ne (tgt := 102) hx hb dX7_at_79 (by decide) (fun c79 => ?_) (fun c79 => ?_)
        · have hf := g_f hf c79
          refine lv_iload hx hb dX7_at_102 (lv_at hl 0 rfl) ?_
          exact g_iret (wsC E ad) C hr hk X hf dX7_at_104
        · have hf := g_t hf c79
          refine lv_aload_n hx hb dX7_at_82 rfl (lv_at hl 2 rfl) ?_
          refine g_get C X g_iX7 0 rfl rfl 0 (by decide) rfl m_148 rfl dX7_at_83 ?_
          refine lv_iload hx hb dX7_at_86 (lv_at hl 1 rfl) ?_
          refine lv_ldc (v := 10682368) hx hb C.1.2.2.2.1 (C.1.2.2.2.2 _ m_349) dX7_at_88 ?_
          obtain ⟨q90, e90, hf⟩ := g_be hf
          refine g_calli X (g_runV (As := [.int q26.1.toInt32, .int (10682368 : Int32)]) (rest := []) C X (cC_S_isIn l E A ad q70.2 q90.2 q90.1 q26.1.toInt32 (10682368 : Int32) e90) kX6_isIn m_358 1 4 rfl rfl hl.1 rfl ⟨Nat.le_of_ble_eq_true rfl, Nat.le_of_ble_eq_true rfl⟩ rfl (Nat.le_of_ble_eq_true rfl) dX7_at_90 ⟨Nat.le_of_ble_eq_true rfl, Nat.le_of_ble_eq_true rfl⟩) rfl rfl (fun H locs X => ?_)
          refine lv_if_eq (tgt := 102) hx hb dX7_at_93 (by decide) (fun c93 => ?_) (fun c93 => ?_)
          · have hf := g_t hf c93
            refine lv_iload hx hb dX7_at_102 (lv_at hl 0 rfl) ?_
            exact g_iret (wsC E ad) C hr hk X hf dX7_at_104
          · have hf := g_f hf c93
            refine lv_aload_n hx hb dX7_at_96 rfl (lv_at hl 2 rfl) ?_
            refine lv_iconst (v := 2) hx hb dX7_at_97 (by decide) ?_
            obtain ⟨q98, e98, hf⟩ := g_be hf
            refine g_calli X (g_runV (As := [.int (2 : Int32)]) (rest := []) C X (cC__refuse l E A ad q90.2 q98.2 q98.1 (2 : Int32) e98) kX7_refuse m_204 0 5 rfl rfl hl.1 rfl ⟨Nat.le_of_ble_eq_true rfl, Nat.le_of_ble_eq_true rfl⟩ rfl (Nat.le_of_ble_eq_true rfl) dX7_at_98 ⟨Nat.le_of_ble_eq_true rfl, Nat.le_of_ble_eq_true rfl⟩) rfl rfl (fun H locs X => ?_)
            exact g_iret (wsC E ad) C hr hk X hf dX7_at_101
      · have hf := g_t hf c54
        refine lv_aload_n hx hb dX7_at_57 rfl (lv_at hl 1 rfl) ?_
        refine lv_iconst (v := 4) hx hb dX7_at_58 (by decide) ?_
        obtain ⟨q59, e59, hf⟩ := g_be hf
        refine g_calli X (g_runV (As := [.int (4 : Int32)]) (rest := []) C X (cC__refuse l E A ad q51.2 q59.2 q59.1 (4 : Int32) e59) kX7_refuse m_204 0 5 rfl rfl hl.1 rfl ⟨Nat.le_of_ble_eq_true rfl, Nat.le_of_ble_eq_true rfl⟩ rfl (Nat.le_of_ble_eq_true rfl) dX7_at_59 ⟨Nat.le_of_ble_eq_true rfl, Nat.le_of_ble_eq_true rfl⟩) rfl rfl (fun H locs X => ?_)
        exact g_iret (wsC E ad) C hr hk X hf dX7_at_62
    · have hf := g_t hf c35
      refine lv_aload_n hx hb dX7_at_38 rfl (lv_at hl 1 rfl) ?_
      refine lv_iconst (v := 2) hx hb dX7_at_39 (by decide) ?_
      obtain ⟨q40, e40, hf⟩ := g_be hf
      refine g_calli X (g_runV (As := [.int (2 : Int32)]) (rest := []) C X (cC__refuse l E A ad q26.2 q40.2 q40.1 (2 : Int32) e40) kX7_refuse m_204 0 5 rfl rfl hl.1 rfl ⟨Nat.le_of_ble_eq_true rfl, Nat.le_of_ble_eq_true rfl⟩ rfl (Nat.le_of_ble_eq_true rfl) dX7_at_40 ⟨Nat.le_of_ble_eq_true rfl, Nat.le_of_ble_eq_true rfl⟩) rfl rfl (fun H locs X => ?_)
      exact g_iret (wsC E ad) C hr hk X hf dX7_at_43
  · have hf := g_f hf c8
    refine lv_iconst (v := 0) hx hb dX7_at_11 (by decide) ?_
    exact g_iret (wsC E ad) C hr hk X hf dX7_at_12
set_option maxRecDepth 100000 in
set_option maxHeartbeats 4000000 in
theorem cC__begin (l : Launch) (E : g_Env) (A : Nat → Prop) (ad : Nat → Nat) (w : CS) (w' : CS) (r : Int32)  (hf : fC__begin w  = some (r, w')) : g_Mi l yX7_begin cX7_begin 1 ((some .int)) ({ frames := 1, cells := 0, slots := 0, locals := 21 }) E A [.ref (ad 0)] (wsC E ad w) r (wsC E ad w') := by
  refine g_start (by decide) (Nat.le_of_ble_eq_true rfl) ?_
  intro p e s m below meth c C hr hk hnm ls hl H locs X
  have hx := C.1.1
  have hb := C.1.2.1
  have hl : lv_has ls 1 [(0, .ref (ad 0))] := hl
  unfold fC__begin at hf
  refine lv_aload_n hx hb dX7_begin_0 rfl (lv_at hl 0 rfl) ?_
  refine g_get C X g_iX7 0 rfl rfl 2 (by decide) rfl m_150 rfl dX7_begin_1 ?_
  refine g_getN C X g_iX5 6 rfl rfl 2 (by decide) rfl n_5 rfl dX7_begin_4 ?_
  refine lv_if_eq (tgt := 17) hx hb dX7_begin_7 (by decide) (fun c7 => ?_) (fun c7 => ?_)
  · have hf := g_t hf c7
    refine lv_aload_n hx hb dX7_begin_17 rfl (lv_at hl 0 rfl) ?_
    refine lv_iconst (v := 0) hx hb dX7_begin_18 (by decide) ?_
    obtain ⟨w19, e19, hf⟩ := g_le hf
    refine g_put C X g_iX7 tyX7_ok nmX7 0 rfl rfl 3 (by decide) rfl m_151 rfl rfl rfl (Nat.le_of_ble_eq_true rfl) dX7_begin_19 (ws2 := wsC E ad w19) (by subst e19; rfl) (fun H locs X => ?_)
    refine lv_aload_n hx hb dX7_begin_22 rfl (lv_at hl 0 rfl) ?_
    refine g_get C X g_iX7 0 rfl rfl 2 (by decide) rfl m_150 rfl dX7_begin_23 ?_
    obtain ⟨q26, e26, hf⟩ := g_be hf
    refine g_callv X (g_runV (As := []) (rest := []) C X (cC_Sh_startAnew l E A ad w19 q26   e26) kX5_startAnew m_552 6 3 rfl rfl hl.1 rfl ⟨Nat.le_of_ble_eq_true rfl, Nat.le_of_ble_eq_true rfl⟩ rfl (Nat.le_of_ble_eq_true rfl) dX7_begin_26 ⟨Nat.le_of_ble_eq_true rfl, Nat.le_of_ble_eq_true rfl⟩) rfl rfl (fun H locs X => ?_)
    refine lv_iconst (v := 1) hx hb dX7_begin_29 (by decide) ?_
    exact g_iret (wsC E ad) C hr hk X hf dX7_begin_30
  · have hf := g_f hf c7
    refine lv_aload_n hx hb dX7_begin_10 rfl (lv_at hl 0 rfl) ?_
    refine lv_bipush (v := 7) hx hb dX7_begin_11 (by decide) ?_
    obtain ⟨q13, e13, hf⟩ := g_be hf
    refine g_calli X (g_runV (As := [.int (7 : Int32)]) (rest := []) C X (cC__refuse l E A ad w q13.2 q13.1 (7 : Int32) e13) kX7_refuse m_204 0 5 rfl rfl hl.1 rfl ⟨Nat.le_of_ble_eq_true rfl, Nat.le_of_ble_eq_true rfl⟩ rfl (Nat.le_of_ble_eq_true rfl) dX7_begin_13 ⟨Nat.le_of_ble_eq_true rfl, Nat.le_of_ble_eq_true rfl⟩) rfl rfl (fun H locs X => ?_)
    exact g_iret (wsC E ad) C hr hk X hf dX7_begin_16
set_option maxRecDepth 100000 in
set_option maxHeartbeats 4000000 in
theorem cC__makeThing (l : Launch) (E : g_Env) (A : Nat → Prop) (ad : Nat → Nat) (w : CS) (w' : CS) (r : Int32) (a1 : Int32) (a2 : Int32) (a3 : Int32) (hf : fC__makeThing w a1 a2 a3 = some (r, w')) : g_Mi l yX7_makeThing cX7_makeThing 5 ((some .int)) ({ frames := 4, cells := 0, slots := 0, locals := 93 }) E A [.ref (ad 0), .int a1, .int a2, .int a3] (wsC E ad w) r (wsC E ad w') := by
  refine g_start (by decide) (Nat.le_of_ble_eq_true rfl) ?_
  intro p e s m below meth c C hr hk hnm ls hl H locs X
  have hx := C.1.1
  have hb := C.1.2.1
  have hl : lv_has ls 5 [(0, .ref (ad 0)), (1, .int a1), (2, .int a2), (3, .int a3)] := hl
  unfold fC__makeThing at hf
  refine lv_aload_n hx hb dX7_makeThing_0 rfl (lv_at hl 0 rfl) ?_
  refine lv_iconst (v := 0) hx hb dX7_makeThing_1 (by decide) ?_
  obtain ⟨w2, e2, hf⟩ := g_le hf
  refine g_put C X g_iX7 tyX7_ok nmX7 0 rfl rfl 3 (by decide) rfl m_151 rfl rfl rfl (Nat.le_of_ble_eq_true rfl) dX7_makeThing_2 (ws2 := wsC E ad w2) (by subst e2; rfl) (fun H locs X => ?_)
  refine lv_iload_n hx hb dX7_makeThing_5 rfl (lv_at hl 1 rfl) ?_
  obtain ⟨q6, e6, hf⟩ := g_be hf
  refine g_calli X (g_runS (As := [.int a1]) (rest := []) C X (cC__isShelf l E A ad w2 q6.2 q6.1 a1 e6) kX7_isShelf m_216 hl.1 rfl ⟨Nat.le_of_ble_eq_true rfl, Nat.le_of_ble_eq_true rfl⟩ rfl (Nat.le_of_ble_eq_true rfl) dX7_makeThing_6 ⟨Nat.le_of_ble_eq_true rfl, Nat.le_of_ble_eq_true rfl⟩) rfl rfl (fun H locs X => ?_)
  refine lv_if_eq (tgt := 29) hx hb dX7_makeThing_9 (by decide) (fun c9 => ?_) (fun c9 => ?_)
  · have hf := g_t hf c9
    refine lv_aload_n hx hb dX7_makeThing_29 rfl (lv_at hl 0 rfl) ?_
    refine lv_iconst (v := 1) hx hb dX7_makeThing_30 (by decide) ?_
    obtain ⟨q31, e31, hf⟩ := g_be hf
    refine g_calli X (g_runV (As := [.int (1 : Int32)]) (rest := []) C X (cC__refuse l E A ad q6.2 q31.2 q31.1 (1 : Int32) e31) kX7_refuse m_204 0 5 rfl rfl hl.1 rfl ⟨Nat.le_of_ble_eq_true rfl, Nat.le_of_ble_eq_true rfl⟩ rfl (Nat.le_of_ble_eq_true rfl) dX7_makeThing_31 ⟨Nat.le_of_ble_eq_true rfl, Nat.le_of_ble_eq_true rfl⟩) rfl rfl (fun H locs X => ?_)
    exact g_iret (wsC E ad) C hr hk X hf dX7_makeThing_34
  · have hf := g_f hf c9
    refine lv_iload_n hx hb dX7_makeThing_12 rfl (lv_at hl 2 rfl) ?_
    obtain ⟨q13, e13, hf⟩ := g_be hf
    refine g_calli X (g_runS (As := [.int a2]) (rest := []) C X (cC_K_isMade l E A ad q6.2 q13.2 q13.1 a2 e13) kX2_isMade m_219 hl.1 rfl ⟨Nat.le_of_ble_eq_true rfl, Nat.le_of_ble_eq_true rfl⟩ rfl (Nat.le_of_ble_eq_true rfl) dX7_makeThing_13 ⟨Nat.le_of_ble_eq_true rfl, Nat.le_of_ble_eq_true rfl⟩) rfl rfl (fun H locs X => ?_)
    refine lv_if_eq (tgt := 29) hx hb dX7_makeThing_16 (by decide) (fun c16 => ?_) (fun c16 => ?_)
    · have hf := g_t hf c16
      refine lv_aload_n hx hb dX7_makeThing_29 rfl (lv_at hl 0 rfl) ?_
      refine lv_iconst (v := 1) hx hb dX7_makeThing_30 (by decide) ?_
      obtain ⟨q31, e31, hf⟩ := g_be hf
      refine g_calli X (g_runV (As := [.int (1 : Int32)]) (rest := []) C X (cC__refuse l E A ad q13.2 q31.2 q31.1 (1 : Int32) e31) kX7_refuse m_204 0 5 rfl rfl hl.1 rfl ⟨Nat.le_of_ble_eq_true rfl, Nat.le_of_ble_eq_true rfl⟩ rfl (Nat.le_of_ble_eq_true rfl) dX7_makeThing_31 ⟨Nat.le_of_ble_eq_true rfl, Nat.le_of_ble_eq_true rfl⟩) rfl rfl (fun H locs X => ?_)
      exact g_iret (wsC E ad) C hr hk X hf dX7_makeThing_34
    · have hf := g_f hf c16
      refine lv_iload_n hx hb dX7_makeThing_19 rfl (lv_at hl 3 rfl) ?_
      refine lv_if_lt (tgt := 29) hx hb dX7_makeThing_20 (by decide) (fun c20 => ?_) (fun c20 => ?_)
      · have hf := g_t hf c20
        refine lv_aload_n hx hb dX7_makeThing_29 rfl (lv_at hl 0 rfl) ?_
        refine lv_iconst (v := 1) hx hb dX7_makeThing_30 (by decide) ?_
        obtain ⟨q31, e31, hf⟩ := g_be hf
        refine g_calli X (g_runV (As := [.int (1 : Int32)]) (rest := []) C X (cC__refuse l E A ad q13.2 q31.2 q31.1 (1 : Int32) e31) kX7_refuse m_204 0 5 rfl rfl hl.1 rfl ⟨Nat.le_of_ble_eq_true rfl, Nat.le_of_ble_eq_true rfl⟩ rfl (Nat.le_of_ble_eq_true rfl) dX7_makeThing_31 ⟨Nat.le_of_ble_eq_true rfl, Nat.le_of_ble_eq_true rfl⟩) rfl rfl (fun H locs X => ?_)
        exact g_iret (wsC E ad) C hr hk X hf dX7_makeThing_34
      · have hf := g_f hf c20
        refine lv_iload_n hx hb dX7_makeThing_23 rfl (lv_at hl 3 rfl) ?_
        refine lv_bipush (v := 12) hx hb dX7_makeThing_24 (by decide) ?_
        refine lv_icmp_le (tgt := 35) hx hb dX7_makeThing_26 (by decide) (fun c26 => ?_) (fun c26 => ?_)
        · have hf := g_t hf c26
          refine lv_aload_n hx hb dX7_makeThing_35 rfl (lv_at hl 0 rfl) ?_
          refine g_get C X g_iX7 0 rfl rfl 0 (by decide) rfl m_148 rfl dX7_makeThing_36 ?_
          obtain ⟨q39, e39, hf⟩ := g_be hf
          refine g_calli X (g_runV (As := []) (rest := []) C X (cC_S_thingsMade l E A ad q13.2 q39.2 q39.1  e39) kX6_thingsMade m_227 1 4 rfl rfl hl.1 rfl ⟨Nat.le_of_ble_eq_true rfl, Nat.le_of_ble_eq_true rfl⟩ rfl (Nat.le_of_ble_eq_true rfl) dX7_makeThing_39 ⟨Nat.le_of_ble_eq_true rfl, Nat.le_of_ble_eq_true rfl⟩) rfl rfl (fun H locs X => ?_)
          refine lv_bipush (v := 60) hx hb dX7_makeThing_42 (by decide) ?_
          refine lv_icmp_lt (tgt := 54) hx hb dX7_makeThing_44 (by decide) (fun c44 => ?_) (fun c44 => ?_)
          · have hf := g_t hf c44
            refine lv_aload_n hx hb dX7_makeThing_54 rfl (lv_at hl 0 rfl) ?_
            refine g_get C X g_iX7 0 rfl rfl 0 (by decide) rfl m_148 rfl dX7_makeThing_55 ?_
            refine lv_iload_n hx hb dX7_makeThing_58 rfl (lv_at hl 2 rfl) ?_
            refine lv_iload_n hx hb dX7_makeThing_59 rfl (lv_at hl 3 rfl) ?_
            obtain ⟨q60, e60, hf⟩ := g_be hf
            refine g_calli X (g_runV (As := [.int a2, .int a3]) (rest := []) C X (cC_S_add l E A ad q39.2 q60.2 q60.1 a2 a3 e60) kX6_add m_231 1 4 rfl rfl hl.1 rfl ⟨Nat.le_of_ble_eq_true rfl, Nat.le_of_ble_eq_true rfl⟩ rfl (Nat.le_of_ble_eq_true rfl) dX7_makeThing_60 ⟨Nat.le_of_ble_eq_true rfl, Nat.le_of_ble_eq_true rfl⟩) rfl rfl (fun H locs X => ?_)
            refine lv_istore (lv' := [(4, .int q60.1), (0, .ref (ad 0)), (1, .int a1), (2, .int a2), (3, .int a3)]) hx hb dX7_makeThing_63 hl (by decide) rfl (fun ls hl => ?_)
            refine lv_aload_n hx hb dX7_makeThing_65 rfl (lv_at hl 1 rfl) ?_
            refine g_get C X g_iX7 0 rfl rfl 0 (by decide) rfl m_148 rfl dX7_makeThing_66 ?_
            refine lv_iload_n hx hb dX7_makeThing_69 rfl (lv_at hl 2 rfl) ?_
            refine lv_iload hx hb dX7_makeThing_70 (lv_at hl 0 rfl) ?_
            obtain ⟨q72, e72, hf⟩ := g_be hf
            refine g_callv X (g_runV (As := [.int a1, .int q60.1]) (rest := []) C X (cC_S_setShelf l E A ad q60.2 q72  a1 q60.1 e72) kX6_setShelf m_260 1 4 rfl rfl hl.1 rfl ⟨Nat.le_of_ble_eq_true rfl, Nat.le_of_ble_eq_true rfl⟩ rfl (Nat.le_of_ble_eq_true rfl) dX7_makeThing_72 ⟨Nat.le_of_ble_eq_true rfl, Nat.le_of_ble_eq_true rfl⟩) rfl rfl (fun H locs X => ?_)
            refine lv_iload hx hb dX7_makeThing_75 (lv_at hl 0 rfl) ?_
            exact g_iret (wsC E ad) C hr hk X hf dX7_makeThing_77
          · have hf := g_f hf c44
            refine lv_aload_n hx hb dX7_makeThing_47 rfl (lv_at hl 0 rfl) ?_
            refine lv_bipush (v := 6) hx hb dX7_makeThing_48 (by decide) ?_
            obtain ⟨q50, e50, hf⟩ := g_be hf
            refine g_calli X (g_runV (As := [.int (6 : Int32)]) (rest := []) C X (cC__refuse l E A ad q39.2 q50.2 q50.1 (6 : Int32) e50) kX7_refuse m_204 0 5 rfl rfl hl.1 rfl ⟨Nat.le_of_ble_eq_true rfl, Nat.le_of_ble_eq_true rfl⟩ rfl (Nat.le_of_ble_eq_true rfl) dX7_makeThing_50 ⟨Nat.le_of_ble_eq_true rfl, Nat.le_of_ble_eq_true rfl⟩) rfl rfl (fun H locs X => ?_)
            exact g_iret (wsC E ad) C hr hk X hf dX7_makeThing_53
        · have hf := g_f hf c26
          refine lv_aload_n hx hb dX7_makeThing_29 rfl (lv_at hl 0 rfl) ?_
          refine lv_iconst (v := 1) hx hb dX7_makeThing_30 (by decide) ?_
          obtain ⟨q31, e31, hf⟩ := g_be hf
          refine g_calli X (g_runV (As := [.int (1 : Int32)]) (rest := []) C X (cC__refuse l E A ad q13.2 q31.2 q31.1 (1 : Int32) e31) kX7_refuse m_204 0 5 rfl rfl hl.1 rfl ⟨Nat.le_of_ble_eq_true rfl, Nat.le_of_ble_eq_true rfl⟩ rfl (Nat.le_of_ble_eq_true rfl) dX7_makeThing_31 ⟨Nat.le_of_ble_eq_true rfl, Nat.le_of_ble_eq_true rfl⟩) rfl rfl (fun H locs X => ?_)
          exact g_iret (wsC E ad) C hr hk X hf dX7_makeThing_34
set_option maxRecDepth 100000 in
set_option maxHeartbeats 4000000 in
theorem cC__putOnShelf (l : Launch) (E : g_Env) (A : Nat → Prop) (ad : Nat → Nat) (w : CS) (w' : CS) (r : Int32) (a1 : Int32) (a2 : Int32) (hf : fC__putOnShelf w a1 a2 = some (r, w')) : g_Mi l yX7_putOnShelf cX7_putOnShelf 3 ((some .int)) ({ frames := 2, cells := 0, slots := 0, locals := 42 }) E A [.ref (ad 0), .int a1, .int a2] (wsC E ad w) r (wsC E ad w') := by
  refine g_start (by decide) (Nat.le_of_ble_eq_true rfl) ?_
  intro p e s m below meth c C hr hk hnm ls hl H locs X
  have hx := C.1.1
  have hb := C.1.2.1
  have hl : lv_has ls 3 [(0, .ref (ad 0)), (1, .int a1), (2, .int a2)] := hl
  unfold fC__putOnShelf at hf
  refine lv_aload_n hx hb dX7_putOnShelf_0 rfl (lv_at hl 0 rfl) ?_
  refine g_get C X g_iX7 0 rfl rfl 0 (by decide) rfl m_148 rfl dX7_putOnShelf_1 ?_
  refine lv_iload_n hx hb dX7_putOnShelf_4 rfl (lv_at hl 1 rfl) ?_
  refine lv_iload_n hx hb dX7_putOnShelf_5 rfl (lv_at hl 2 rfl) ?_
  obtain ⟨q6, e6, hf⟩ := g_be hf
  refine g_callv X (g_runV (As := [.int a1, .int a2]) (rest := []) C X (cC_S_setShelf l E A ad w q6  a1 a2 e6) kX6_setShelf m_260 1 4 rfl rfl hl.1 rfl ⟨Nat.le_of_ble_eq_true rfl, Nat.le_of_ble_eq_true rfl⟩ rfl (Nat.le_of_ble_eq_true rfl) dX7_putOnShelf_6 ⟨Nat.le_of_ble_eq_true rfl, Nat.le_of_ble_eq_true rfl⟩) rfl rfl (fun H locs X => ?_)
  refine lv_iload_n hx hb dX7_putOnShelf_9 rfl (lv_at hl 2 rfl) ?_
  refine lv_iconst (v := -1) hx hb dX7_putOnShelf_10 (by decide) ?_
  refine lv_icmp_ne (tgt := 18) hx hb dX7_putOnShelf_11 (by decide) (fun c11 => ?_) (fun c11 => ?_)
  · have hf := g_f hf c11
    refine lv_iconst (v := 1) hx hb dX7_putOnShelf_18 (by decide) ?_
    exact g_iret (wsC E ad) C hr hk X hf dX7_putOnShelf_19
  · have hf := g_t hf c11
    refine lv_iconst (v := 0) hx hb dX7_putOnShelf_14 (by decide) ?_
    refine lv_goto (tgt := 19) hx hb dX7_putOnShelf_15 (by decide) ?_
    exact g_iret (wsC E ad) C hr hk X hf dX7_putOnShelf_19
set_option maxRecDepth 100000 in
set_option maxHeartbeats 4000000 in
theorem cC__layOver (l : Launch) (E : g_Env) (A : Nat → Prop) (ad : Nat → Nat) (w : CS) (w' : CS) (r : Int32) (a1 : Int32) (a2 : Int32) (hf : fC__layOver w a1 a2 = some (r, w')) : g_Mi l yX7_layOver cX7_layOver 3 ((some .int)) ({ frames := 3, cells := 0, slots := 0, locals := 64 }) E A [.ref (ad 0), .int a1, .int a2] (wsC E ad w) r (wsC E ad w') := by
  refine g_start (by decide) (Nat.le_of_ble_eq_true rfl) ?_
  intro p e s m below meth c C hr hk hnm ls hl H locs X
  have hx := C.1.1
  have hb := C.1.2.1
  have hl : lv_has ls 3 [(0, .ref (ad 0)), (1, .int a1), (2, .int a2)] := hl
  unfold fC__layOver at hf
  refine lv_aload_n hx hb dX7_layOver_0 rfl (lv_at hl 0 rfl) ?_
  refine lv_iconst (v := 0) hx hb dX7_layOver_1 (by decide) ?_
  obtain ⟨w2, e2, hf⟩ := g_le hf
  refine g_put C X g_iX7 tyX7_ok nmX7 0 rfl rfl 3 (by decide) rfl m_151 rfl rfl rfl (Nat.le_of_ble_eq_true rfl) dX7_layOver_2 (ws2 := wsC E ad w2) (by subst e2; rfl) (fun H locs X => ?_)
  refine lv_iload_n hx hb dX7_layOver_5 rfl (lv_at hl 1 rfl) ?_
  obtain ⟨q6, e6, hf⟩ := g_be hf
  refine g_calli X (g_runS (As := [.int a1]) (rest := []) C X (cC__isShelf l E A ad w2 q6.2 q6.1 a1 e6) kX7_isShelf m_216 hl.1 rfl ⟨Nat.le_of_ble_eq_true rfl, Nat.le_of_ble_eq_true rfl⟩ rfl (Nat.le_of_ble_eq_true rfl) dX7_layOver_6 ⟨Nat.le_of_ble_eq_true rfl, Nat.le_of_ble_eq_true rfl⟩) rfl rfl (fun H locs X => ?_)
  refine lv_if_eq (tgt := 19) hx hb dX7_layOver_9 (by decide) (fun c9 => ?_) (fun c9 => ?_)
  · have hf := g_t hf c9
    refine lv_aload_n hx hb dX7_layOver_19 rfl (lv_at hl 0 rfl) ?_
    refine lv_iconst (v := 1) hx hb dX7_layOver_20 (by decide) ?_
    obtain ⟨q21, e21, hf⟩ := g_be hf
    refine g_calli X (g_runV (As := [.int (1 : Int32)]) (rest := []) C X (cC__refuse l E A ad q6.2 q21.2 q21.1 (1 : Int32) e21) kX7_refuse m_204 0 5 rfl rfl hl.1 rfl ⟨Nat.le_of_ble_eq_true rfl, Nat.le_of_ble_eq_true rfl⟩ rfl (Nat.le_of_ble_eq_true rfl) dX7_layOver_21 ⟨Nat.le_of_ble_eq_true rfl, Nat.le_of_ble_eq_true rfl⟩) rfl rfl (fun H locs X => ?_)
    exact g_iret (wsC E ad) C hr hk X hf dX7_layOver_24
  · have hf := g_f hf c9
    refine lv_iload_n hx hb dX7_layOver_12 rfl (lv_at hl 2 rfl) ?_
    obtain ⟨q13, e13, hf⟩ := g_be hf
    refine g_calli X (g_runS (As := [.int a2]) (rest := []) C X (cC__isShelf l E A ad q6.2 q13.2 q13.1 a2 e13) kX7_isShelf m_216 hl.1 rfl ⟨Nat.le_of_ble_eq_true rfl, Nat.le_of_ble_eq_true rfl⟩ rfl (Nat.le_of_ble_eq_true rfl) dX7_layOver_13 ⟨Nat.le_of_ble_eq_true rfl, Nat.le_of_ble_eq_true rfl⟩) rfl rfl (fun H locs X => ?_)
    refine lv_if_ne (tgt := 25) hx hb dX7_layOver_16 (by decide) (fun c16 => ?_) (fun c16 => ?_)
    · have hf := g_f hf c16
      refine lv_aload_n hx hb dX7_layOver_25 rfl (lv_at hl 0 rfl) ?_
      refine lv_iload_n hx hb dX7_layOver_26 rfl (lv_at hl 2 rfl) ?_
      refine lv_aload_n hx hb dX7_layOver_27 rfl (lv_at hl 0 rfl) ?_
      refine g_get C X g_iX7 0 rfl rfl 0 (by decide) rfl m_148 rfl dX7_layOver_28 ?_
      refine lv_iload_n hx hb dX7_layOver_31 rfl (lv_at hl 1 rfl) ?_
      obtain ⟨q32, e32, hf⟩ := g_be hf
      refine g_calli X (g_runV (As := [.int a1]) (rest := [.int a2, .ref (ad 0)]) C X (cC_S_onShelf l E A ad q13.2 q32.2 q32.1 a1 e32) kX6_onShelf m_333 1 4 rfl rfl hl.1 rfl ⟨Nat.le_of_ble_eq_true rfl, Nat.le_of_ble_eq_true rfl⟩ rfl (Nat.le_of_ble_eq_true rfl) dX7_layOver_32 ⟨Nat.le_of_ble_eq_true rfl, Nat.le_of_ble_eq_true rfl⟩) rfl rfl (fun H locs X => ?_)
      obtain ⟨q35, e35, hf⟩ := g_be hf
      refine g_calli X (g_runV (As := [.int a2, .int q32.1]) (rest := []) C X (cC__putOnShelf l E A ad q32.2 q35.2 q35.1 a2 q32.1 e35) kX7_putOnShelf m_337 0 5 rfl rfl hl.1 rfl ⟨Nat.le_of_ble_eq_true rfl, Nat.le_of_ble_eq_true rfl⟩ rfl (Nat.le_of_ble_eq_true rfl) dX7_layOver_35 ⟨Nat.le_of_ble_eq_true rfl, Nat.le_of_ble_eq_true rfl⟩) rfl rfl (fun H locs X => ?_)
      exact g_iret (wsC E ad) C hr hk X hf dX7_layOver_38
    · have hf := g_t hf c16
      refine lv_aload_n hx hb dX7_layOver_19 rfl (lv_at hl 0 rfl) ?_
      refine lv_iconst (v := 1) hx hb dX7_layOver_20 (by decide) ?_
      obtain ⟨q21, e21, hf⟩ := g_be hf
      refine g_calli X (g_runV (As := [.int (1 : Int32)]) (rest := []) C X (cC__refuse l E A ad q13.2 q21.2 q21.1 (1 : Int32) e21) kX7_refuse m_204 0 5 rfl rfl hl.1 rfl ⟨Nat.le_of_ble_eq_true rfl, Nat.le_of_ble_eq_true rfl⟩ rfl (Nat.le_of_ble_eq_true rfl) dX7_layOver_21 ⟨Nat.le_of_ble_eq_true rfl, Nat.le_of_ble_eq_true rfl⟩) rfl rfl (fun H locs X => ?_)
      exact g_iret (wsC E ad) C hr hk X hf dX7_layOver_24
set_option maxRecDepth 100000 in
set_option maxHeartbeats 4000000 in
theorem cC__plugIn (l : Launch) (E : g_Env) (A : Nat → Prop) (ad : Nat → Nat) (w : CS) (w' : CS) (r : Int32) (a1 : Int32) (a2 : Int32) (a3 : Int32) (hf : fC__plugIn w a1 a2 a3 = some (r, w')) : g_Mi l yX7_plugIn cX7_plugIn 8 ((some .int)) ({ frames := 4, cells := 0, slots := 0, locals := 90 }) E A [.ref (ad 0), .int a1, .int a2, .int a3] (wsC E ad w) r (wsC E ad w') := by
  refine g_start (by decide) (Nat.le_of_ble_eq_true rfl) ?_
  intro p e s m below meth c C hr hk hnm ls hl H locs X
  have hx := C.1.1
  have hb := C.1.2.1
  have hl : lv_has ls 8 [(0, .ref (ad 0)), (1, .int a1), (2, .int a2), (3, .int a3)] := hl
  unfold fC__plugIn at hf
  refine lv_iload_n hx hb dX7_plugIn_0 rfl (lv_at hl 3 rfl) ?_
  obtain ⟨q1, e1, hf⟩ := g_be hf
  refine g_calli X (g_runS (As := [.int a3]) (rest := []) C X (cC__isShelf l E A ad w q1.2 q1.1 a3 e1) kX7_isShelf m_216 hl.1 rfl ⟨Nat.le_of_ble_eq_true rfl, Nat.le_of_ble_eq_true rfl⟩ rfl (Nat.le_of_ble_eq_true rfl) dX7_plugIn_1 ⟨Nat.le_of_ble_eq_true rfl, Nat.le_of_ble_eq_true rfl⟩) rfl rfl (fun H locs X => ?_)
  refine lv_if_ne (tgt := 13) hx hb dX7_plugIn_4 (by decide) (fun c4 => ?_) (fun c4 => ?_)
  · have hf := g_f hf c4
    refine lv_aload_n hx hb dX7_plugIn_13 rfl (lv_at hl 0 rfl) ?_
    refine lv_iload_n hx hb dX7_plugIn_14 rfl (lv_at hl 1 rfl) ?_
    refine lv_ldc (v := 10682368) hx hb C.1.2.2.2.1 (C.1.2.2.2.2 _ m_349) dX7_plugIn_15 ?_
    refine lv_iload_n hx hb dX7_plugIn_17 rfl (lv_at hl 2 rfl) ?_
    obtain ⟨q18, e18, hf⟩ := g_be hf
    refine g_calli X (g_runV (As := [.int a1, .int (10682368 : Int32), .int a2]) (rest := []) C X (cC__hasNoPlace l E A ad q1.2 q18.2 q18.1 a1 (10682368 : Int32) a2 e18) kX7_hasNoPlace m_350 0 5 rfl rfl hl.1 rfl ⟨Nat.le_of_ble_eq_true rfl, Nat.le_of_ble_eq_true rfl⟩ rfl (Nat.le_of_ble_eq_true rfl) dX7_plugIn_18 ⟨Nat.le_of_ble_eq_true rfl, Nat.le_of_ble_eq_true rfl⟩) rfl rfl (fun H locs X => ?_)
    refine lv_if_eq (tgt := 26) hx hb dX7_plugIn_21 (by decide) (fun c21 => ?_) (fun c21 => ?_)
    · have hf := g_t hf c21
      refine lv_aload_n hx hb dX7_plugIn_26 rfl (lv_at hl 0 rfl) ?_
      refine g_get C X g_iX7 0 rfl rfl 0 (by decide) rfl m_148 rfl dX7_plugIn_27 ?_
      refine lv_iload_n hx hb dX7_plugIn_30 rfl (lv_at hl 1 rfl) ?_
      obtain ⟨q31, e31, hf⟩ := g_be hf
      refine g_calli X (g_runV (As := [.int a1]) (rest := []) C X (cC_S_onShelf l E A ad q18.2 q31.2 q31.1 a1 e31) kX6_onShelf m_333 1 4 rfl rfl hl.1 rfl ⟨Nat.le_of_ble_eq_true rfl, Nat.le_of_ble_eq_true rfl⟩ rfl (Nat.le_of_ble_eq_true rfl) dX7_plugIn_31 ⟨Nat.le_of_ble_eq_true rfl, Nat.le_of_ble_eq_true rfl⟩) rfl rfl (fun H locs X => ?_)
      refine lv_istore (lv' := [(4, .int q31.1), (0, .ref (ad 0)), (1, .int a1), (2, .int a2), (3, .int a3)]) hx hb dX7_plugIn_34 hl (by decide) rfl (fun ls hl => ?_)
      refine lv_aload_n hx hb dX7_plugIn_36 rfl (lv_at hl 1 rfl) ?_
      refine g_get C X g_iX7 0 rfl rfl 0 (by decide) rfl m_148 rfl dX7_plugIn_37 ?_
      refine lv_iload_n hx hb dX7_plugIn_40 rfl (lv_at hl 4 rfl) ?_
      obtain ⟨q41, e41, hf⟩ := g_be hf
      refine g_calli X (g_runV (As := [.int a3]) (rest := []) C X (cC_S_onShelf l E A ad q31.2 q41.2 q41.1 a3 e41) kX6_onShelf m_333 1 4 rfl rfl hl.1 rfl ⟨Nat.le_of_ble_eq_true rfl, Nat.le_of_ble_eq_true rfl⟩ rfl (Nat.le_of_ble_eq_true rfl) dX7_plugIn_41 ⟨Nat.le_of_ble_eq_true rfl, Nat.le_of_ble_eq_true rfl⟩) rfl rfl (fun H locs X => ?_)
      refine lv_istore (lv' := [(5, .int q41.1), (4, .int q31.1), (0, .ref (ad 0)), (1, .int a1), (2, .int a2), (3, .int a3)]) hx hb dX7_plugIn_44 hl (by decide) rfl (fun ls hl => ?_)
      refine lv_aload_n hx hb dX7_plugIn_46 rfl (lv_at hl 2 rfl) ?_
      refine g_get C X g_iX7 0 rfl rfl 0 (by decide) rfl m_148 rfl dX7_plugIn_47 ?_
      refine lv_iload hx hb dX7_plugIn_50 (lv_at hl 0 rfl) ?_
      refine lv_iload hx hb dX7_plugIn_52 (lv_at hl 1 rfl) ?_
      obtain ⟨q54, e54, hf⟩ := g_be hf
      refine g_calli X (g_runV (As := [.int q41.1, .int q31.1]) (rest := []) C X (cC_S_fits l E A ad q41.2 q54.2 q54.1 q41.1 q31.1 e54) kX6_fits m_363 1 4 rfl rfl hl.1 rfl ⟨Nat.le_of_ble_eq_true rfl, Nat.le_of_ble_eq_true rfl⟩ rfl (Nat.le_of_ble_eq_true rfl) dX7_plugIn_54 ⟨Nat.le_of_ble_eq_true rfl, Nat.le_of_ble_eq_true rfl⟩) rfl rfl (fun H locs X => ?_)
      refine lv_if_ne (tgt := 66) hx hb dX7_plugIn_57 (by decide) (fun c57 => ?_) (fun c57 => ?_)
      · have hf := g_f hf c57
        refine lv_aload_n hx hb dX7_plugIn_66 rfl (lv_at hl 2 rfl) ?_
        refine g_get C X g_iX7 0 rfl rfl 0 (by decide) rfl m_148 rfl dX7_plugIn_67 ?_
        refine lv_iload hx hb dX7_plugIn_70 (lv_at hl 1 rfl) ?_
        refine lv_iload_n hx hb dX7_plugIn_72 rfl (lv_at hl 4 rfl) ?_
        obtain ⟨q73, e73, hf⟩ := g_be hf
        refine g_calll X (g_runV (As := [.int q31.1, .int a2]) (rest := []) C X (cC_S_atPlace l E A ad q54.2 q73.2 q73.1 q31.1 a2 e73) kX6_atPlace m_373 1 4 rfl rfl hl.1 rfl ⟨Nat.le_of_ble_eq_true rfl, Nat.le_of_ble_eq_true rfl⟩ rfl (Nat.le_of_ble_eq_true rfl) dX7_plugIn_73 ⟨Nat.le_of_ble_eq_true rfl, Nat.le_of_ble_eq_true rfl⟩) rfl rfl (fun H locs X => ?_)
        refine lv_lstore (lv' := [(6, .long q73.1), (5, .int q41.1), (4, .int q31.1), (0, .ref (ad 0)), (1, .int a1), (2, .int a2), (3, .int a3)]) hx hb dX7_plugIn_76 hl (by decide) rfl (fun ls hl => ?_)
        refine lv_aload_n hx hb dX7_plugIn_78 rfl (lv_at hl 3 rfl) ?_
        refine g_get C X g_iX7 0 rfl rfl 0 (by decide) rfl m_148 rfl dX7_plugIn_79 ?_
        refine lv_iload hx hb dX7_plugIn_82 (lv_at hl 2 rfl) ?_
        refine lv_iload_n hx hb dX7_plugIn_84 rfl (lv_at hl 5 rfl) ?_
        refine lv_iload hx hb dX7_plugIn_85 (lv_at hl 1 rfl) ?_
        refine lv_i2l hx hb dX7_plugIn_87 rfl ?_
        obtain ⟨q88, e88, hf⟩ := g_be hf
        refine g_callv X (g_runV (As := [.int q31.1, .int a2, .long q41.1.toInt64]) (rest := []) C X (cC_S_setPlace l E A ad q73.2 q88  q31.1 a2 q41.1.toInt64 e88) kX6_setPlace m_377 1 4 rfl rfl hl.1 rfl ⟨Nat.le_of_ble_eq_true rfl, Nat.le_of_ble_eq_true rfl⟩ rfl (Nat.le_of_ble_eq_true rfl) dX7_plugIn_88 ⟨Nat.le_of_ble_eq_true rfl, Nat.le_of_ble_eq_true rfl⟩) rfl rfl (fun H locs X => ?_)
        refine lv_lload hx hb dX7_plugIn_91 (lv_at hl 0 rfl) ?_
        refine lv_ldc2 (v := -1) hx hb C.1.2.2.2.1 (C.1.2.2.2.2 _ m_378) dX7_plugIn_93 ?_
        refine W.lcmp hx hb dX7_plugIn_96 ?_
        refine lv_if_ne (tgt := 104) hx hb dX7_plugIn_97 (by decide) (fun c97 => ?_) (fun c97 => ?_)
        · have hf := g_f hf c97
          refine lv_iconst (v := 1) hx hb dX7_plugIn_104 (by decide) ?_
          exact g_iret (wsC E ad) C hr hk X hf dX7_plugIn_105
        · have hf := g_t hf c97
          refine lv_iconst (v := 0) hx hb dX7_plugIn_100 (by decide) ?_
          refine lv_goto (tgt := 105) hx hb dX7_plugIn_101 (by decide) ?_
          exact g_iret (wsC E ad) C hr hk X hf dX7_plugIn_105
      · have hf := g_t hf c57
        refine lv_aload_n hx hb dX7_plugIn_60 rfl (lv_at hl 2 rfl) ?_
        refine lv_iconst (v := 5) hx hb dX7_plugIn_61 (by decide) ?_
        obtain ⟨q62, e62, hf⟩ := g_be hf
        refine g_calli X (g_runV (As := [.int (5 : Int32)]) (rest := []) C X (cC__refuse l E A ad q54.2 q62.2 q62.1 (5 : Int32) e62) kX7_refuse m_204 0 5 rfl rfl hl.1 rfl ⟨Nat.le_of_ble_eq_true rfl, Nat.le_of_ble_eq_true rfl⟩ rfl (Nat.le_of_ble_eq_true rfl) dX7_plugIn_62 ⟨Nat.le_of_ble_eq_true rfl, Nat.le_of_ble_eq_true rfl⟩) rfl rfl (fun H locs X => ?_)
        exact g_iret (wsC E ad) C hr hk X hf dX7_plugIn_65
    · have hf := g_f hf c21
      refine lv_iconst (v := 0) hx hb dX7_plugIn_24 (by decide) ?_
      exact g_iret (wsC E ad) C hr hk X hf dX7_plugIn_25
  · have hf := g_t hf c4
    refine lv_aload_n hx hb dX7_plugIn_7 rfl (lv_at hl 0 rfl) ?_
    refine lv_iconst (v := 1) hx hb dX7_plugIn_8 (by decide) ?_
    obtain ⟨q9, e9, hf⟩ := g_be hf
    refine g_calli X (g_runV (As := [.int (1 : Int32)]) (rest := []) C X (cC__refuse l E A ad q1.2 q9.2 q9.1 (1 : Int32) e9) kX7_refuse m_204 0 5 rfl rfl hl.1 rfl ⟨Nat.le_of_ble_eq_true rfl, Nat.le_of_ble_eq_true rfl⟩ rfl (Nat.le_of_ble_eq_true rfl) dX7_plugIn_9 ⟨Nat.le_of_ble_eq_true rfl, Nat.le_of_ble_eq_true rfl⟩) rfl rfl (fun H locs X => ?_)
    exact g_iret (wsC E ad) C hr hk X hf dX7_plugIn_12
set_option maxRecDepth 100000 in
set_option maxHeartbeats 4000000 in
theorem cC__pullOut (l : Launch) (E : g_Env) (A : Nat → Prop) (ad : Nat → Nat) (w : CS) (w' : CS) (r : Int32) (a1 : Int32) (a2 : Int32) (a3 : Int32) (hf : fC__pullOut w a1 a2 a3 = some (r, w')) : g_Mi l yX7_pullOut cX7_pullOut 4 ((some .int)) ({ frames := 4, cells := 0, slots := 0, locals := 90 }) E A [.ref (ad 0), .int a1, .int a2, .int a3] (wsC E ad w) r (wsC E ad w') := by
  refine g_start (by decide) (Nat.le_of_ble_eq_true rfl) ?_
  intro p e s m below meth c C hr hk hnm ls hl H locs X
  have hx := C.1.1
  have hb := C.1.2.1
  have hl : lv_has ls 4 [(0, .ref (ad 0)), (1, .int a1), (2, .int a2), (3, .int a3)] := hl
  unfold fC__pullOut at hf
  refine lv_iload_n hx hb dX7_pullOut_0 rfl (lv_at hl 3 rfl) ?_
  obtain ⟨q1, e1, hf⟩ := g_be hf
  refine g_calli X (g_runS (As := [.int a3]) (rest := []) C X (cC__isShelf l E A ad w q1.2 q1.1 a3 e1) kX7_isShelf m_216 hl.1 rfl ⟨Nat.le_of_ble_eq_true rfl, Nat.le_of_ble_eq_true rfl⟩ rfl (Nat.le_of_ble_eq_true rfl) dX7_pullOut_1 ⟨Nat.le_of_ble_eq_true rfl, Nat.le_of_ble_eq_true rfl⟩) rfl rfl (fun H locs X => ?_)
  refine lv_if_ne (tgt := 13) hx hb dX7_pullOut_4 (by decide) (fun c4 => ?_) (fun c4 => ?_)
  · have hf := g_f hf c4
    refine lv_aload_n hx hb dX7_pullOut_13 rfl (lv_at hl 0 rfl) ?_
    refine lv_iload_n hx hb dX7_pullOut_14 rfl (lv_at hl 1 rfl) ?_
    refine lv_ldc (v := 10682368) hx hb C.1.2.2.2.1 (C.1.2.2.2.2 _ m_349) dX7_pullOut_15 ?_
    refine lv_iload_n hx hb dX7_pullOut_17 rfl (lv_at hl 2 rfl) ?_
    obtain ⟨q18, e18, hf⟩ := g_be hf
    refine g_calli X (g_runV (As := [.int a1, .int (10682368 : Int32), .int a2]) (rest := []) C X (cC__hasNoPlace l E A ad q1.2 q18.2 q18.1 a1 (10682368 : Int32) a2 e18) kX7_hasNoPlace m_350 0 5 rfl rfl hl.1 rfl ⟨Nat.le_of_ble_eq_true rfl, Nat.le_of_ble_eq_true rfl⟩ rfl (Nat.le_of_ble_eq_true rfl) dX7_pullOut_18 ⟨Nat.le_of_ble_eq_true rfl, Nat.le_of_ble_eq_true rfl⟩) rfl rfl (fun H locs X => ?_)
    refine lv_if_eq (tgt := 26) hx hb dX7_pullOut_21 (by decide) (fun c21 => ?_) (fun c21 => ?_)
    · have hf := g_t hf c21
      refine lv_aload_n hx hb dX7_pullOut_26 rfl (lv_at hl 0 rfl) ?_
      refine lv_iload_n hx hb dX7_pullOut_27 rfl (lv_at hl 3 rfl) ?_
      refine lv_aload_n hx hb dX7_pullOut_28 rfl (lv_at hl 0 rfl) ?_
      refine g_get C X g_iX7 0 rfl rfl 0 (by decide) rfl m_148 rfl dX7_pullOut_29 ?_
      refine lv_aload_n hx hb dX7_pullOut_32 rfl (lv_at hl 0 rfl) ?_
      refine g_get C X g_iX7 0 rfl rfl 0 (by decide) rfl m_148 rfl dX7_pullOut_33 ?_
      refine lv_iload_n hx hb dX7_pullOut_36 rfl (lv_at hl 1 rfl) ?_
      obtain ⟨q37, e37, hf⟩ := g_be hf
      refine g_calli X (g_runV (As := [.int a1]) (rest := [.ref (ad 1), .int a3, .ref (ad 0)]) C X (cC_S_onShelf l E A ad q18.2 q37.2 q37.1 a1 e37) kX6_onShelf m_333 1 4 rfl rfl hl.1 rfl ⟨Nat.le_of_ble_eq_true rfl, Nat.le_of_ble_eq_true rfl⟩ rfl (Nat.le_of_ble_eq_true rfl) dX7_pullOut_37 ⟨Nat.le_of_ble_eq_true rfl, Nat.le_of_ble_eq_true rfl⟩) rfl rfl (fun H locs X => ?_)
      refine lv_iload_n hx hb dX7_pullOut_40 rfl (lv_at hl 2 rfl) ?_
      obtain ⟨q41, e41, hf⟩ := g_be hf
      refine g_calll X (g_runV (As := [.int q37.1, .int a2]) (rest := [.int a3, .ref (ad 0)]) C X (cC_S_atPlace l E A ad q37.2 q41.2 q41.1 q37.1 a2 e41) kX6_atPlace m_373 1 4 rfl rfl hl.1 rfl ⟨Nat.le_of_ble_eq_true rfl, Nat.le_of_ble_eq_true rfl⟩ rfl (Nat.le_of_ble_eq_true rfl) dX7_pullOut_41 ⟨Nat.le_of_ble_eq_true rfl, Nat.le_of_ble_eq_true rfl⟩) rfl rfl (fun H locs X => ?_)
      refine lv_l2i hx hb dX7_pullOut_44 rfl ?_
      obtain ⟨q45, e45, hf⟩ := g_be hf
      refine g_calli X (g_runV (As := [.int a3, .int q41.1.toInt32]) (rest := []) C X (cC__putOnShelf l E A ad q41.2 q45.2 q45.1 a3 q41.1.toInt32 e45) kX7_putOnShelf m_337 0 5 rfl rfl hl.1 rfl ⟨Nat.le_of_ble_eq_true rfl, Nat.le_of_ble_eq_true rfl⟩ rfl (Nat.le_of_ble_eq_true rfl) dX7_pullOut_45 ⟨Nat.le_of_ble_eq_true rfl, Nat.le_of_ble_eq_true rfl⟩) rfl rfl (fun H locs X => ?_)
      exact g_iret (wsC E ad) C hr hk X hf dX7_pullOut_48
    · have hf := g_f hf c21
      refine lv_iconst (v := 0) hx hb dX7_pullOut_24 (by decide) ?_
      exact g_iret (wsC E ad) C hr hk X hf dX7_pullOut_25
  · have hf := g_t hf c4
    refine lv_aload_n hx hb dX7_pullOut_7 rfl (lv_at hl 0 rfl) ?_
    refine lv_iconst (v := 1) hx hb dX7_pullOut_8 (by decide) ?_
    obtain ⟨q9, e9, hf⟩ := g_be hf
    refine g_calli X (g_runV (As := [.int (1 : Int32)]) (rest := []) C X (cC__refuse l E A ad q1.2 q9.2 q9.1 (1 : Int32) e9) kX7_refuse m_204 0 5 rfl rfl hl.1 rfl ⟨Nat.le_of_ble_eq_true rfl, Nat.le_of_ble_eq_true rfl⟩ rfl (Nat.le_of_ble_eq_true rfl) dX7_pullOut_9 ⟨Nat.le_of_ble_eq_true rfl, Nat.le_of_ble_eq_true rfl⟩) rfl rfl (fun H locs X => ?_)
    exact g_iret (wsC E ad) C hr hk X hf dX7_pullOut_12
set_option maxRecDepth 100000 in
set_option maxHeartbeats 4000000 in
theorem cC__isEitherEmpty (l : Launch) (E : g_Env) (A : Nat → Prop) (ad : Nat → Nat) (w : CS) (w' : CS) (r : Int32) (a1 : Int32) (a2 : Int32) (hf : fC__isEitherEmpty w a1 a2 = some (r, w')) : g_Mi l yX7_isEitherEmpty cX7_isEitherEmpty 3 ((some .boolean)) ({ frames := 2, cells := 0, slots := 0, locals := 41 }) E A [.ref (ad 0), .int a1, .int a2] (wsC E ad w) r (wsC E ad w') := by
  refine g_start (by decide) (Nat.le_of_ble_eq_true rfl) ?_
  intro p e s m below meth c C hr hk hnm ls hl H locs X
  have hx := C.1.1
  have hb := C.1.2.1
  have hl : lv_has ls 3 [(0, .ref (ad 0)), (1, .int a1), (2, .int a2)] := hl
  have j56 : ∀ (w : CS)  (ls : Array Slot) (H : Heap) (locs : List Loc), fC__isEitherEmpty_56 w  = some (r, w') → lv_has ls 3 [(0, .ref (ad 0))] → g_W E A s H locs (wsC E ad w) → W p l e ({ frames := 2, cells := 0, slots := 0, locals := 41 }) s m ([.ref (ad 0), .int a1, .int a2] : List Value).toArray below meth c H locs 0 0 (MQ below (va_Qi (fun (r' : Int32) (u' : va_W) => r' = r ∧ u' = wsC E ad w') (g_B E A) A) ([.ref (ad 0), .int a1, .int a2] : List Value).toArray s 0 0 A) (F0 m 56 ls []) := by
    intro w  ls H locs hf hl X
    unfold fC__isEitherEmpty_56 at hf
    refine lv_aload_n hx hb dX7_isEitherEmpty_56 rfl (lv_at hl 0 rfl) ?_
    refine g_get C X g_iX7 0 rfl rfl 3 (by decide) rfl m_151 rfl dX7_isEitherEmpty_57 ?_
    refine lv_if_eq (tgt := 67) hx hb dX7_isEitherEmpty_60 (by decide) (fun c60 => ?_) (fun c60 => ?_)
    · have hf := g_t hf c60
      refine lv_iconst (v := 0) hx hb dX7_isEitherEmpty_67 (by decide) ?_
      exact g_zret (wsC E ad) C hr hk rfl X hf dX7_isEitherEmpty_68
    · have hf := g_f hf c60
      refine lv_iconst (v := 1) hx hb dX7_isEitherEmpty_63 (by decide) ?_
      refine lv_goto (tgt := 68) hx hb dX7_isEitherEmpty_64 (by decide) ?_
      exact g_zret (wsC E ad) C hr hk rfl X hf dX7_isEitherEmpty_68
  have j19 : ∀ (w : CS)  (ls : Array Slot) (H : Heap) (locs : List Loc), fC__isEitherEmpty_19 w  = some (r, w') → lv_has ls 3 [(0, .ref (ad 0))] → g_W E A s H locs (wsC E ad w) → W p l e ({ frames := 2, cells := 0, slots := 0, locals := 41 }) s m ([.ref (ad 0), .int a1, .int a2] : List Value).toArray below meth c H locs 0 0 (MQ below (va_Qi (fun (r' : Int32) (u' : va_W) => r' = r ∧ u' = wsC E ad w') (g_B E A) A) ([.ref (ad 0), .int a1, .int a2] : List Value).toArray s 0 0 A) (F0 m 19 ls []) := by
    intro w  ls H locs hf hl X
    unfold fC__isEitherEmpty_19 at hf
    refine lv_aload_n hx hb dX7_isEitherEmpty_19 rfl (lv_at hl 0 rfl) ?_
    refine lv_iconst (v := 1) hx hb dX7_isEitherEmpty_20 (by decide) ?_
    obtain ⟨w21, e21, hf⟩ := g_le hf
    refine g_put C X g_iX7 tyX7_ok nmX7 0 rfl rfl 3 (by decide) rfl m_151 rfl rfl rfl (Nat.le_of_ble_eq_true rfl) dX7_isEitherEmpty_21 (ws2 := wsC E ad w21) (by subst e21; rfl) (fun H locs X => ?_)
    refine lv_goto (tgt := 56) hx hb dX7_isEitherEmpty_24 (by decide) ?_
    exact j56 w21  ls H locs hf (lv_sub hl [0] rfl) X
  have j51 : ∀ (w : CS)  (ls : Array Slot) (H : Heap) (locs : List Loc), fC__isEitherEmpty_51 w  = some (r, w') → lv_has ls 3 [(0, .ref (ad 0))] → g_W E A s H locs (wsC E ad w) → W p l e ({ frames := 2, cells := 0, slots := 0, locals := 41 }) s m ([.ref (ad 0), .int a1, .int a2] : List Value).toArray below meth c H locs 0 0 (MQ below (va_Qi (fun (r' : Int32) (u' : va_W) => r' = r ∧ u' = wsC E ad w') (g_B E A) A) ([.ref (ad 0), .int a1, .int a2] : List Value).toArray s 0 0 A) (F0 m 51 ls []) := by
    intro w  ls H locs hf hl X
    unfold fC__isEitherEmpty_51 at hf
    refine lv_aload_n hx hb dX7_isEitherEmpty_51 rfl (lv_at hl 0 rfl) ?_
    refine lv_iconst (v := 2) hx hb dX7_isEitherEmpty_52 (by decide) ?_
    obtain ⟨w53, e53, hf⟩ := g_le hf
    refine g_put C X g_iX7 tyX7_ok nmX7 0 rfl rfl 3 (by decide) rfl m_151 rfl rfl rfl (Nat.le_of_ble_eq_true rfl) dX7_isEitherEmpty_53 (ws2 := wsC E ad w53) (by subst e53; rfl) (fun H locs X => ?_)
    exact j56 w53  ls H locs hf (lv_sub hl [0] rfl) X
  unfold fC__isEitherEmpty at hf
  refine lv_aload_n hx hb dX7_isEitherEmpty_0 rfl (lv_at hl 0 rfl) ?_
  refine lv_iconst (v := 0) hx hb dX7_isEitherEmpty_1 (by decide) ?_
  obtain ⟨w2, e2, hf⟩ := g_le hf
  refine g_put C X g_iX7 tyX7_ok nmX7 0 rfl rfl 3 (by decide) rfl m_151 rfl rfl rfl (Nat.le_of_ble_eq_true rfl) dX7_isEitherEmpty_2 (ws2 := wsC E ad w2) (by subst e2; rfl) (fun H locs X => ?_)
  refine lv_iload_n hx hb dX7_isEitherEmpty_5 rfl (lv_at hl 1 rfl) ?_
  obtain ⟨q6, e6, hf⟩ := g_be hf
  refine g_calli X (g_runS (As := [.int a1]) (rest := []) C X (cC__isShelf l E A ad w2 q6.2 q6.1 a1 e6) kX7_isShelf m_216 hl.1 rfl ⟨Nat.le_of_ble_eq_true rfl, Nat.le_of_ble_eq_true rfl⟩ rfl (Nat.le_of_ble_eq_true rfl) dX7_isEitherEmpty_6 ⟨Nat.le_of_ble_eq_true rfl, Nat.le_of_ble_eq_true rfl⟩) rfl rfl (fun H locs X => ?_)
  refine lv_if_eq (tgt := 19) hx hb dX7_isEitherEmpty_9 (by decide) (fun c9 => ?_) (fun c9 => ?_)
  · have hf := g_t hf c9
    exact j19 q6.2  ls H locs hf (lv_sub hl [0] rfl) X
  · have hf := g_f hf c9
    refine lv_iload_n hx hb dX7_isEitherEmpty_12 rfl (lv_at hl 2 rfl) ?_
    obtain ⟨q13, e13, hf⟩ := g_be hf
    refine g_calli X (g_runS (As := [.int a2]) (rest := []) C X (cC__isShelf l E A ad q6.2 q13.2 q13.1 a2 e13) kX7_isShelf m_216 hl.1 rfl ⟨Nat.le_of_ble_eq_true rfl, Nat.le_of_ble_eq_true rfl⟩ rfl (Nat.le_of_ble_eq_true rfl) dX7_isEitherEmpty_13 ⟨Nat.le_of_ble_eq_true rfl, Nat.le_of_ble_eq_true rfl⟩) rfl rfl (fun H locs X => ?_)
    refine lv_if_ne (tgt := 27) hx hb dX7_isEitherEmpty_16 (by decide) (fun c16 => ?_) (fun c16 => ?_)
    · have hf := g_f hf c16
      refine lv_aload_n hx hb dX7_isEitherEmpty_27 rfl (lv_at hl 0 rfl) ?_
      refine g_get C X g_iX7 0 rfl rfl 0 (by decide) rfl m_148 rfl dX7_isEitherEmpty_28 ?_
      refine lv_iload_n hx hb dX7_isEitherEmpty_31 rfl (lv_at hl 1 rfl) ?_
      obtain ⟨q32, e32, hf⟩ := g_be hf
      refine g_calli X (g_runV (As := [.int a1]) (rest := []) C X (cC_S_onShelf l E A ad q13.2 q32.2 q32.1 a1 e32) kX6_onShelf m_333 1 4 rfl rfl hl.1 rfl ⟨Nat.le_of_ble_eq_true rfl, Nat.le_of_ble_eq_true rfl⟩ rfl (Nat.le_of_ble_eq_true rfl) dX7_isEitherEmpty_32 ⟨Nat.le_of_ble_eq_true rfl, Nat.le_of_ble_eq_true rfl⟩) rfl rfl (fun H locs X => ?_)
      refine lv_iconst (v := -1) hx hb dX7_isEitherEmpty_35 (by decide) ?_
      refine lv_icmp_eq (tgt := 51) hx hb dX7_isEitherEmpty_36 (by decide) (fun c36 => ?_) (fun c36 => ?_)
      · have hf := g_t hf c36
        exact j51 q32.2  ls H locs hf (lv_sub hl [0] rfl) X
      · have hf := g_f hf c36
        refine lv_aload_n hx hb dX7_isEitherEmpty_39 rfl (lv_at hl 0 rfl) ?_
        refine g_get C X g_iX7 0 rfl rfl 0 (by decide) rfl m_148 rfl dX7_isEitherEmpty_40 ?_
        refine lv_iload_n hx hb dX7_isEitherEmpty_43 rfl (lv_at hl 2 rfl) ?_
        obtain ⟨q44, e44, hf⟩ := g_be hf
        refine g_calli X (g_runV (As := [.int a2]) (rest := []) C X (cC_S_onShelf l E A ad q32.2 q44.2 q44.1 a2 e44) kX6_onShelf m_333 1 4 rfl rfl hl.1 rfl ⟨Nat.le_of_ble_eq_true rfl, Nat.le_of_ble_eq_true rfl⟩ rfl (Nat.le_of_ble_eq_true rfl) dX7_isEitherEmpty_44 ⟨Nat.le_of_ble_eq_true rfl, Nat.le_of_ble_eq_true rfl⟩) rfl rfl (fun H locs X => ?_)
        refine lv_iconst (v := -1) hx hb dX7_isEitherEmpty_47 (by decide) ?_
        refine lv_icmp_ne (tgt := 56) hx hb dX7_isEitherEmpty_48 (by decide) (fun c48 => ?_) (fun c48 => ?_)
        · have hf := g_f hf c48
          exact j56 q44.2  ls H locs hf (lv_sub hl [0] rfl) X
        · have hf := g_t hf c48
          exact j51 q44.2  ls H locs hf (lv_sub hl [0] rfl) X
    · have hf := g_t hf c16
      exact j19 q13.2  ls H locs hf (lv_sub hl [0] rfl) X
set_option maxRecDepth 100000 in
set_option maxHeartbeats 4000000 in
theorem cC__copyPlaces (l : Launch) (E : g_Env) (A : Nat → Prop) (ad : Nat → Nat) (w : CS) (w' : CS) (r : Int32) (a1 : Int32) (a2 : Int32) (a3 : Int32) (a4 : Int32) (a5 : Int32) (hf : fC__copyPlaces w a1 a2 a3 a4 a5 = some (r, w')) : g_Mi l yX7_copyPlaces cX7_copyPlaces 9 ((some .int)) ({ frames := 4, cells := 0, slots := 0, locals := 92 }) E A [.ref (ad 0), .int a1, .int a2, .int a3, .int a4, .int a5] (wsC E ad w) r (wsC E ad w') := by
  refine g_start (by decide) (Nat.le_of_ble_eq_true rfl) ?_
  intro p e s m below meth c C hr hk hnm ls hl H locs X
  have hx := C.1.1
  have hb := C.1.2.1
  have hl : lv_has ls 9 [(0, .ref (ad 0)), (1, .int a1), (2, .int a2), (3, .int a3), (4, .int a4), (5, .int a5)] := hl
  unfold fC__copyPlaces at hf
  refine lv_aload_n hx hb dX7_copyPlaces_0 rfl (lv_at hl 0 rfl) ?_
  refine lv_iload_n hx hb dX7_copyPlaces_1 rfl (lv_at hl 1 rfl) ?_
  refine lv_iload_n hx hb dX7_copyPlaces_2 rfl (lv_at hl 3 rfl) ?_
  obtain ⟨q3, e3, hf⟩ := g_be hf
  refine g_calli X (g_runV (As := [.int a1, .int a3]) (rest := []) C X (cC__isEitherEmpty l E A ad w q3.2 q3.1 a1 a3 e3) kX7_isEitherEmpty m_395 0 5 rfl rfl hl.1 rfl ⟨Nat.le_of_ble_eq_true rfl, Nat.le_of_ble_eq_true rfl⟩ rfl (Nat.le_of_ble_eq_true rfl) dX7_copyPlaces_3 ⟨Nat.le_of_ble_eq_true rfl, Nat.le_of_ble_eq_true rfl⟩) rfl rfl (fun H locs X => ?_)
  refine lv_if_eq (tgt := 11) hx hb dX7_copyPlaces_6 (by decide) (fun c6 => ?_) (fun c6 => ?_)
  · have hf := g_t hf c6
    refine lv_aload_n hx hb dX7_copyPlaces_11 rfl (lv_at hl 0 rfl) ?_
    refine g_get C X g_iX7 0 rfl rfl 0 (by decide) rfl m_148 rfl dX7_copyPlaces_12 ?_
    refine lv_iload_n hx hb dX7_copyPlaces_15 rfl (lv_at hl 1 rfl) ?_
    obtain ⟨q16, e16, hf⟩ := g_be hf
    refine g_calli X (g_runV (As := [.int a1]) (rest := []) C X (cC_S_onShelf l E A ad q3.2 q16.2 q16.1 a1 e16) kX6_onShelf m_333 1 4 rfl rfl hl.1 rfl ⟨Nat.le_of_ble_eq_true rfl, Nat.le_of_ble_eq_true rfl⟩ rfl (Nat.le_of_ble_eq_true rfl) dX7_copyPlaces_16 ⟨Nat.le_of_ble_eq_true rfl, Nat.le_of_ble_eq_true rfl⟩) rfl rfl (fun H locs X => ?_)
    refine lv_istore (lv' := [(6, .int q16.1), (0, .ref (ad 0)), (1, .int a1), (2, .int a2), (3, .int a3), (4, .int a4), (5, .int a5)]) hx hb dX7_copyPlaces_19 hl (by decide) rfl (fun ls hl => ?_)
    refine lv_aload_n hx hb dX7_copyPlaces_21 rfl (lv_at hl 1 rfl) ?_
    refine g_get C X g_iX7 0 rfl rfl 0 (by decide) rfl m_148 rfl dX7_copyPlaces_22 ?_
    refine lv_iload_n hx hb dX7_copyPlaces_25 rfl (lv_at hl 4 rfl) ?_
    obtain ⟨q26, e26, hf⟩ := g_be hf
    refine g_calli X (g_runV (As := [.int a3]) (rest := []) C X (cC_S_onShelf l E A ad q16.2 q26.2 q26.1 a3 e26) kX6_onShelf m_333 1 4 rfl rfl hl.1 rfl ⟨Nat.le_of_ble_eq_true rfl, Nat.le_of_ble_eq_true rfl⟩ rfl (Nat.le_of_ble_eq_true rfl) dX7_copyPlaces_26 ⟨Nat.le_of_ble_eq_true rfl, Nat.le_of_ble_eq_true rfl⟩) rfl rfl (fun H locs X => ?_)
    refine lv_istore (lv' := [(7, .int q26.1), (6, .int q16.1), (0, .ref (ad 0)), (1, .int a1), (2, .int a2), (3, .int a3), (4, .int a4), (5, .int a5)]) hx hb dX7_copyPlaces_29 hl (by decide) rfl (fun ls hl => ?_)
    refine lv_aload_n hx hb dX7_copyPlaces_31 rfl (lv_at hl 2 rfl) ?_
    refine g_get C X g_iX7 0 rfl rfl 0 (by decide) rfl m_148 rfl dX7_copyPlaces_32 ?_
    refine lv_iload hx hb dX7_copyPlaces_35 (lv_at hl 1 rfl) ?_
    refine lv_iconst (v := 0) hx hb dX7_copyPlaces_37 (by decide) ?_
    obtain ⟨q38, e38, hf⟩ := g_be hf
    refine g_calli X (g_runV (As := [.int q16.1, .int (0 : Int32)]) (rest := []) C X (cC_S_trait l E A ad q26.2 q38.2 q38.1 q16.1 (0 : Int32) e38) kX6_trait m_399 1 4 rfl rfl hl.1 rfl ⟨Nat.le_of_ble_eq_true rfl, Nat.le_of_ble_eq_true rfl⟩ rfl (Nat.le_of_ble_eq_true rfl) dX7_copyPlaces_38 ⟨Nat.le_of_ble_eq_true rfl, Nat.le_of_ble_eq_true rfl⟩) rfl rfl (fun H locs X => ?_)
    refine lv_aload_n hx hb dX7_copyPlaces_41 rfl (lv_at hl 2 rfl) ?_
    refine g_get C X g_iX7 0 rfl rfl 0 (by decide) rfl m_148 rfl dX7_copyPlaces_42 ?_
    refine lv_iload hx hb dX7_copyPlaces_45 (lv_at hl 0 rfl) ?_
    refine lv_iconst (v := 0) hx hb dX7_copyPlaces_47 (by decide) ?_
    obtain ⟨q48, e48, hf⟩ := g_be hf
    refine g_calli X (g_runV (As := [.int q26.1, .int (0 : Int32)]) (rest := [.int q38.1]) C X (cC_S_trait l E A ad q38.2 q48.2 q48.1 q26.1 (0 : Int32) e48) kX6_trait m_399 1 4 rfl rfl hl.1 rfl ⟨Nat.le_of_ble_eq_true rfl, Nat.le_of_ble_eq_true rfl⟩ rfl (Nat.le_of_ble_eq_true rfl) dX7_copyPlaces_48 ⟨Nat.le_of_ble_eq_true rfl, Nat.le_of_ble_eq_true rfl⟩) rfl rfl (fun H locs X => ?_)
    obtain ⟨q51, e51, hf⟩ := g_be hf
    refine g_calli X (g_runS (As := [.int q38.1, .int q48.1]) (rest := []) C X (cC_K_isCopied l E A ad q48.2 q51.2 q51.1 q38.1 q48.1 e51) kX2_isCopied m_400 hl.1 rfl ⟨Nat.le_of_ble_eq_true rfl, Nat.le_of_ble_eq_true rfl⟩ rfl (Nat.le_of_ble_eq_true rfl) dX7_copyPlaces_51 ⟨Nat.le_of_ble_eq_true rfl, Nat.le_of_ble_eq_true rfl⟩) rfl rfl (fun H locs X => ?_)
    refine lv_if_ne (tgt := 63) hx hb dX7_copyPlaces_54 (by decide) (fun c54 => ?_) (fun c54 => ?_)
    · have hf := g_f hf c54
      refine lv_aload_n hx hb dX7_copyPlaces_63 rfl (lv_at hl 2 rfl) ?_
      refine g_get C X g_iX7 0 rfl rfl 0 (by decide) rfl m_148 rfl dX7_copyPlaces_64 ?_
      refine lv_iload hx hb dX7_copyPlaces_67 (lv_at hl 1 rfl) ?_
      refine lv_iload_n hx hb dX7_copyPlaces_69 rfl (lv_at hl 4 rfl) ?_
      refine lv_iload hx hb dX7_copyPlaces_70 (lv_at hl 7 rfl) ?_
      obtain ⟨q72, e72, hf⟩ := g_be hf
      refine g_calli X (g_runV (As := [.int q16.1, .int a2, .int a5]) (rest := []) C X (cC_S_hasPlaces l E A ad q51.2 q72.2 q72.1 q16.1 a2 a5 e72) kX6_hasPlaces m_406 1 4 rfl rfl hl.1 rfl ⟨Nat.le_of_ble_eq_true rfl, Nat.le_of_ble_eq_true rfl⟩ rfl (Nat.le_of_ble_eq_true rfl) dX7_copyPlaces_72 ⟨Nat.le_of_ble_eq_true rfl, Nat.le_of_ble_eq_true rfl⟩) rfl rfl (fun H locs X => ?_)
      refine lv_if_eq (tgt := 94) hx hb dX7_copyPlaces_75 (by decide) (fun c75 => ?_) (fun c75 => ?_)
      · have hf := g_t hf c75
        refine lv_aload_n hx hb dX7_copyPlaces_94 rfl (lv_at hl 2 rfl) ?_
        refine lv_iconst (v := 4) hx hb dX7_copyPlaces_95 (by decide) ?_
        obtain ⟨q96, e96, hf⟩ := g_be hf
        refine g_calli X (g_runV (As := [.int (4 : Int32)]) (rest := []) C X (cC__refuse l E A ad q72.2 q96.2 q96.1 (4 : Int32) e96) kX7_refuse m_204 0 5 rfl rfl hl.1 rfl ⟨Nat.le_of_ble_eq_true rfl, Nat.le_of_ble_eq_true rfl⟩ rfl (Nat.le_of_ble_eq_true rfl) dX7_copyPlaces_96 ⟨Nat.le_of_ble_eq_true rfl, Nat.le_of_ble_eq_true rfl⟩) rfl rfl (fun H locs X => ?_)
        exact g_iret (wsC E ad) C hr hk X hf dX7_copyPlaces_99
      · have hf := g_f hf c75
        refine lv_aload_n hx hb dX7_copyPlaces_78 rfl (lv_at hl 2 rfl) ?_
        refine g_get C X g_iX7 0 rfl rfl 0 (by decide) rfl m_148 rfl dX7_copyPlaces_79 ?_
        refine lv_iload hx hb dX7_copyPlaces_82 (lv_at hl 0 rfl) ?_
        refine lv_iload hx hb dX7_copyPlaces_84 (lv_at hl 6 rfl) ?_
        refine lv_iload hx hb dX7_copyPlaces_86 (lv_at hl 7 rfl) ?_
        obtain ⟨q88, e88, hf⟩ := g_be hf
        refine g_calli X (g_runV (As := [.int q26.1, .int a4, .int a5]) (rest := []) C X (cC_S_hasPlaces l E A ad q72.2 q88.2 q88.1 q26.1 a4 a5 e88) kX6_hasPlaces m_406 1 4 rfl rfl hl.1 rfl ⟨Nat.le_of_ble_eq_true rfl, Nat.le_of_ble_eq_true rfl⟩ rfl (Nat.le_of_ble_eq_true rfl) dX7_copyPlaces_88 ⟨Nat.le_of_ble_eq_true rfl, Nat.le_of_ble_eq_true rfl⟩) rfl rfl (fun H locs X => ?_)
        refine lv_if_ne (tgt := 100) hx hb dX7_copyPlaces_91 (by decide) (fun c91 => ?_) (fun c91 => ?_)
        · have hf := g_f hf c91
          refine lv_aload_n hx hb dX7_copyPlaces_100 rfl (lv_at hl 2 rfl) ?_
          refine g_get C X g_iX7 0 rfl rfl 0 (by decide) rfl m_148 rfl dX7_copyPlaces_101 ?_
          refine lv_iload hx hb dX7_copyPlaces_104 (lv_at hl 1 rfl) ?_
          refine lv_iload_n hx hb dX7_copyPlaces_106 rfl (lv_at hl 4 rfl) ?_
          refine lv_iload hx hb dX7_copyPlaces_107 (lv_at hl 0 rfl) ?_
          refine lv_iload hx hb dX7_copyPlaces_109 (lv_at hl 7 rfl) ?_
          obtain ⟨q111, e111, hf⟩ := g_be hf
          refine g_calli X (g_runV (As := [.int q16.1, .int a2, .int q26.1, .int a5]) (rest := []) C X (cC_S_howManyFit l E A ad q88.2 q111.2 q111.1 q16.1 a2 q26.1 a5 e111) kX6_howManyFit m_410 1 4 rfl rfl hl.1 rfl ⟨Nat.le_of_ble_eq_true rfl, Nat.le_of_ble_eq_true rfl⟩ rfl (Nat.le_of_ble_eq_true rfl) dX7_copyPlaces_111 ⟨Nat.le_of_ble_eq_true rfl, Nat.le_of_ble_eq_true rfl⟩) rfl rfl (fun H locs X => ?_)
          refine lv_istore (lv' := [(8, .int q111.1), (7, .int q26.1), (6, .int q16.1), (0, .ref (ad 0)), (1, .int a1), (2, .int a2), (3, .int a3), (4, .int a4), (5, .int a5)]) hx hb dX7_copyPlaces_114 hl (by decide) rfl (fun ls hl => ?_)
          refine lv_aload_n hx hb dX7_copyPlaces_116 rfl (lv_at hl 3 rfl) ?_
          refine g_get C X g_iX7 0 rfl rfl 0 (by decide) rfl m_148 rfl dX7_copyPlaces_117 ?_
          refine lv_iload hx hb dX7_copyPlaces_120 (lv_at hl 2 rfl) ?_
          refine lv_iload_n hx hb dX7_copyPlaces_122 rfl (lv_at hl 5 rfl) ?_
          refine lv_iload hx hb dX7_copyPlaces_123 (lv_at hl 1 rfl) ?_
          refine lv_iload hx hb dX7_copyPlaces_125 (lv_at hl 7 rfl) ?_
          refine lv_iload hx hb dX7_copyPlaces_127 (lv_at hl 0 rfl) ?_
          obtain ⟨q129, e129, hf⟩ := g_be hf
          refine g_callv X (g_runV (As := [.int q16.1, .int a2, .int q26.1, .int a4, .int q111.1]) (rest := []) C X (cC_S_movePlaces l E A ad q111.2 q129  q16.1 a2 q26.1 a4 q111.1 e129) kX6_movePlaces m_417 1 4 rfl rfl hl.1 rfl ⟨Nat.le_of_ble_eq_true rfl, Nat.le_of_ble_eq_true rfl⟩ rfl (Nat.le_of_ble_eq_true rfl) dX7_copyPlaces_129 ⟨Nat.le_of_ble_eq_true rfl, Nat.le_of_ble_eq_true rfl⟩) rfl rfl (fun H locs X => ?_)
          refine lv_iload hx hb dX7_copyPlaces_132 (lv_at hl 0 rfl) ?_
          refine lv_iload hx hb dX7_copyPlaces_134 (lv_at hl 8 rfl) ?_
          refine lv_icmp_ge (tgt := 144) hx hb dX7_copyPlaces_136 (by decide) (fun c136 => ?_) (fun c136 => ?_)
          · have hf := g_t hf c136
            refine lv_iload hx hb dX7_copyPlaces_144 (lv_at hl 0 rfl) ?_
            exact g_iret (wsC E ad) C hr hk X hf dX7_copyPlaces_146
          · have hf := g_f hf c136
            refine lv_aload_n hx hb dX7_copyPlaces_139 rfl (lv_at hl 3 rfl) ?_
            refine lv_iconst (v := 5) hx hb dX7_copyPlaces_140 (by decide) ?_
            obtain ⟨w141, e141, hf⟩ := g_le hf
            refine g_put C X g_iX7 tyX7_ok nmX7 0 rfl rfl 3 (by decide) rfl m_151 rfl rfl rfl (Nat.le_of_ble_eq_true rfl) dX7_copyPlaces_141 (ws2 := wsC E ad w141) (by subst e141; rfl) (fun H locs X => ?_)
            refine lv_iload hx hb dX7_copyPlaces_144 (lv_at hl 0 rfl) ?_
            exact g_iret (wsC E ad) C hr hk X hf dX7_copyPlaces_146
        · have hf := g_t hf c91
          refine lv_aload_n hx hb dX7_copyPlaces_94 rfl (lv_at hl 2 rfl) ?_
          refine lv_iconst (v := 4) hx hb dX7_copyPlaces_95 (by decide) ?_
          obtain ⟨q96, e96, hf⟩ := g_be hf
          refine g_calli X (g_runV (As := [.int (4 : Int32)]) (rest := []) C X (cC__refuse l E A ad q88.2 q96.2 q96.1 (4 : Int32) e96) kX7_refuse m_204 0 5 rfl rfl hl.1 rfl ⟨Nat.le_of_ble_eq_true rfl, Nat.le_of_ble_eq_true rfl⟩ rfl (Nat.le_of_ble_eq_true rfl) dX7_copyPlaces_96 ⟨Nat.le_of_ble_eq_true rfl, Nat.le_of_ble_eq_true rfl⟩) rfl rfl (fun H locs X => ?_)
          exact g_iret (wsC E ad) C hr hk X hf dX7_copyPlaces_99
    · have hf := g_t hf c54
      refine lv_aload_n hx hb dX7_copyPlaces_57 rfl (lv_at hl 2 rfl) ?_
      refine lv_iconst (v := 3) hx hb dX7_copyPlaces_58 (by decide) ?_
      obtain ⟨q59, e59, hf⟩ := g_be hf
      refine g_calli X (g_runV (As := [.int (3 : Int32)]) (rest := []) C X (cC__refuse l E A ad q51.2 q59.2 q59.1 (3 : Int32) e59) kX7_refuse m_204 0 5 rfl rfl hl.1 rfl ⟨Nat.le_of_ble_eq_true rfl, Nat.le_of_ble_eq_true rfl⟩ rfl (Nat.le_of_ble_eq_true rfl) dX7_copyPlaces_59 ⟨Nat.le_of_ble_eq_true rfl, Nat.le_of_ble_eq_true rfl⟩) rfl rfl (fun H locs X => ?_)
      exact g_iret (wsC E ad) C hr hk X hf dX7_copyPlaces_62
  · have hf := g_f hf c6
    refine lv_iconst (v := 0) hx hb dX7_copyPlaces_9 (by decide) ?_
    exact g_iret (wsC E ad) C hr hk X hf dX7_copyPlaces_10
set_option maxRecDepth 100000 in
set_option maxHeartbeats 4000000 in
theorem cC__writeNumber (l : Launch) (E : g_Env) (A : Nat → Prop) (ad : Nat → Nat) (w : CS) (w' : CS) (r : Int32) (a1 : Int32) (a2 : Int32) (a3 : Int64) (hf : fC__writeNumber w a1 a2 a3 = some (r, w')) : g_Mi l yX7_writeNumber cX7_writeNumber 6 ((some .int)) ({ frames := 4, cells := 0, slots := 0, locals := 90 }) E A [.ref (ad 0), .int a1, .int a2, .long a3] (wsC E ad w) r (wsC E ad w') := by
  refine g_start (by decide) (Nat.le_of_ble_eq_true rfl) ?_
  intro p e s m below meth c C hr hk hnm ls hl H locs X
  have hx := C.1.1
  have hb := C.1.2.1
  have hl : lv_has ls 6 [(0, .ref (ad 0)), (1, .int a1), (2, .int a2), (3, .long a3)] := hl
  unfold fC__writeNumber at hf
  refine lv_aload_n hx hb dX7_writeNumber_0 rfl (lv_at hl 0 rfl) ?_
  refine lv_iload_n hx hb dX7_writeNumber_1 rfl (lv_at hl 1 rfl) ?_
  refine lv_ldc (v := 57344) hx hb C.1.2.2.2.1 (C.1.2.2.2.2 _ m_430) dX7_writeNumber_2 ?_
  refine lv_iload_n hx hb dX7_writeNumber_4 rfl (lv_at hl 2 rfl) ?_
  obtain ⟨q5, e5, hf⟩ := g_be hf
  refine g_calli X (g_runV (As := [.int a1, .int (57344 : Int32), .int a2]) (rest := []) C X (cC__hasNoPlace l E A ad w q5.2 q5.1 a1 (57344 : Int32) a2 e5) kX7_hasNoPlace m_350 0 5 rfl rfl hl.1 rfl ⟨Nat.le_of_ble_eq_true rfl, Nat.le_of_ble_eq_true rfl⟩ rfl (Nat.le_of_ble_eq_true rfl) dX7_writeNumber_5 ⟨Nat.le_of_ble_eq_true rfl, Nat.le_of_ble_eq_true rfl⟩) rfl rfl (fun H locs X => ?_)
  refine lv_if_eq (tgt := 13) hx hb dX7_writeNumber_8 (by decide) (fun c8 => ?_) (fun c8 => ?_)
  · have hf := g_t hf c8
    refine lv_aload_n hx hb dX7_writeNumber_13 rfl (lv_at hl 0 rfl) ?_
    refine g_get C X g_iX7 0 rfl rfl 0 (by decide) rfl m_148 rfl dX7_writeNumber_14 ?_
    refine lv_iload_n hx hb dX7_writeNumber_17 rfl (lv_at hl 1 rfl) ?_
    obtain ⟨q18, e18, hf⟩ := g_be hf
    refine g_calli X (g_runV (As := [.int a1]) (rest := []) C X (cC_S_onShelf l E A ad q5.2 q18.2 q18.1 a1 e18) kX6_onShelf m_333 1 4 rfl rfl hl.1 rfl ⟨Nat.le_of_ble_eq_true rfl, Nat.le_of_ble_eq_true rfl⟩ rfl (Nat.le_of_ble_eq_true rfl) dX7_writeNumber_18 ⟨Nat.le_of_ble_eq_true rfl, Nat.le_of_ble_eq_true rfl⟩) rfl rfl (fun H locs X => ?_)
    refine lv_istore (lv' := [(5, .int q18.1), (0, .ref (ad 0)), (1, .int a1), (2, .int a2), (3, .long a3)]) hx hb dX7_writeNumber_21 hl (by decide) rfl (fun ls hl => ?_)
    refine lv_aload_n hx hb dX7_writeNumber_23 rfl (lv_at hl 1 rfl) ?_
    refine g_get C X g_iX7 0 rfl rfl 0 (by decide) rfl m_148 rfl dX7_writeNumber_24 ?_
    refine lv_iload hx hb dX7_writeNumber_27 (lv_at hl 0 rfl) ?_
    refine lv_iload_n hx hb dX7_writeNumber_29 rfl (lv_at hl 3 rfl) ?_
    refine lv_aload_n hx hb dX7_writeNumber_30 rfl (lv_at hl 1 rfl) ?_
    refine g_get C X g_iX7 0 rfl rfl 0 (by decide) rfl m_148 rfl dX7_writeNumber_31 ?_
    refine lv_iload hx hb dX7_writeNumber_34 (lv_at hl 0 rfl) ?_
    refine lv_iconst (v := 0) hx hb dX7_writeNumber_36 (by decide) ?_
    obtain ⟨q37, e37, hf⟩ := g_be hf
    refine g_calli X (g_runV (As := [.int q18.1, .int (0 : Int32)]) (rest := [.int a2, .int q18.1, .ref (ad 1)]) C X (cC_S_trait l E A ad q18.2 q37.2 q37.1 q18.1 (0 : Int32) e37) kX6_trait m_399 1 4 rfl rfl hl.1 rfl ⟨Nat.le_of_ble_eq_true rfl, Nat.le_of_ble_eq_true rfl⟩ rfl (Nat.le_of_ble_eq_true rfl) dX7_writeNumber_37 ⟨Nat.le_of_ble_eq_true rfl, Nat.le_of_ble_eq_true rfl⟩) rfl rfl (fun H locs X => ?_)
    refine lv_lload_n hx hb dX7_writeNumber_40 rfl (lv_at hl 4 rfl) ?_
    obtain ⟨q41, e41, hf⟩ := g_be hf
    refine g_calll X (g_runS (As := [.int q37.1, .long a3]) (rest := [.int a2, .int q18.1, .ref (ad 1)]) C X (cC_K_asHeldIn l E A ad q37.2 q41.2 q41.1 q37.1 a3 e41) kX2_asHeldIn m_431 hl.1 rfl ⟨Nat.le_of_ble_eq_true rfl, Nat.le_of_ble_eq_true rfl⟩ rfl (Nat.le_of_ble_eq_true rfl) dX7_writeNumber_41 ⟨Nat.le_of_ble_eq_true rfl, Nat.le_of_ble_eq_true rfl⟩) rfl rfl (fun H locs X => ?_)
    obtain ⟨q44, e44, hf⟩ := g_be hf
    refine g_callv X (g_runV (As := [.int q18.1, .int a2, .long q41.1]) (rest := []) C X (cC_S_setPlace l E A ad q41.2 q44  q18.1 a2 q41.1 e44) kX6_setPlace m_377 1 4 rfl rfl hl.1 rfl ⟨Nat.le_of_ble_eq_true rfl, Nat.le_of_ble_eq_true rfl⟩ rfl (Nat.le_of_ble_eq_true rfl) dX7_writeNumber_44 ⟨Nat.le_of_ble_eq_true rfl, Nat.le_of_ble_eq_true rfl⟩) rfl rfl (fun H locs X => ?_)
    refine lv_iconst (v := 1) hx hb dX7_writeNumber_47 (by decide) ?_
    exact g_iret (wsC E ad) C hr hk X hf dX7_writeNumber_48
  · have hf := g_f hf c8
    refine lv_iconst (v := 0) hx hb dX7_writeNumber_11 (by decide) ?_
    exact g_iret (wsC E ad) C hr hk X hf dX7_writeNumber_12
set_option maxRecDepth 100000 in
set_option maxHeartbeats 4000000 in
theorem cC__setKnob (l : Launch) (E : g_Env) (A : Nat → Prop) (ad : Nat → Nat) (w : CS) (w' : CS) (r : Int32) (a1 : Int32) (a2 : Int32) (hf : fC__setKnob w a1 a2 = some (r, w')) : g_Mi l yX7_setKnob cX7_setKnob 5 ((some .int)) ({ frames := 3, cells := 0, slots := 0, locals := 67 }) E A [.ref (ad 0), .int a1, .int a2] (wsC E ad w) r (wsC E ad w') := by
  refine g_start (by decide) (Nat.le_of_ble_eq_true rfl) ?_
  intro p e s m below meth c C hr hk hnm ls hl H locs X
  have hx := C.1.1
  have hb := C.1.2.1
  have hl : lv_has ls 5 [(0, .ref (ad 0)), (1, .int a1), (2, .int a2)] := hl
  unfold fC__setKnob at hf
  refine lv_iload_n hx hb dX7_setKnob_0 rfl (lv_at hl 2 rfl) ?_
  refine lv_sipush (v := -1000) hx hb dX7_setKnob_1 (by decide) ?_
  refine lv_icmp_lt (tgt := 14) hx hb dX7_setKnob_4 (by decide) (fun c4 => ?_) (fun c4 => ?_)
  · have hf := g_t hf c4
    refine lv_aload_n hx hb dX7_setKnob_14 rfl (lv_at hl 0 rfl) ?_
    refine lv_iconst (v := 1) hx hb dX7_setKnob_15 (by decide) ?_
    obtain ⟨q16, e16, hf⟩ := g_be hf
    refine g_calli X (g_runV (As := [.int (1 : Int32)]) (rest := []) C X (cC__refuse l E A ad w q16.2 q16.1 (1 : Int32) e16) kX7_refuse m_204 0 5 rfl rfl hl.1 rfl ⟨Nat.le_of_ble_eq_true rfl, Nat.le_of_ble_eq_true rfl⟩ rfl (Nat.le_of_ble_eq_true rfl) dX7_setKnob_16 ⟨Nat.le_of_ble_eq_true rfl, Nat.le_of_ble_eq_true rfl⟩) rfl rfl (fun H locs X => ?_)
    exact g_iret (wsC E ad) C hr hk X hf dX7_setKnob_19
  · have hf := g_f hf c4
    refine lv_iload_n hx hb dX7_setKnob_7 rfl (lv_at hl 2 rfl) ?_
    refine lv_sipush (v := 1000) hx hb dX7_setKnob_8 (by decide) ?_
    refine lv_icmp_le (tgt := 20) hx hb dX7_setKnob_11 (by decide) (fun c11 => ?_) (fun c11 => ?_)
    · have hf := g_t hf c11
      refine lv_aload_n hx hb dX7_setKnob_20 rfl (lv_at hl 0 rfl) ?_
      refine lv_iload_n hx hb dX7_setKnob_21 rfl (lv_at hl 1 rfl) ?_
      refine lv_iconst (v := 1) hx hb dX7_setKnob_22 (by decide) ?_
      obtain ⟨q23, e23, hf⟩ := g_be hf
      refine g_calli X (g_runV (As := [.int a1, .int (1 : Int32)]) (rest := []) C X (cC__holdsNone l E A ad w q23.2 q23.1 a1 (1 : Int32) e23) kX7_holdsNone m_354 0 5 rfl rfl hl.1 rfl ⟨Nat.le_of_ble_eq_true rfl, Nat.le_of_ble_eq_true rfl⟩ rfl (Nat.le_of_ble_eq_true rfl) dX7_setKnob_23 ⟨Nat.le_of_ble_eq_true rfl, Nat.le_of_ble_eq_true rfl⟩) rfl rfl (fun H locs X => ?_)
      refine lv_if_eq (tgt := 31) hx hb dX7_setKnob_26 (by decide) (fun c26 => ?_) (fun c26 => ?_)
      · have hf := g_t hf c26
        refine lv_aload_n hx hb dX7_setKnob_31 rfl (lv_at hl 0 rfl) ?_
        refine g_get C X g_iX7 0 rfl rfl 0 (by decide) rfl m_148 rfl dX7_setKnob_32 ?_
        refine lv_iload_n hx hb dX7_setKnob_35 rfl (lv_at hl 1 rfl) ?_
        obtain ⟨q36, e36, hf⟩ := g_be hf
        refine g_calli X (g_runV (As := [.int a1]) (rest := []) C X (cC_S_onShelf l E A ad q23.2 q36.2 q36.1 a1 e36) kX6_onShelf m_333 1 4 rfl rfl hl.1 rfl ⟨Nat.le_of_ble_eq_true rfl, Nat.le_of_ble_eq_true rfl⟩ rfl (Nat.le_of_ble_eq_true rfl) dX7_setKnob_36 ⟨Nat.le_of_ble_eq_true rfl, Nat.le_of_ble_eq_true rfl⟩) rfl rfl (fun H locs X => ?_)
        refine lv_istore_n (lv' := [(3, .int q36.1), (0, .ref (ad 0)), (1, .int a1), (2, .int a2)]) hx hb dX7_setKnob_39 rfl hl (by decide) rfl (fun ls hl => ?_)
        refine lv_aload_n hx hb dX7_setKnob_40 rfl (lv_at hl 1 rfl) ?_
        refine g_get C X g_iX7 0 rfl rfl 0 (by decide) rfl m_148 rfl dX7_setKnob_41 ?_
        refine lv_iload_n hx hb dX7_setKnob_44 rfl (lv_at hl 0 rfl) ?_
        refine lv_iconst (v := 2) hx hb dX7_setKnob_45 (by decide) ?_
        obtain ⟨q46, e46, hf⟩ := g_be hf
        refine g_calli X (g_runV (As := [.int q36.1, .int (2 : Int32)]) (rest := []) C X (cC_S_trait l E A ad q36.2 q46.2 q46.1 q36.1 (2 : Int32) e46) kX6_trait m_399 1 4 rfl rfl hl.1 rfl ⟨Nat.le_of_ble_eq_true rfl, Nat.le_of_ble_eq_true rfl⟩ rfl (Nat.le_of_ble_eq_true rfl) dX7_setKnob_46 ⟨Nat.le_of_ble_eq_true rfl, Nat.le_of_ble_eq_true rfl⟩) rfl rfl (fun H locs X => ?_)
        refine lv_istore (lv' := [(4, .int q46.1), (3, .int q36.1), (0, .ref (ad 0)), (1, .int a1), (2, .int a2)]) hx hb dX7_setKnob_49 hl (by decide) rfl (fun ls hl => ?_)
        refine lv_aload_n hx hb dX7_setKnob_51 rfl (lv_at hl 2 rfl) ?_
        refine g_get C X g_iX7 0 rfl rfl 0 (by decide) rfl m_148 rfl dX7_setKnob_52 ?_
        refine lv_iload_n hx hb dX7_setKnob_55 rfl (lv_at hl 1 rfl) ?_
        refine lv_iconst (v := 2) hx hb dX7_setKnob_56 (by decide) ?_
        refine lv_iload_n hx hb dX7_setKnob_57 rfl (lv_at hl 4 rfl) ?_
        obtain ⟨q58, e58, hf⟩ := g_be hf
        refine g_callv X (g_runV (As := [.int q36.1, .int (2 : Int32), .int a2]) (rest := []) C X (cC_S_setTrait l E A ad q46.2 q58  q36.1 (2 : Int32) a2 e58) kX6_setTrait m_442 1 4 rfl rfl hl.1 rfl ⟨Nat.le_of_ble_eq_true rfl, Nat.le_of_ble_eq_true rfl⟩ rfl (Nat.le_of_ble_eq_true rfl) dX7_setKnob_58 ⟨Nat.le_of_ble_eq_true rfl, Nat.le_of_ble_eq_true rfl⟩) rfl rfl (fun H locs X => ?_)
        refine lv_iload hx hb dX7_setKnob_61 (lv_at hl 0 rfl) ?_
        exact g_iret (wsC E ad) C hr hk X hf dX7_setKnob_63
      · have hf := g_f hf c26
        refine lv_iconst (v := 0) hx hb dX7_setKnob_29 (by decide) ?_
        exact g_iret (wsC E ad) C hr hk X hf dX7_setKnob_30
    · have hf := g_f hf c11
      refine lv_aload_n hx hb dX7_setKnob_14 rfl (lv_at hl 0 rfl) ?_
      refine lv_iconst (v := 1) hx hb dX7_setKnob_15 (by decide) ?_
      obtain ⟨q16, e16, hf⟩ := g_be hf
      refine g_calli X (g_runV (As := [.int (1 : Int32)]) (rest := []) C X (cC__refuse l E A ad w q16.2 q16.1 (1 : Int32) e16) kX7_refuse m_204 0 5 rfl rfl hl.1 rfl ⟨Nat.le_of_ble_eq_true rfl, Nat.le_of_ble_eq_true rfl⟩ rfl (Nat.le_of_ble_eq_true rfl) dX7_setKnob_16 ⟨Nat.le_of_ble_eq_true rfl, Nat.le_of_ble_eq_true rfl⟩) rfl rfl (fun H locs X => ?_)
      exact g_iret (wsC E ad) C hr hk X hf dX7_setKnob_19
set_option maxRecDepth 100000 in
set_option maxHeartbeats 4000000 in
theorem cC__playChain (l : Launch) (E : g_Env) (A : Nat → Prop) (ad : Nat → Nat) (w : CS) (w' : CS) (r : Int32) (a1 : Int32) (hf : fC__playChain w a1 = some (r, w')) : g_Mi l yX7_playChain cX7_playChain 4 ((some .int)) ({ frames := 3, cells := 0, slots := 0, locals := 75 }) E A [.ref (ad 0), .int a1] (wsC E ad w) r (wsC E ad w') := by
  refine g_start (by decide) (Nat.le_of_ble_eq_true rfl) ?_
  intro p e s m below meth c C hr hk hnm ls hl H locs X
  have hx := C.1.1
  have hb := C.1.2.1
  have hl : lv_has ls 4 [(0, .ref (ad 0)), (1, .int a1)] := hl
  have j4 : ∀ (n : Nat) (w : CS) (x2 : Int32) (x3 : Int32) (ls : Array Slot) (H : Heap) (locs : List Loc), fC__playChain_4 n w x2 x3 = some (r, w') → lv_has ls 4 [(0, .ref (ad 0)), (2, .int x2), (3, .int x3)] → g_W E A s H locs (wsC E ad w) → W p l e ({ frames := 3, cells := 0, slots := 0, locals := 75 }) s m ([.ref (ad 0), .int a1] : List Value).toArray below meth c H locs 0 0 (MQ below (va_Qi (fun (r' : Int32) (u' : va_W) => r' = r ∧ u' = wsC E ad w') (g_B E A) A) ([.ref (ad 0), .int a1] : List Value).toArray s 0 0 A) (F0 m 4 ls []) := by
    intro n
    induction n with
    | zero => intro w x2 x3 ls H locs hf; exact absurd hf (by simp [fC__playChain_4])
    | succ n4 ih4 =>
      intro w x2 x3 ls H locs hf hl X
      unfold fC__playChain_4 at hf
      refine lv_iload_n hx hb dX7_playChain_4 rfl (lv_at hl 2 rfl) ?_
      refine lv_aload_n hx hb dX7_playChain_5 rfl (lv_at hl 0 rfl) ?_
      refine g_get C X g_iX7 0 rfl rfl 1 (by decide) rfl m_149 rfl dX7_playChain_6 ?_
      refine g_getN C X g_iX0 4 rfl rfl 1 (by decide) rfl n_2 rfl dX7_playChain_9 ?_
      refine lv_icmp_ge (tgt := 38) hx hb dX7_playChain_12 (by decide) (fun c12 => ?_) (fun c12 => ?_)
      · have hf := g_t hf c12
        refine lv_iload_n hx hb dX7_playChain_38 rfl (lv_at hl 1 rfl) ?_
        exact g_iret (wsC E ad) C hr hk X hf dX7_playChain_39
      · have hf := g_f hf c12
        refine lv_aload_n hx hb dX7_playChain_15 rfl (lv_at hl 0 rfl) ?_
        refine g_get C X g_iX7 0 rfl rfl 0 (by decide) rfl m_148 rfl dX7_playChain_16 ?_
        refine lv_aload_n hx hb dX7_playChain_19 rfl (lv_at hl 0 rfl) ?_
        refine g_get C X g_iX7 0 rfl rfl 1 (by decide) rfl m_149 rfl dX7_playChain_20 ?_
        refine lv_iload_n hx hb dX7_playChain_23 rfl (lv_at hl 2 rfl) ?_
        obtain ⟨q24, e24, hf⟩ := g_be hf
        refine g_calli X (g_runV (As := [.int x3]) (rest := [.ref (ad 1)]) C X (cC_Ch_partAt l E A ad w q24.2 q24.1 x3 e24) kX0_partAt m_475 4 0 rfl rfl hl.1 rfl ⟨Nat.le_of_ble_eq_true rfl, Nat.le_of_ble_eq_true rfl⟩ rfl (Nat.le_of_ble_eq_true rfl) dX7_playChain_24 ⟨Nat.le_of_ble_eq_true rfl, Nat.le_of_ble_eq_true rfl⟩) rfl rfl (fun H locs X => ?_)
        refine lv_iload_n hx hb dX7_playChain_27 rfl (lv_at hl 1 rfl) ?_
        obtain ⟨q28, e28, hf⟩ := g_be hf
        refine g_calli X (g_runS (As := [.ref (ad 1), .int q24.1, .int x2]) (rest := []) C X (cC_Ru_turn l E A ad q24.2 q28.2 q28.1 q24.1 x2 e28) kX4_turn m_479 hl.1 rfl ⟨Nat.le_of_ble_eq_true rfl, Nat.le_of_ble_eq_true rfl⟩ rfl (Nat.le_of_ble_eq_true rfl) dX7_playChain_28 ⟨Nat.le_of_ble_eq_true rfl, Nat.le_of_ble_eq_true rfl⟩) rfl rfl (fun H locs X => ?_)
        refine lv_istore_n (lv' := [(2, .int q28.1), (0, .ref (ad 0)), (3, .int x3)]) hx hb dX7_playChain_31 rfl hl (by decide) rfl (fun ls hl => ?_)
        refine lv_iinc (v := x3 + (1 : Int32)) (lv' := [(3, .int (x3 + (1 : Int32))), (2, .int q28.1), (0, .ref (ad 0))]) hx hb dX7_playChain_32 hl (k := 2) rfl rfl (by decide) rfl (fun ls hl => ?_)
        refine lv_goto (tgt := 4) hx hb dX7_playChain_35 (by decide) ?_
        exact ih4 q28.2 q28.1 (x3 + (1 : Int32)) ls H locs hf (lv_sub hl [2, 1, 0] rfl) X
  unfold fC__playChain at hf
  refine lv_iload_n hx hb dX7_playChain_0 rfl (lv_at hl 1 rfl) ?_
  refine lv_istore_n (lv' := [(2, .int a1), (0, .ref (ad 0)), (1, .int a1)]) hx hb dX7_playChain_1 rfl hl (by decide) rfl (fun ls hl => ?_)
  refine lv_iconst (v := 0) hx hb dX7_playChain_2 (by decide) ?_
  refine lv_istore_n (lv' := [(3, .int (0 : Int32)), (2, .int a1), (0, .ref (ad 0)), (1, .int a1)]) hx hb dX7_playChain_3 rfl hl (by decide) rfl (fun ls hl => ?_)
  exact j4 g_fuel w a1 (0 : Int32) ls H locs hf (lv_sub hl [2, 1, 0] rfl) X
set_option maxRecDepth 100000 in
set_option maxHeartbeats 4000000 in
theorem cC__playOnce (l : Launch) (E : g_Env) (A : Nat → Prop) (ad : Nat → Nat) (w : CS) (w' : CS) (r : Int32) (a1 : Int32) (a2 : Int32) (hf : fC__playOnce w a1 a2 = some (r, w')) : g_Mi l yX7_playOnce cX7_playOnce 3 ((some .int)) ({ frames := 4, cells := 0, slots := 0, locals := 98 }) E A [.ref (ad 0), .int a1, .int a2] (wsC E ad w) r (wsC E ad w') := by
  refine g_start (by decide) (Nat.le_of_ble_eq_true rfl) ?_
  intro p e s m below meth c C hr hk hnm ls hl H locs X
  have hx := C.1.1
  have hb := C.1.2.1
  have hl : lv_has ls 3 [(0, .ref (ad 0)), (1, .int a1), (2, .int a2)] := hl
  unfold fC__playOnce at hf
  refine lv_aload_n hx hb dX7_playOnce_0 rfl (lv_at hl 0 rfl) ?_
  refine lv_iload_n hx hb dX7_playOnce_1 rfl (lv_at hl 1 rfl) ?_
  refine lv_ldcw (v := 8519681) hx hb C.1.2.2.2.1 (C.1.2.2.2.2 _ m_451) dX7_playOnce_2 ?_
  obtain ⟨q5, e5, hf⟩ := g_be hf
  refine g_calli X (g_runV (As := [.int a1, .int (8519681 : Int32)]) (rest := []) C X (cC__holdsNone l E A ad w q5.2 q5.1 a1 (8519681 : Int32) e5) kX7_holdsNone m_354 0 5 rfl rfl hl.1 rfl ⟨Nat.le_of_ble_eq_true rfl, Nat.le_of_ble_eq_true rfl⟩ rfl (Nat.le_of_ble_eq_true rfl) dX7_playOnce_5 ⟨Nat.le_of_ble_eq_true rfl, Nat.le_of_ble_eq_true rfl⟩) rfl rfl (fun H locs X => ?_)
  refine lv_if_eq (tgt := 13) hx hb dX7_playOnce_8 (by decide) (fun c8 => ?_) (fun c8 => ?_)
  · have hf := g_t hf c8
    refine lv_aload_n hx hb dX7_playOnce_13 rfl (lv_at hl 0 rfl) ?_
    refine g_get C X g_iX7 0 rfl rfl 1 (by decide) rfl m_149 rfl dX7_playOnce_14 ?_
    refine lv_aload_n hx hb dX7_playOnce_17 rfl (lv_at hl 0 rfl) ?_
    refine g_get C X g_iX7 0 rfl rfl 0 (by decide) rfl m_148 rfl dX7_playOnce_18 ?_
    refine lv_aload_n hx hb dX7_playOnce_21 rfl (lv_at hl 0 rfl) ?_
    refine g_get C X g_iX7 0 rfl rfl 0 (by decide) rfl m_148 rfl dX7_playOnce_22 ?_
    refine lv_iload_n hx hb dX7_playOnce_25 rfl (lv_at hl 1 rfl) ?_
    obtain ⟨q26, e26, hf⟩ := g_be hf
    refine g_calli X (g_runV (As := [.int a1]) (rest := [.ref (ad 1), .ref (ad 4)]) C X (cC_S_onShelf l E A ad q5.2 q26.2 q26.1 a1 e26) kX6_onShelf m_333 1 4 rfl rfl hl.1 rfl ⟨Nat.le_of_ble_eq_true rfl, Nat.le_of_ble_eq_true rfl⟩ rfl (Nat.le_of_ble_eq_true rfl) dX7_playOnce_26 ⟨Nat.le_of_ble_eq_true rfl, Nat.le_of_ble_eq_true rfl⟩) rfl rfl (fun H locs X => ?_)
    obtain ⟨q29, e29, hf⟩ := g_be hf
    refine g_callv X (g_runV (As := [.ref (ad 1), .int q26.1]) (rest := []) C X (cC_Ch_lineUp l E A ad q26.2 q29  q26.1 e29) kX0_lineUp m_452 4 0 rfl rfl hl.1 rfl ⟨Nat.le_of_ble_eq_true rfl, Nat.le_of_ble_eq_true rfl⟩ rfl (Nat.le_of_ble_eq_true rfl) dX7_playOnce_29 ⟨Nat.le_of_ble_eq_true rfl, Nat.le_of_ble_eq_true rfl⟩) rfl rfl (fun H locs X => ?_)
    refine lv_aload_n hx hb dX7_playOnce_32 rfl (lv_at hl 0 rfl) ?_
    refine lv_iload_n hx hb dX7_playOnce_33 rfl (lv_at hl 2 rfl) ?_
    obtain ⟨q34, e34, hf⟩ := g_be hf
    refine g_calli X (g_runV (As := [.int a2]) (rest := []) C X (cC__playChain l E A ad q29 q34.2 q34.1 a2 e34) kX7_playChain m_471 0 5 rfl rfl hl.1 rfl ⟨Nat.le_of_ble_eq_true rfl, Nat.le_of_ble_eq_true rfl⟩ rfl (Nat.le_of_ble_eq_true rfl) dX7_playOnce_34 ⟨Nat.le_of_ble_eq_true rfl, Nat.le_of_ble_eq_true rfl⟩) rfl rfl (fun H locs X => ?_)
    exact g_iret (wsC E ad) C hr hk X hf dX7_playOnce_37
  · have hf := g_f hf c8
    refine lv_iconst (v := 0) hx hb dX7_playOnce_11 (by decide) ?_
    exact g_iret (wsC E ad) C hr hk X hf dX7_playOnce_12
set_option maxRecDepth 100000 in
set_option maxHeartbeats 4000000 in
theorem cC__runOver (l : Launch) (E : g_Env) (A : Nat → Prop) (ad : Nat → Nat) (w : CS) (w' : CS) (r : Int32) (a1 : Int32) (a2 : Int32) (hf : fC__runOver w a1 a2 = some (r, w')) : g_Mi l yX7_runOver cX7_runOver 7 ((some .int)) ({ frames := 4, cells := 0, slots := 0, locals := 98 }) E A [.ref (ad 0), .int a1, .int a2] (wsC E ad w) r (wsC E ad w') := by
  refine g_start (by decide) (Nat.le_of_ble_eq_true rfl) ?_
  intro p e s m below meth c C hr hk hnm ls hl H locs X
  have hx := C.1.1
  have hb := C.1.2.1
  have hl : lv_has ls 7 [(0, .ref (ad 0)), (1, .int a1), (2, .int a2)] := hl
  have j91 : ∀ (n : Nat) (w : CS) (x4 : Int32) (x5 : Int32) (x6 : Int32) (ls : Array Slot) (H : Heap) (locs : List Loc), fC__runOver_91 n w x4 x5 x6 = some (r, w') → lv_has ls 7 [(0, .ref (ad 0)), (4, .int x4), (5, .int x5), (6, .int x6)] → g_W E A s H locs (wsC E ad w) → W p l e ({ frames := 4, cells := 0, slots := 0, locals := 98 }) s m ([.ref (ad 0), .int a1, .int a2] : List Value).toArray below meth c H locs 0 0 (MQ below (va_Qi (fun (r' : Int32) (u' : va_W) => r' = r ∧ u' = wsC E ad w') (g_B E A) A) ([.ref (ad 0), .int a1, .int a2] : List Value).toArray s 0 0 A) (F0 m 91 ls []) := by
    intro n
    induction n with
    | zero => intro w x4 x5 x6 ls H locs hf; exact absurd hf (by simp [fC__runOver_91])
    | succ n91 ih91 =>
      intro w x4 x5 x6 ls H locs hf hl X
      unfold fC__runOver_91 at hf
      refine lv_iload hx hb dX7_runOver_91 (lv_at hl 3 rfl) ?_
      refine lv_iload hx hb dX7_runOver_93 (lv_at hl 2 rfl) ?_
      refine lv_icmp_ge (tgt := 132) hx hb dX7_runOver_95 (by decide) (fun c95 => ?_) (fun c95 => ?_)
      · have hf := g_t hf c95
        refine lv_iload hx hb dX7_runOver_132 (lv_at hl 2 rfl) ?_
        exact g_iret (wsC E ad) C hr hk X hf dX7_runOver_134
      · have hf := g_f hf c95
        refine lv_aload_n hx hb dX7_runOver_98 rfl (lv_at hl 0 rfl) ?_
        refine g_get C X g_iX7 0 rfl rfl 0 (by decide) rfl m_148 rfl dX7_runOver_99 ?_
        refine lv_iload hx hb dX7_runOver_102 (lv_at hl 1 rfl) ?_
        refine lv_iload hx hb dX7_runOver_104 (lv_at hl 3 rfl) ?_
        refine lv_aload_n hx hb dX7_runOver_106 rfl (lv_at hl 0 rfl) ?_
        refine lv_aload_n hx hb dX7_runOver_107 rfl (lv_at hl 0 rfl) ?_
        refine g_get C X g_iX7 0 rfl rfl 0 (by decide) rfl m_148 rfl dX7_runOver_108 ?_
        refine lv_iload hx hb dX7_runOver_111 (lv_at hl 1 rfl) ?_
        refine lv_iload hx hb dX7_runOver_113 (lv_at hl 3 rfl) ?_
        obtain ⟨q115, e115, hf⟩ := g_be hf
        refine g_calll X (g_runV (As := [.int x4, .int x6]) (rest := [.ref (ad 0), .int x6, .int x4, .ref (ad 1)]) C X (cC_S_atPlace l E A ad w q115.2 q115.1 x4 x6 e115) kX6_atPlace m_373 1 4 rfl rfl hl.1 rfl ⟨Nat.le_of_ble_eq_true rfl, Nat.le_of_ble_eq_true rfl⟩ rfl (Nat.le_of_ble_eq_true rfl) dX7_runOver_115 ⟨Nat.le_of_ble_eq_true rfl, Nat.le_of_ble_eq_true rfl⟩) rfl rfl (fun H locs X => ?_)
        refine lv_l2i hx hb dX7_runOver_118 rfl ?_
        obtain ⟨q119, e119, hf⟩ := g_be hf
        refine g_calli X (g_runV (As := [.int q115.1.toInt32]) (rest := [.int x6, .int x4, .ref (ad 1)]) C X (cC__playChain l E A ad q115.2 q119.2 q119.1 q115.1.toInt32 e119) kX7_playChain m_471 0 5 rfl rfl hl.1 rfl ⟨Nat.le_of_ble_eq_true rfl, Nat.le_of_ble_eq_true rfl⟩ rfl (Nat.le_of_ble_eq_true rfl) dX7_runOver_119 ⟨Nat.le_of_ble_eq_true rfl, Nat.le_of_ble_eq_true rfl⟩) rfl rfl (fun H locs X => ?_)
        refine lv_i2l hx hb dX7_runOver_122 rfl ?_
        obtain ⟨q123, e123, hf⟩ := g_be hf
        refine g_callv X (g_runV (As := [.int x4, .int x6, .long q119.1.toInt64]) (rest := []) C X (cC_S_setPlace l E A ad q119.2 q123  x4 x6 q119.1.toInt64 e123) kX6_setPlace m_377 1 4 rfl rfl hl.1 rfl ⟨Nat.le_of_ble_eq_true rfl, Nat.le_of_ble_eq_true rfl⟩ rfl (Nat.le_of_ble_eq_true rfl) dX7_runOver_123 ⟨Nat.le_of_ble_eq_true rfl, Nat.le_of_ble_eq_true rfl⟩) rfl rfl (fun H locs X => ?_)
        refine lv_iinc (v := x6 + (1 : Int32)) (lv' := [(6, .int (x6 + (1 : Int32))), (0, .ref (ad 0)), (4, .int x4), (5, .int x5)]) hx hb dX7_runOver_126 hl (k := 3) rfl rfl (by decide) rfl (fun ls hl => ?_)
        refine lv_goto (tgt := 91) hx hb dX7_runOver_129 (by decide) ?_
        exact ih91 q123 x4 x5 (x6 + (1 : Int32)) ls H locs hf (lv_sub hl [1, 2, 3, 0] rfl) X
  unfold fC__runOver at hf
  refine lv_aload_n hx hb dX7_runOver_0 rfl (lv_at hl 0 rfl) ?_
  refine lv_iload_n hx hb dX7_runOver_1 rfl (lv_at hl 1 rfl) ?_
  refine lv_iload_n hx hb dX7_runOver_2 rfl (lv_at hl 2 rfl) ?_
  obtain ⟨q3, e3, hf⟩ := g_be hf
  refine g_calli X (g_runV (As := [.int a1, .int a2]) (rest := []) C X (cC__isEitherEmpty l E A ad w q3.2 q3.1 a1 a2 e3) kX7_isEitherEmpty m_395 0 5 rfl rfl hl.1 rfl ⟨Nat.le_of_ble_eq_true rfl, Nat.le_of_ble_eq_true rfl⟩ rfl (Nat.le_of_ble_eq_true rfl) dX7_runOver_3 ⟨Nat.le_of_ble_eq_true rfl, Nat.le_of_ble_eq_true rfl⟩) rfl rfl (fun H locs X => ?_)
  refine lv_if_eq (tgt := 11) hx hb dX7_runOver_6 (by decide) (fun c6 => ?_) (fun c6 => ?_)
  · have hf := g_t hf c6
    refine lv_aload_n hx hb dX7_runOver_11 rfl (lv_at hl 0 rfl) ?_
    refine g_get C X g_iX7 0 rfl rfl 0 (by decide) rfl m_148 rfl dX7_runOver_12 ?_
    refine lv_iload_n hx hb dX7_runOver_15 rfl (lv_at hl 1 rfl) ?_
    obtain ⟨q16, e16, hf⟩ := g_be hf
    refine g_calli X (g_runV (As := [.int a1]) (rest := []) C X (cC_S_onShelf l E A ad q3.2 q16.2 q16.1 a1 e16) kX6_onShelf m_333 1 4 rfl rfl hl.1 rfl ⟨Nat.le_of_ble_eq_true rfl, Nat.le_of_ble_eq_true rfl⟩ rfl (Nat.le_of_ble_eq_true rfl) dX7_runOver_16 ⟨Nat.le_of_ble_eq_true rfl, Nat.le_of_ble_eq_true rfl⟩) rfl rfl (fun H locs X => ?_)
    refine lv_istore_n (lv' := [(3, .int q16.1), (0, .ref (ad 0)), (1, .int a1), (2, .int a2)]) hx hb dX7_runOver_19 rfl hl (by decide) rfl (fun ls hl => ?_)
    refine lv_aload_n hx hb dX7_runOver_20 rfl (lv_at hl 1 rfl) ?_
    refine g_get C X g_iX7 0 rfl rfl 0 (by decide) rfl m_148 rfl dX7_runOver_21 ?_
    refine lv_iload_n hx hb dX7_runOver_24 rfl (lv_at hl 3 rfl) ?_
    obtain ⟨q25, e25, hf⟩ := g_be hf
    refine g_calli X (g_runV (As := [.int a2]) (rest := []) C X (cC_S_onShelf l E A ad q16.2 q25.2 q25.1 a2 e25) kX6_onShelf m_333 1 4 rfl rfl hl.1 rfl ⟨Nat.le_of_ble_eq_true rfl, Nat.le_of_ble_eq_true rfl⟩ rfl (Nat.le_of_ble_eq_true rfl) dX7_runOver_25 ⟨Nat.le_of_ble_eq_true rfl, Nat.le_of_ble_eq_true rfl⟩) rfl rfl (fun H locs X => ?_)
    refine lv_istore (lv' := [(4, .int q25.1), (3, .int q16.1), (0, .ref (ad 0)), (1, .int a1), (2, .int a2)]) hx hb dX7_runOver_28 hl (by decide) rfl (fun ls hl => ?_)
    refine lv_aload_n hx hb dX7_runOver_30 rfl (lv_at hl 2 rfl) ?_
    refine g_get C X g_iX7 0 rfl rfl 0 (by decide) rfl m_148 rfl dX7_runOver_31 ?_
    refine lv_iload_n hx hb dX7_runOver_34 rfl (lv_at hl 1 rfl) ?_
    refine lv_ldcw (v := 8519681) hx hb C.1.2.2.2.1 (C.1.2.2.2.2 _ m_451) dX7_runOver_35 ?_
    obtain ⟨q38, e38, hf⟩ := g_be hf
    refine g_calli X (g_runV (As := [.int q16.1, .int (8519681 : Int32)]) (rest := []) C X (cC_S_isIn l E A ad q25.2 q38.2 q38.1 q16.1 (8519681 : Int32) e38) kX6_isIn m_358 1 4 rfl rfl hl.1 rfl ⟨Nat.le_of_ble_eq_true rfl, Nat.le_of_ble_eq_true rfl⟩ rfl (Nat.le_of_ble_eq_true rfl) dX7_runOver_38 ⟨Nat.le_of_ble_eq_true rfl, Nat.le_of_ble_eq_true rfl⟩) rfl rfl (fun H locs X => ?_)
    refine lv_if_eq (tgt := 59) hx hb dX7_runOver_41 (by decide) (fun c41 => ?_) (fun c41 => ?_)
    · have hf := g_t hf c41
      refine lv_aload_n hx hb dX7_runOver_59 rfl (lv_at hl 2 rfl) ?_
      refine lv_iconst (v := 3) hx hb dX7_runOver_60 (by decide) ?_
      obtain ⟨q61, e61, hf⟩ := g_be hf
      refine g_calli X (g_runV (As := [.int (3 : Int32)]) (rest := []) C X (cC__refuse l E A ad q38.2 q61.2 q61.1 (3 : Int32) e61) kX7_refuse m_204 0 5 rfl rfl hl.1 rfl ⟨Nat.le_of_ble_eq_true rfl, Nat.le_of_ble_eq_true rfl⟩ rfl (Nat.le_of_ble_eq_true rfl) dX7_runOver_61 ⟨Nat.le_of_ble_eq_true rfl, Nat.le_of_ble_eq_true rfl⟩) rfl rfl (fun H locs X => ?_)
      exact g_iret (wsC E ad) C hr hk X hf dX7_runOver_64
    · have hf := g_f hf c41
      refine lv_aload_n hx hb dX7_runOver_44 rfl (lv_at hl 2 rfl) ?_
      refine g_get C X g_iX7 0 rfl rfl 0 (by decide) rfl m_148 rfl dX7_runOver_45 ?_
      refine lv_iload hx hb dX7_runOver_48 (lv_at hl 0 rfl) ?_
      refine lv_sipush (v := 8192) hx hb dX7_runOver_50 (by decide) ?_
      obtain ⟨q53, e53, hf⟩ := g_be hf
      refine g_calli X (g_runV (As := [.int q25.1, .int (8192 : Int32)]) (rest := []) C X (cC_S_isIn l E A ad q38.2 q53.2 q53.1 q25.1 (8192 : Int32) e53) kX6_isIn m_358 1 4 rfl rfl hl.1 rfl ⟨Nat.le_of_ble_eq_true rfl, Nat.le_of_ble_eq_true rfl⟩ rfl (Nat.le_of_ble_eq_true rfl) dX7_runOver_53 ⟨Nat.le_of_ble_eq_true rfl, Nat.le_of_ble_eq_true rfl⟩) rfl rfl (fun H locs X => ?_)
      refine lv_if_ne (tgt := 65) hx hb dX7_runOver_56 (by decide) (fun c56 => ?_) (fun c56 => ?_)
      · have hf := g_f hf c56
        refine lv_aload_n hx hb dX7_runOver_65 rfl (lv_at hl 2 rfl) ?_
        refine g_get C X g_iX7 0 rfl rfl 1 (by decide) rfl m_149 rfl dX7_runOver_66 ?_
        refine lv_aload_n hx hb dX7_runOver_69 rfl (lv_at hl 2 rfl) ?_
        refine g_get C X g_iX7 0 rfl rfl 0 (by decide) rfl m_148 rfl dX7_runOver_70 ?_
        refine lv_iload_n hx hb dX7_runOver_73 rfl (lv_at hl 1 rfl) ?_
        obtain ⟨q74, e74, hf⟩ := g_be hf
        refine g_callv X (g_runV (As := [.ref (ad 1), .int q16.1]) (rest := []) C X (cC_Ch_lineUp l E A ad q53.2 q74  q16.1 e74) kX0_lineUp m_452 4 0 rfl rfl hl.1 rfl ⟨Nat.le_of_ble_eq_true rfl, Nat.le_of_ble_eq_true rfl⟩ rfl (Nat.le_of_ble_eq_true rfl) dX7_runOver_74 ⟨Nat.le_of_ble_eq_true rfl, Nat.le_of_ble_eq_true rfl⟩) rfl rfl (fun H locs X => ?_)
        refine lv_aload_n hx hb dX7_runOver_77 rfl (lv_at hl 2 rfl) ?_
        refine g_get C X g_iX7 0 rfl rfl 0 (by decide) rfl m_148 rfl dX7_runOver_78 ?_
        refine lv_iload hx hb dX7_runOver_81 (lv_at hl 0 rfl) ?_
        obtain ⟨q83, e83, hf⟩ := g_be hf
        refine g_calli X (g_runV (As := [.int q25.1]) (rest := []) C X (cC_S_places l E A ad q74 q83.2 q83.1 q25.1 e83) kX6_places m_516 1 4 rfl rfl hl.1 rfl ⟨Nat.le_of_ble_eq_true rfl, Nat.le_of_ble_eq_true rfl⟩ rfl (Nat.le_of_ble_eq_true rfl) dX7_runOver_83 ⟨Nat.le_of_ble_eq_true rfl, Nat.le_of_ble_eq_true rfl⟩) rfl rfl (fun H locs X => ?_)
        refine lv_istore (lv' := [(5, .int q83.1), (4, .int q25.1), (3, .int q16.1), (0, .ref (ad 0)), (1, .int a1), (2, .int a2)]) hx hb dX7_runOver_86 hl (by decide) rfl (fun ls hl => ?_)
        refine lv_iconst (v := 0) hx hb dX7_runOver_88 (by decide) ?_
        refine lv_istore (lv' := [(6, .int (0 : Int32)), (5, .int q83.1), (4, .int q25.1), (3, .int q16.1), (0, .ref (ad 0)), (1, .int a1), (2, .int a2)]) hx hb dX7_runOver_89 hl (by decide) rfl (fun ls hl => ?_)
        exact j91 g_fuel q83.2 q25.1 q83.1 (0 : Int32) ls H locs hf (lv_sub hl [4, 2, 1, 0] rfl) X
      · have hf := g_t hf c56
        refine lv_aload_n hx hb dX7_runOver_59 rfl (lv_at hl 2 rfl) ?_
        refine lv_iconst (v := 3) hx hb dX7_runOver_60 (by decide) ?_
        obtain ⟨q61, e61, hf⟩ := g_be hf
        refine g_calli X (g_runV (As := [.int (3 : Int32)]) (rest := []) C X (cC__refuse l E A ad q53.2 q61.2 q61.1 (3 : Int32) e61) kX7_refuse m_204 0 5 rfl rfl hl.1 rfl ⟨Nat.le_of_ble_eq_true rfl, Nat.le_of_ble_eq_true rfl⟩ rfl (Nat.le_of_ble_eq_true rfl) dX7_runOver_61 ⟨Nat.le_of_ble_eq_true rfl, Nat.le_of_ble_eq_true rfl⟩) rfl rfl (fun H locs X => ?_)
        exact g_iret (wsC E ad) C hr hk X hf dX7_runOver_64
  · have hf := g_f hf c6
    refine lv_iconst (v := 0) hx hb dX7_runOver_9 (by decide) ?_
    exact g_iret (wsC E ad) C hr hk X hf dX7_runOver_10
set_option maxRecDepth 100000 in
set_option maxHeartbeats 4000000 in
theorem cC__tickOn (l : Launch) (E : g_Env) (A : Nat → Prop) (ad : Nat → Nat) (w : CS) (w' : CS) (r : Int32) (a1 : Int32) (a2 : Int32) (hf : fC__tickOn w a1 a2 = some (r, w')) : g_Mi l yX7_tickOn cX7_tickOn 6 ((some .int)) ({ frames := 4, cells := 0, slots := 0, locals := 91 }) E A [.ref (ad 0), .int a1, .int a2] (wsC E ad w) r (wsC E ad w') := by
  refine g_start (by decide) (Nat.le_of_ble_eq_true rfl) ?_
  intro p e s m below meth c C hr hk hnm ls hl H locs X
  have hx := C.1.1
  have hb := C.1.2.1
  have hl : lv_has ls 6 [(0, .ref (ad 0)), (1, .int a1), (2, .int a2)] := hl
  have j68 : ∀ (n : Nat) (w : CS) (x2 : Int32) (x3 : Int32) (x4 : Int32) (x5 : Int32) (ls : Array Slot) (H : Heap) (locs : List Loc), fC__tickOn_68 n w x2 x3 x4 x5 = some (r, w') → lv_has ls 6 [(0, .ref (ad 0)), (2, .int x2), (3, .int x3), (4, .int x4), (5, .int x5)] → g_W E A s H locs (wsC E ad w) → W p l e ({ frames := 4, cells := 0, slots := 0, locals := 91 }) s m ([.ref (ad 0), .int a1, .int a2] : List Value).toArray below meth c H locs 0 0 (MQ below (va_Qi (fun (r' : Int32) (u' : va_W) => r' = r ∧ u' = wsC E ad w') (g_B E A) A) ([.ref (ad 0), .int a1, .int a2] : List Value).toArray s 0 0 A) (F0 m 68 ls []) := by
    intro n
    induction n with
    | zero => intro w x2 x3 x4 x5 ls H locs hf; exact absurd hf (by simp [fC__tickOn_68])
    | succ n68 ih68 =>
      intro w x2 x3 x4 x5 ls H locs hf hl X
      unfold fC__tickOn_68 at hf
      refine lv_iload hx hb dX7_tickOn_68 (lv_at hl 4 rfl) ?_
      refine lv_aload_n hx hb dX7_tickOn_70 rfl (lv_at hl 0 rfl) ?_
      refine g_get C X g_iX7 0 rfl rfl 0 (by decide) rfl m_148 rfl dX7_tickOn_71 ?_
      refine lv_iload_n hx hb dX7_tickOn_74 rfl (lv_at hl 2 rfl) ?_
      obtain ⟨q75, e75, hf⟩ := g_be hf
      refine g_calli X (g_runV (As := [.int x3]) (rest := [.int x5]) C X (cC_S_places l E A ad w q75.2 q75.1 x3 e75) kX6_places m_516 1 4 rfl rfl hl.1 rfl ⟨Nat.le_of_ble_eq_true rfl, Nat.le_of_ble_eq_true rfl⟩ rfl (Nat.le_of_ble_eq_true rfl) dX7_tickOn_75 ⟨Nat.le_of_ble_eq_true rfl, Nat.le_of_ble_eq_true rfl⟩) rfl rfl (fun H locs X => ?_)
      refine lv_icmp_ge (tgt := 111) hx hb dX7_tickOn_78 (by decide) (fun c78 => ?_) (fun c78 => ?_)
      · have hf := g_t hf c78
        refine lv_iload hx hb dX7_tickOn_111 (lv_at hl 3 rfl) ?_
        exact g_iret (wsC E ad) C hr hk X hf dX7_tickOn_113
      · have hf := g_f hf c78
        refine lv_iload hx hb dX7_tickOn_81 (lv_at hl 3 rfl) ?_
        refine lv_aload_n hx hb dX7_tickOn_83 rfl (lv_at hl 0 rfl) ?_
        refine g_get C X g_iX7 0 rfl rfl 0 (by decide) rfl m_148 rfl dX7_tickOn_84 ?_
        refine lv_aload_n hx hb dX7_tickOn_87 rfl (lv_at hl 0 rfl) ?_
        refine g_get C X g_iX7 0 rfl rfl 0 (by decide) rfl m_148 rfl dX7_tickOn_88 ?_
        refine lv_iload_n hx hb dX7_tickOn_91 rfl (lv_at hl 2 rfl) ?_
        refine lv_iload hx hb dX7_tickOn_92 (lv_at hl 4 rfl) ?_
        obtain ⟨q94, e94, hf⟩ := g_be hf
        refine g_calll X (g_runV (As := [.int x3, .int x5]) (rest := [.ref (ad 1), .int x4]) C X (cC_S_atPlace l E A ad q75.2 q94.2 q94.1 x3 x5 e94) kX6_atPlace m_373 1 4 rfl rfl hl.1 rfl ⟨Nat.le_of_ble_eq_true rfl, Nat.le_of_ble_eq_true rfl⟩ rfl (Nat.le_of_ble_eq_true rfl) dX7_tickOn_94 ⟨Nat.le_of_ble_eq_true rfl, Nat.le_of_ble_eq_true rfl⟩) rfl rfl (fun H locs X => ?_)
        refine lv_l2i hx hb dX7_tickOn_97 rfl ?_
        refine lv_iload_n hx hb dX7_tickOn_98 rfl (lv_at hl 1 rfl) ?_
        obtain ⟨q99, e99, hf⟩ := g_be hf
        refine g_calli X (g_runS (As := [.ref (ad 1), .int q94.1.toInt32, .int x2]) (rest := [.int x4]) C X (cC_Ru_ticksBy l E A ad q94.2 q99.2 q99.1 q94.1.toInt32 x2 e99) kX4_ticksBy m_526 hl.1 rfl ⟨Nat.le_of_ble_eq_true rfl, Nat.le_of_ble_eq_true rfl⟩ rfl (Nat.le_of_ble_eq_true rfl) dX7_tickOn_99 ⟨Nat.le_of_ble_eq_true rfl, Nat.le_of_ble_eq_true rfl⟩) rfl rfl (fun H locs X => ?_)
        refine lv_iadd hx hb dX7_tickOn_102 ?_
        refine lv_istore (lv' := [(4, .int (x4 + q99.1)), (0, .ref (ad 0)), (2, .int x2), (3, .int x3), (5, .int x5)]) hx hb dX7_tickOn_103 hl (by decide) rfl (fun ls hl => ?_)
        refine lv_iinc (v := x5 + (1 : Int32)) (lv' := [(5, .int (x5 + (1 : Int32))), (4, .int (x4 + q99.1)), (0, .ref (ad 0)), (2, .int x2), (3, .int x3)]) hx hb dX7_tickOn_105 hl (k := 4) rfl rfl (by decide) rfl (fun ls hl => ?_)
        refine lv_goto (tgt := 68) hx hb dX7_tickOn_108 (by decide) ?_
        exact ih68 q99.2 x2 x3 (x4 + q99.1) (x5 + (1 : Int32)) ls H locs hf (lv_sub hl [2, 3, 4, 1, 0] rfl) X
  unfold fC__tickOn at hf
  refine lv_iload_n hx hb dX7_tickOn_0 rfl (lv_at hl 2 rfl) ?_
  refine lv_if_lt (tgt := 10) hx hb dX7_tickOn_1 (by decide) (fun c1 => ?_) (fun c1 => ?_)
  · have hf := g_t hf c1
    refine lv_aload_n hx hb dX7_tickOn_10 rfl (lv_at hl 0 rfl) ?_
    refine lv_iconst (v := 1) hx hb dX7_tickOn_11 (by decide) ?_
    obtain ⟨q12, e12, hf⟩ := g_be hf
    refine g_calli X (g_runV (As := [.int (1 : Int32)]) (rest := []) C X (cC__refuse l E A ad w q12.2 q12.1 (1 : Int32) e12) kX7_refuse m_204 0 5 rfl rfl hl.1 rfl ⟨Nat.le_of_ble_eq_true rfl, Nat.le_of_ble_eq_true rfl⟩ rfl (Nat.le_of_ble_eq_true rfl) dX7_tickOn_12 ⟨Nat.le_of_ble_eq_true rfl, Nat.le_of_ble_eq_true rfl⟩) rfl rfl (fun H locs X => ?_)
    exact g_iret (wsC E ad) C hr hk X hf dX7_tickOn_15
  · have hf := g_f hf c1
    refine lv_iload_n hx hb dX7_tickOn_4 rfl (lv_at hl 2 rfl) ?_
    refine lv_bipush (v := 8) hx hb dX7_tickOn_5 (by decide) ?_
    refine lv_icmp_le (tgt := 16) hx hb dX7_tickOn_7 (by decide) (fun c7 => ?_) (fun c7 => ?_)
    · have hf := g_t hf c7
      refine lv_aload_n hx hb dX7_tickOn_16 rfl (lv_at hl 0 rfl) ?_
      refine lv_iload_n hx hb dX7_tickOn_17 rfl (lv_at hl 1 rfl) ?_
      refine lv_ldcw (v := 2101248) hx hb C.1.2.2.2.1 (C.1.2.2.2.2 _ m_525) dX7_tickOn_18 ?_
      obtain ⟨q21, e21, hf⟩ := g_be hf
      refine g_calli X (g_runV (As := [.int a1, .int (2101248 : Int32)]) (rest := []) C X (cC__holdsNone l E A ad w q21.2 q21.1 a1 (2101248 : Int32) e21) kX7_holdsNone m_354 0 5 rfl rfl hl.1 rfl ⟨Nat.le_of_ble_eq_true rfl, Nat.le_of_ble_eq_true rfl⟩ rfl (Nat.le_of_ble_eq_true rfl) dX7_tickOn_21 ⟨Nat.le_of_ble_eq_true rfl, Nat.le_of_ble_eq_true rfl⟩) rfl rfl (fun H locs X => ?_)
      refine lv_if_eq (tgt := 29) hx hb dX7_tickOn_24 (by decide) (fun c24 => ?_) (fun c24 => ?_)
      · have hf := g_t hf c24
        refine lv_aload_n hx hb dX7_tickOn_29 rfl (lv_at hl 0 rfl) ?_
        refine g_get C X g_iX7 0 rfl rfl 0 (by decide) rfl m_148 rfl dX7_tickOn_30 ?_
        refine lv_iload_n hx hb dX7_tickOn_33 rfl (lv_at hl 1 rfl) ?_
        obtain ⟨q34, e34, hf⟩ := g_be hf
        refine g_calli X (g_runV (As := [.int a1]) (rest := []) C X (cC_S_onShelf l E A ad q21.2 q34.2 q34.1 a1 e34) kX6_onShelf m_333 1 4 rfl rfl hl.1 rfl ⟨Nat.le_of_ble_eq_true rfl, Nat.le_of_ble_eq_true rfl⟩ rfl (Nat.le_of_ble_eq_true rfl) dX7_tickOn_34 ⟨Nat.le_of_ble_eq_true rfl, Nat.le_of_ble_eq_true rfl⟩) rfl rfl (fun H locs X => ?_)
        refine lv_istore_n (lv' := [(3, .int q34.1), (0, .ref (ad 0)), (1, .int a1), (2, .int a2)]) hx hb dX7_tickOn_37 rfl hl (by decide) rfl (fun ls hl => ?_)
        refine lv_aload_n hx hb dX7_tickOn_38 rfl (lv_at hl 1 rfl) ?_
        refine g_get C X g_iX7 0 rfl rfl 0 (by decide) rfl m_148 rfl dX7_tickOn_39 ?_
        refine lv_iload_n hx hb dX7_tickOn_42 rfl (lv_at hl 0 rfl) ?_
        refine lv_sipush (v := 4096) hx hb dX7_tickOn_43 (by decide) ?_
        obtain ⟨q46, e46, hf⟩ := g_be hf
        refine g_calli X (g_runV (As := [.int q34.1, .int (4096 : Int32)]) (rest := []) C X (cC_S_isIn l E A ad q34.2 q46.2 q46.1 q34.1 (4096 : Int32) e46) kX6_isIn m_358 1 4 rfl rfl hl.1 rfl ⟨Nat.le_of_ble_eq_true rfl, Nat.le_of_ble_eq_true rfl⟩ rfl (Nat.le_of_ble_eq_true rfl) dX7_tickOn_46 ⟨Nat.le_of_ble_eq_true rfl, Nat.le_of_ble_eq_true rfl⟩) rfl rfl (fun H locs X => ?_)
        refine lv_if_eq (tgt := 62) hx hb dX7_tickOn_49 (by decide) (fun c49 => ?_) (fun c49 => ?_)
        · have hf := g_t hf c49
          refine lv_iconst (v := 0) hx hb dX7_tickOn_62 (by decide) ?_
          refine lv_istore (lv' := [(4, .int (0 : Int32)), (3, .int q34.1), (0, .ref (ad 0)), (1, .int a1), (2, .int a2)]) hx hb dX7_tickOn_63 hl (by decide) rfl (fun ls hl => ?_)
          refine lv_iconst (v := 0) hx hb dX7_tickOn_65 (by decide) ?_
          refine lv_istore (lv' := [(5, .int (0 : Int32)), (4, .int (0 : Int32)), (3, .int q34.1), (0, .ref (ad 0)), (1, .int a1), (2, .int a2)]) hx hb dX7_tickOn_66 hl (by decide) rfl (fun ls hl => ?_)
          exact j68 g_fuel q46.2 a2 q34.1 (0 : Int32) (0 : Int32) ls H locs hf (lv_sub hl [3, 5, 2, 1, 0] rfl) X
        · have hf := g_f hf c49
          refine lv_aload_n hx hb dX7_tickOn_52 rfl (lv_at hl 1 rfl) ?_
          refine g_get C X g_iX7 0 rfl rfl 0 (by decide) rfl m_148 rfl dX7_tickOn_53 ?_
          refine lv_iload_n hx hb dX7_tickOn_56 rfl (lv_at hl 0 rfl) ?_
          refine lv_iload_n hx hb dX7_tickOn_57 rfl (lv_at hl 3 rfl) ?_
          obtain ⟨q58, e58, hf⟩ := g_be hf
          refine g_calli X (g_runS (As := [.ref (ad 1), .int q34.1, .int a2]) (rest := []) C X (cC_Ru_ticksBy l E A ad q46.2 q58.2 q58.1 q34.1 a2 e58) kX4_ticksBy m_526 hl.1 rfl ⟨Nat.le_of_ble_eq_true rfl, Nat.le_of_ble_eq_true rfl⟩ rfl (Nat.le_of_ble_eq_true rfl) dX7_tickOn_58 ⟨Nat.le_of_ble_eq_true rfl, Nat.le_of_ble_eq_true rfl⟩) rfl rfl (fun H locs X => ?_)
          exact g_iret (wsC E ad) C hr hk X hf dX7_tickOn_61
      · have hf := g_f hf c24
        refine lv_iconst (v := 0) hx hb dX7_tickOn_27 (by decide) ?_
        exact g_iret (wsC E ad) C hr hk X hf dX7_tickOn_28
    · have hf := g_f hf c7
      refine lv_aload_n hx hb dX7_tickOn_10 rfl (lv_at hl 0 rfl) ?_
      refine lv_iconst (v := 1) hx hb dX7_tickOn_11 (by decide) ?_
      obtain ⟨q12, e12, hf⟩ := g_be hf
      refine g_calli X (g_runV (As := [.int (1 : Int32)]) (rest := []) C X (cC__refuse l E A ad w q12.2 q12.1 (1 : Int32) e12) kX7_refuse m_204 0 5 rfl rfl hl.1 rfl ⟨Nat.le_of_ble_eq_true rfl, Nat.le_of_ble_eq_true rfl⟩ rfl (Nat.le_of_ble_eq_true rfl) dX7_tickOn_12 ⟨Nat.le_of_ble_eq_true rfl, Nat.le_of_ble_eq_true rfl⟩) rfl rfl (fun H locs X => ?_)
      exact g_iret (wsC E ad) C hr hk X hf dX7_tickOn_15
set_option maxRecDepth 100000 in
set_option maxHeartbeats 4000000 in
theorem cC__restAll (l : Launch) (E : g_Env) (A : Nat → Prop) (ad : Nat → Nat) (w : CS) (w' : CS) (r : Int32) (a1 : Int32) (hf : fC__restAll w a1 = some (r, w')) : g_Mi l yX7_restAll cX7_restAll 3 ((some .int)) ({ frames := 4, cells := 0, slots := 0, locals := 91 }) E A [.ref (ad 0), .int a1] (wsC E ad w) r (wsC E ad w') := by
  refine g_start (by decide) (Nat.le_of_ble_eq_true rfl) ?_
  intro p e s m below meth c C hr hk hnm ls hl H locs X
  have hx := C.1.1
  have hb := C.1.2.1
  have hl : lv_has ls 3 [(0, .ref (ad 0)), (1, .int a1)] := hl
  have j34 : ∀ (n : Nat) (w : CS) (x2 : Int32) (ls : Array Slot) (H : Heap) (locs : List Loc), fC__restAll_34 n w x2 = some (r, w') → lv_has ls 3 [(0, .ref (ad 0)), (2, .int x2)] → g_W E A s H locs (wsC E ad w) → W p l e ({ frames := 4, cells := 0, slots := 0, locals := 91 }) s m ([.ref (ad 0), .int a1] : List Value).toArray below meth c H locs 0 0 (MQ below (va_Qi (fun (r' : Int32) (u' : va_W) => r' = r ∧ u' = wsC E ad w') (g_B E A) A) ([.ref (ad 0), .int a1] : List Value).toArray s 0 0 A) (F0 m 34 ls []) := by
    intro n
    induction n with
    | zero => intro w x2 ls H locs hf; exact absurd hf (by simp [fC__restAll_34])
    | succ n34 ih34 =>
      intro w x2 ls H locs hf hl X
      unfold fC__restAll_34 at hf
      refine lv_iload_n hx hb dX7_restAll_34 rfl (lv_at hl 1 rfl) ?_
      refine lv_aload_n hx hb dX7_restAll_35 rfl (lv_at hl 0 rfl) ?_
      refine g_get C X g_iX7 0 rfl rfl 1 (by decide) rfl m_149 rfl dX7_restAll_36 ?_
      refine g_getN C X g_iX0 4 rfl rfl 1 (by decide) rfl n_2 rfl dX7_restAll_39 ?_
      refine lv_icmp_ge (tgt := 66) hx hb dX7_restAll_42 (by decide) (fun c42 => ?_) (fun c42 => ?_)
      · have hf := g_t hf c42
        refine lv_aload_n hx hb dX7_restAll_66 rfl (lv_at hl 0 rfl) ?_
        refine g_get C X g_iX7 0 rfl rfl 1 (by decide) rfl m_149 rfl dX7_restAll_67 ?_
        refine g_getN C X g_iX0 4 rfl rfl 1 (by decide) rfl n_2 rfl dX7_restAll_70 ?_
        exact g_iret (wsC E ad) C hr hk X hf dX7_restAll_73
      · have hf := g_f hf c42
        refine lv_aload_n hx hb dX7_restAll_45 rfl (lv_at hl 0 rfl) ?_
        refine g_get C X g_iX7 0 rfl rfl 0 (by decide) rfl m_148 rfl dX7_restAll_46 ?_
        refine lv_aload_n hx hb dX7_restAll_49 rfl (lv_at hl 0 rfl) ?_
        refine g_get C X g_iX7 0 rfl rfl 1 (by decide) rfl m_149 rfl dX7_restAll_50 ?_
        refine lv_iload_n hx hb dX7_restAll_53 rfl (lv_at hl 1 rfl) ?_
        obtain ⟨q54, e54, hf⟩ := g_be hf
        refine g_calli X (g_runV (As := [.int x2]) (rest := [.ref (ad 1)]) C X (cC_Ch_partAt l E A ad w q54.2 q54.1 x2 e54) kX0_partAt m_475 4 0 rfl rfl hl.1 rfl ⟨Nat.le_of_ble_eq_true rfl, Nat.le_of_ble_eq_true rfl⟩ rfl (Nat.le_of_ble_eq_true rfl) dX7_restAll_54 ⟨Nat.le_of_ble_eq_true rfl, Nat.le_of_ble_eq_true rfl⟩) rfl rfl (fun H locs X => ?_)
        obtain ⟨q57, e57, hf⟩ := g_be hf
        refine g_callv X (g_runS (As := [.ref (ad 1), .int q54.1]) (rest := []) C X (cC_Ru_putToRest l E A ad q54.2 q57  q54.1 e57) kX4_putToRest m_541 hl.1 rfl ⟨Nat.le_of_ble_eq_true rfl, Nat.le_of_ble_eq_true rfl⟩ rfl (Nat.le_of_ble_eq_true rfl) dX7_restAll_57 ⟨Nat.le_of_ble_eq_true rfl, Nat.le_of_ble_eq_true rfl⟩) rfl rfl (fun H locs X => ?_)
        refine lv_iinc (v := x2 + (1 : Int32)) (lv' := [(2, .int (x2 + (1 : Int32))), (0, .ref (ad 0))]) hx hb dX7_restAll_60 hl (k := 1) rfl rfl (by decide) rfl (fun ls hl => ?_)
        refine lv_goto (tgt := 34) hx hb dX7_restAll_63 (by decide) ?_
        exact ih34 q57 (x2 + (1 : Int32)) ls H locs hf (lv_sub hl [1, 0] rfl) X
  unfold fC__restAll at hf
  refine lv_aload_n hx hb dX7_restAll_0 rfl (lv_at hl 0 rfl) ?_
  refine lv_iload_n hx hb dX7_restAll_1 rfl (lv_at hl 1 rfl) ?_
  refine lv_ldcw (v := 8519681) hx hb C.1.2.2.2.1 (C.1.2.2.2.2 _ m_451) dX7_restAll_2 ?_
  obtain ⟨q5, e5, hf⟩ := g_be hf
  refine g_calli X (g_runV (As := [.int a1, .int (8519681 : Int32)]) (rest := []) C X (cC__holdsNone l E A ad w q5.2 q5.1 a1 (8519681 : Int32) e5) kX7_holdsNone m_354 0 5 rfl rfl hl.1 rfl ⟨Nat.le_of_ble_eq_true rfl, Nat.le_of_ble_eq_true rfl⟩ rfl (Nat.le_of_ble_eq_true rfl) dX7_restAll_5 ⟨Nat.le_of_ble_eq_true rfl, Nat.le_of_ble_eq_true rfl⟩) rfl rfl (fun H locs X => ?_)
  refine lv_if_eq (tgt := 13) hx hb dX7_restAll_8 (by decide) (fun c8 => ?_) (fun c8 => ?_)
  · have hf := g_t hf c8
    refine lv_aload_n hx hb dX7_restAll_13 rfl (lv_at hl 0 rfl) ?_
    refine g_get C X g_iX7 0 rfl rfl 1 (by decide) rfl m_149 rfl dX7_restAll_14 ?_
    refine lv_aload_n hx hb dX7_restAll_17 rfl (lv_at hl 0 rfl) ?_
    refine g_get C X g_iX7 0 rfl rfl 0 (by decide) rfl m_148 rfl dX7_restAll_18 ?_
    refine lv_aload_n hx hb dX7_restAll_21 rfl (lv_at hl 0 rfl) ?_
    refine g_get C X g_iX7 0 rfl rfl 0 (by decide) rfl m_148 rfl dX7_restAll_22 ?_
    refine lv_iload_n hx hb dX7_restAll_25 rfl (lv_at hl 1 rfl) ?_
    obtain ⟨q26, e26, hf⟩ := g_be hf
    refine g_calli X (g_runV (As := [.int a1]) (rest := [.ref (ad 1), .ref (ad 4)]) C X (cC_S_onShelf l E A ad q5.2 q26.2 q26.1 a1 e26) kX6_onShelf m_333 1 4 rfl rfl hl.1 rfl ⟨Nat.le_of_ble_eq_true rfl, Nat.le_of_ble_eq_true rfl⟩ rfl (Nat.le_of_ble_eq_true rfl) dX7_restAll_26 ⟨Nat.le_of_ble_eq_true rfl, Nat.le_of_ble_eq_true rfl⟩) rfl rfl (fun H locs X => ?_)
    obtain ⟨q29, e29, hf⟩ := g_be hf
    refine g_callv X (g_runV (As := [.ref (ad 1), .int q26.1]) (rest := []) C X (cC_Ch_lineUp l E A ad q26.2 q29  q26.1 e29) kX0_lineUp m_452 4 0 rfl rfl hl.1 rfl ⟨Nat.le_of_ble_eq_true rfl, Nat.le_of_ble_eq_true rfl⟩ rfl (Nat.le_of_ble_eq_true rfl) dX7_restAll_29 ⟨Nat.le_of_ble_eq_true rfl, Nat.le_of_ble_eq_true rfl⟩) rfl rfl (fun H locs X => ?_)
    refine lv_iconst (v := 0) hx hb dX7_restAll_32 (by decide) ?_
    refine lv_istore_n (lv' := [(2, .int (0 : Int32)), (0, .ref (ad 0)), (1, .int a1)]) hx hb dX7_restAll_33 rfl hl (by decide) rfl (fun ls hl => ?_)
    exact j34 g_fuel q29 (0 : Int32) ls H locs hf (lv_sub hl [1, 0] rfl) X
  · have hf := g_f hf c8
    refine lv_iconst (v := 0) hx hb dX7_restAll_11 (by decide) ?_
    exact g_iret (wsC E ad) C hr hk X hf dX7_restAll_12
set_option maxRecDepth 100000 in
set_option maxHeartbeats 4000000 in
theorem cC__end (l : Launch) (E : g_Env) (A : Nat → Prop) (ad : Nat → Nat) (w : CS) (w' : CS) (r : Int32)  (hf : fC__end w  = some (r, w')) : g_Mi l yX7_end cX7_end 1 ((some .int)) ({ frames := 1, cells := 0, slots := 0, locals := 21 }) E A [.ref (ad 0)] (wsC E ad w) r (wsC E ad w') := by
  refine g_start (by decide) (Nat.le_of_ble_eq_true rfl) ?_
  intro p e s m below meth c C hr hk hnm ls hl H locs X
  have hx := C.1.1
  have hb := C.1.2.1
  have hl : lv_has ls 1 [(0, .ref (ad 0))] := hl
  unfold fC__end at hf
  refine lv_aload_n hx hb dX7_end_0 rfl (lv_at hl 0 rfl) ?_
  refine g_get C X g_iX7 0 rfl rfl 2 (by decide) rfl m_150 rfl dX7_end_1 ?_
  refine g_getN C X g_iX5 6 rfl rfl 2 (by decide) rfl n_5 rfl dX7_end_4 ?_
  refine lv_if_ne (tgt := 17) hx hb dX7_end_7 (by decide) (fun c7 => ?_) (fun c7 => ?_)
  · have hf := g_f hf c7
    refine lv_aload_n hx hb dX7_end_17 rfl (lv_at hl 0 rfl) ?_
    refine lv_iconst (v := 0) hx hb dX7_end_18 (by decide) ?_
    obtain ⟨w19, e19, hf⟩ := g_le hf
    refine g_put C X g_iX7 tyX7_ok nmX7 0 rfl rfl 3 (by decide) rfl m_151 rfl rfl rfl (Nat.le_of_ble_eq_true rfl) dX7_end_19 (ws2 := wsC E ad w19) (by subst e19; rfl) (fun H locs X => ?_)
    refine lv_aload_n hx hb dX7_end_22 rfl (lv_at hl 0 rfl) ?_
    refine g_get C X g_iX7 0 rfl rfl 2 (by decide) rfl m_150 rfl dX7_end_23 ?_
    refine lv_iconst (v := 0) hx hb dX7_end_26 (by decide) ?_
    obtain ⟨w27, e27, hf⟩ := g_le hf
    refine g_putN C X g_iX5 tyX5_ok nmX5 6 rfl rfl 2 (by decide) rfl n_5 rfl rfl rfl (Nat.le_of_ble_eq_true rfl) dX7_end_27 (ws2 := wsC E ad w27) (by subst e27; rfl) (fun H locs X => ?_)
    refine lv_aload_n hx hb dX7_end_30 rfl (lv_at hl 0 rfl) ?_
    refine g_get C X g_iX7 0 rfl rfl 2 (by decide) rfl m_150 rfl dX7_end_31 ?_
    refine g_getN C X g_iX5 6 rfl rfl 1 (by decide) rfl n_4 rfl dX7_end_34 ?_
    exact g_iret (wsC E ad) C hr hk X hf dX7_end_37
  · have hf := g_t hf c7
    refine lv_aload_n hx hb dX7_end_10 rfl (lv_at hl 0 rfl) ?_
    refine lv_bipush (v := 7) hx hb dX7_end_11 (by decide) ?_
    obtain ⟨q13, e13, hf⟩ := g_be hf
    refine g_calli X (g_runV (As := [.int (7 : Int32)]) (rest := []) C X (cC__refuse l E A ad w q13.2 q13.1 (7 : Int32) e13) kX7_refuse m_204 0 5 rfl rfl hl.1 rfl ⟨Nat.le_of_ble_eq_true rfl, Nat.le_of_ble_eq_true rfl⟩ rfl (Nat.le_of_ble_eq_true rfl) dX7_end_13 ⟨Nat.le_of_ble_eq_true rfl, Nat.le_of_ble_eq_true rfl⟩) rfl rfl (fun H locs X => ?_)
    exact g_iret (wsC E ad) C hr hk X hf dX7_end_16
set_option maxRecDepth 100000 in
set_option maxHeartbeats 4000000 in
theorem cC__read (l : Launch) (E : g_Env) (A : Nat → Prop) (ad : Nat → Nat) (w : CS) (w' : CS) (r : Int64) (a1 : Int32) (a2 : Int32) (hf : fC__read w a1 a2 = some (r, w')) : g_Ml l yX7_read cX7_read 3 ({ frames := 4, cells := 0, slots := 0, locals := 90 }) E A [.ref (ad 0), .int a1, .int a2] (wsC E ad w) r (wsC E ad w') := by
  refine g_start (by decide) (Nat.le_of_ble_eq_true rfl) ?_
  intro p e s m below meth c C hr hk hnm ls hl H locs X
  have hx := C.1.1
  have hb := C.1.2.1
  have hl : lv_has ls 3 [(0, .ref (ad 0)), (1, .int a1), (2, .int a2)] := hl
  unfold fC__read at hf
  refine lv_aload_n hx hb dX7_read_0 rfl (lv_at hl 0 rfl) ?_
  refine lv_iload_n hx hb dX7_read_1 rfl (lv_at hl 1 rfl) ?_
  refine lv_ldc (v := 57344) hx hb C.1.2.2.2.1 (C.1.2.2.2.2 _ m_430) dX7_read_2 ?_
  refine lv_iload_n hx hb dX7_read_4 rfl (lv_at hl 2 rfl) ?_
  obtain ⟨q5, e5, hf⟩ := g_be hf
  refine g_calli X (g_runV (As := [.int a1, .int (57344 : Int32), .int a2]) (rest := []) C X (cC__hasNoPlace l E A ad w q5.2 q5.1 a1 (57344 : Int32) a2 e5) kX7_hasNoPlace m_350 0 5 rfl rfl hl.1 rfl ⟨Nat.le_of_ble_eq_true rfl, Nat.le_of_ble_eq_true rfl⟩ rfl (Nat.le_of_ble_eq_true rfl) dX7_read_5 ⟨Nat.le_of_ble_eq_true rfl, Nat.le_of_ble_eq_true rfl⟩) rfl rfl (fun H locs X => ?_)
  refine lv_if_eq (tgt := 15) hx hb dX7_read_8 (by decide) (fun c8 => ?_) (fun c8 => ?_)
  · have hf := g_t hf c8
    refine lv_aload_n hx hb dX7_read_15 rfl (lv_at hl 0 rfl) ?_
    refine g_get C X g_iX7 0 rfl rfl 0 (by decide) rfl m_148 rfl dX7_read_16 ?_
    refine lv_aload_n hx hb dX7_read_19 rfl (lv_at hl 0 rfl) ?_
    refine g_get C X g_iX7 0 rfl rfl 0 (by decide) rfl m_148 rfl dX7_read_20 ?_
    refine lv_iload_n hx hb dX7_read_23 rfl (lv_at hl 1 rfl) ?_
    obtain ⟨q24, e24, hf⟩ := g_be hf
    refine g_calli X (g_runV (As := [.int a1]) (rest := [.ref (ad 1)]) C X (cC_S_onShelf l E A ad q5.2 q24.2 q24.1 a1 e24) kX6_onShelf m_333 1 4 rfl rfl hl.1 rfl ⟨Nat.le_of_ble_eq_true rfl, Nat.le_of_ble_eq_true rfl⟩ rfl (Nat.le_of_ble_eq_true rfl) dX7_read_24 ⟨Nat.le_of_ble_eq_true rfl, Nat.le_of_ble_eq_true rfl⟩) rfl rfl (fun H locs X => ?_)
    refine lv_iload_n hx hb dX7_read_27 rfl (lv_at hl 2 rfl) ?_
    obtain ⟨q28, e28, hf⟩ := g_be hf
    refine g_calll X (g_runV (As := [.int q24.1, .int a2]) (rest := []) C X (cC_S_atPlace l E A ad q24.2 q28.2 q28.1 q24.1 a2 e28) kX6_atPlace m_373 1 4 rfl rfl hl.1 rfl ⟨Nat.le_of_ble_eq_true rfl, Nat.le_of_ble_eq_true rfl⟩ rfl (Nat.le_of_ble_eq_true rfl) dX7_read_28 ⟨Nat.le_of_ble_eq_true rfl, Nat.le_of_ble_eq_true rfl⟩) rfl rfl (fun H locs X => ?_)
    exact g_lret (wsC E ad) C hr hk X hf dX7_read_31
  · have hf := g_f hf c8
    refine lv_lconst (v := 0) hx hb dX7_read_11 (by decide) ?_
    refine lv_goto (tgt := 31) hx hb dX7_read_12 (by decide) ?_
    exact g_lret (wsC E ad) C hr hk X hf dX7_read_31
set_option maxRecDepth 100000 in
set_option maxHeartbeats 4000000 in
theorem cC__size (l : Launch) (E : g_Env) (A : Nat → Prop) (ad : Nat → Nat) (w : CS) (w' : CS) (r : Int32) (a1 : Int32) (hf : fC__size w a1 = some (r, w')) : g_Mi l yX7_size cX7_size 2 ((some .int)) ({ frames := 3, cells := 0, slots := 0, locals := 67 }) E A [.ref (ad 0), .int a1] (wsC E ad w) r (wsC E ad w') := by
  refine g_start (by decide) (Nat.le_of_ble_eq_true rfl) ?_
  intro p e s m below meth c C hr hk hnm ls hl H locs X
  have hx := C.1.1
  have hb := C.1.2.1
  have hl : lv_has ls 2 [(0, .ref (ad 0)), (1, .int a1)] := hl
  unfold fC__size at hf
  refine lv_aload_n hx hb dX7_size_0 rfl (lv_at hl 0 rfl) ?_
  refine lv_iload_n hx hb dX7_size_1 rfl (lv_at hl 1 rfl) ?_
  refine lv_ldc (v := 10739712) hx hb C.1.2.2.2.1 (C.1.2.2.2.2 _ m_600) dX7_size_2 ?_
  obtain ⟨q4, e4, hf⟩ := g_be hf
  refine g_calli X (g_runV (As := [.int a1, .int (10739712 : Int32)]) (rest := []) C X (cC__holdsNone l E A ad w q4.2 q4.1 a1 (10739712 : Int32) e4) kX7_holdsNone m_354 0 5 rfl rfl hl.1 rfl ⟨Nat.le_of_ble_eq_true rfl, Nat.le_of_ble_eq_true rfl⟩ rfl (Nat.le_of_ble_eq_true rfl) dX7_size_4 ⟨Nat.le_of_ble_eq_true rfl, Nat.le_of_ble_eq_true rfl⟩) rfl rfl (fun H locs X => ?_)
  refine lv_if_eq (tgt := 14) hx hb dX7_size_7 (by decide) (fun c7 => ?_) (fun c7 => ?_)
  · have hf := g_t hf c7
    refine lv_aload_n hx hb dX7_size_14 rfl (lv_at hl 0 rfl) ?_
    refine g_get C X g_iX7 0 rfl rfl 0 (by decide) rfl m_148 rfl dX7_size_15 ?_
    refine lv_aload_n hx hb dX7_size_18 rfl (lv_at hl 0 rfl) ?_
    refine g_get C X g_iX7 0 rfl rfl 0 (by decide) rfl m_148 rfl dX7_size_19 ?_
    refine lv_iload_n hx hb dX7_size_22 rfl (lv_at hl 1 rfl) ?_
    obtain ⟨q23, e23, hf⟩ := g_be hf
    refine g_calli X (g_runV (As := [.int a1]) (rest := [.ref (ad 1)]) C X (cC_S_onShelf l E A ad q4.2 q23.2 q23.1 a1 e23) kX6_onShelf m_333 1 4 rfl rfl hl.1 rfl ⟨Nat.le_of_ble_eq_true rfl, Nat.le_of_ble_eq_true rfl⟩ rfl (Nat.le_of_ble_eq_true rfl) dX7_size_23 ⟨Nat.le_of_ble_eq_true rfl, Nat.le_of_ble_eq_true rfl⟩) rfl rfl (fun H locs X => ?_)
    obtain ⟨q26, e26, hf⟩ := g_be hf
    refine g_calli X (g_runV (As := [.int q23.1]) (rest := []) C X (cC_S_places l E A ad q23.2 q26.2 q26.1 q23.1 e26) kX6_places m_516 1 4 rfl rfl hl.1 rfl ⟨Nat.le_of_ble_eq_true rfl, Nat.le_of_ble_eq_true rfl⟩ rfl (Nat.le_of_ble_eq_true rfl) dX7_size_26 ⟨Nat.le_of_ble_eq_true rfl, Nat.le_of_ble_eq_true rfl⟩) rfl rfl (fun H locs X => ?_)
    exact g_iret (wsC E ad) C hr hk X hf dX7_size_29
  · have hf := g_f hf c7
    refine lv_iconst (v := 0) hx hb dX7_size_10 (by decide) ?_
    refine lv_goto (tgt := 29) hx hb dX7_size_11 (by decide) ?_
    exact g_iret (wsC E ad) C hr hk X hf dX7_size_29
set_option maxRecDepth 100000 in
set_option maxHeartbeats 4000000 in
theorem cC__takeFromRow (l : Launch) (E : g_Env) (A : Nat → Prop) (ad : Nat → Nat) (w : CS) (w' : CS) (r : Int64) (a1 : Int32) (a2 : Int32) (a3 : Int32) (hf : fC__takeFromRow w a1 a2 a3 = some (r, w')) : g_Ml l yX7_takeFromRow cX7_takeFromRow 6 ({ frames := 2, cells := 0, slots := 0, locals := 45 }) E A [.ref (ad 0), .int a1, .int a2, .int a3] (wsC E ad w) r (wsC E ad w') := by
  refine g_start (by decide) (Nat.le_of_ble_eq_true rfl) ?_
  intro p e s m below meth c C hr hk hnm ls hl H locs X
  have hx := C.1.1
  have hb := C.1.2.1
  have hl : lv_has ls 6 [(0, .ref (ad 0)), (1, .int a1), (2, .int a2), (3, .int a3)] := hl
  unfold fC__takeFromRow at hf
  refine lv_aload_n hx hb dX7_takeFromRow_0 rfl (lv_at hl 0 rfl) ?_
  refine g_get C X g_iX7 0 rfl rfl 0 (by decide) rfl m_148 rfl dX7_takeFromRow_1 ?_
  refine lv_iload_n hx hb dX7_takeFromRow_4 rfl (lv_at hl 1 rfl) ?_
  refine lv_iload_n hx hb dX7_takeFromRow_5 rfl (lv_at hl 3 rfl) ?_
  obtain ⟨q6, e6, hf⟩ := g_be hf
  refine g_calli X (g_runV (As := [.int a1, .int a3]) (rest := []) C X (cC_S_hasPlace l E A ad w q6.2 q6.1 a1 a3 e6) kX6_hasPlace m_362 1 4 rfl rfl hl.1 rfl ⟨Nat.le_of_ble_eq_true rfl, Nat.le_of_ble_eq_true rfl⟩ rfl (Nat.le_of_ble_eq_true rfl) dX7_takeFromRow_6 ⟨Nat.le_of_ble_eq_true rfl, Nat.le_of_ble_eq_true rfl⟩) rfl rfl (fun H locs X => ?_)
  refine lv_if_ne (tgt := 19) hx hb dX7_takeFromRow_9 (by decide) (fun c9 => ?_) (fun c9 => ?_)
  · have hf := g_f hf c9
    refine lv_aload_n hx hb dX7_takeFromRow_19 rfl (lv_at hl 0 rfl) ?_
    refine g_get C X g_iX7 0 rfl rfl 0 (by decide) rfl m_148 rfl dX7_takeFromRow_20 ?_
    refine lv_iload_n hx hb dX7_takeFromRow_23 rfl (lv_at hl 1 rfl) ?_
    refine lv_iload_n hx hb dX7_takeFromRow_24 rfl (lv_at hl 3 rfl) ?_
    obtain ⟨q25, e25, hf⟩ := g_be hf
    refine g_calll X (g_runV (As := [.int a1, .int a3]) (rest := []) C X (cC_S_atPlace l E A ad q6.2 q25.2 q25.1 a1 a3 e25) kX6_atPlace m_373 1 4 rfl rfl hl.1 rfl ⟨Nat.le_of_ble_eq_true rfl, Nat.le_of_ble_eq_true rfl⟩ rfl (Nat.le_of_ble_eq_true rfl) dX7_takeFromRow_25 ⟨Nat.le_of_ble_eq_true rfl, Nat.le_of_ble_eq_true rfl⟩) rfl rfl (fun H locs X => ?_)
    refine lv_lstore (lv' := [(4, .long q25.1), (0, .ref (ad 0)), (1, .int a1), (2, .int a2), (3, .int a3)]) hx hb dX7_takeFromRow_28 hl (by decide) rfl (fun ls hl => ?_)
    refine lv_iload_n hx hb dX7_takeFromRow_30 rfl (lv_at hl 3 rfl) ?_
    refine lv_ldc (v := 57344) hx hb C.1.2.2.2.1 (C.1.2.2.2.2 _ m_430) dX7_takeFromRow_31 ?_
    obtain ⟨q33, e33, hf⟩ := g_be hf
    refine g_calli X (g_runS (As := [.int a2, .int (57344 : Int32)]) (rest := []) C X (cC_K_isUnderAny l E A ad q25.2 q33.2 q33.1 a2 (57344 : Int32) e33) kX2_isUnderAny m_601 hl.1 rfl ⟨Nat.le_of_ble_eq_true rfl, Nat.le_of_ble_eq_true rfl⟩ rfl (Nat.le_of_ble_eq_true rfl) dX7_takeFromRow_33 ⟨Nat.le_of_ble_eq_true rfl, Nat.le_of_ble_eq_true rfl⟩) rfl rfl (fun H locs X => ?_)
    refine lv_if_eq (tgt := 42) hx hb dX7_takeFromRow_36 (by decide) (fun c36 => ?_) (fun c36 => ?_)
    · have hf := g_t hf c36
      refine lv_lload hx hb dX7_takeFromRow_42 (lv_at hl 0 rfl) ?_
      refine lv_ldc2 (v := -1) hx hb C.1.2.2.2.1 (C.1.2.2.2.2 _ m_378) dX7_takeFromRow_44 ?_
      refine W.lcmp hx hb dX7_takeFromRow_47 ?_
      refine lv_if_ne (tgt := 58) hx hb dX7_takeFromRow_48 (by decide) (fun c48 => ?_) (fun c48 => ?_)
      · have hf := g_f hf c48
        refine lv_iload_n hx hb dX7_takeFromRow_58 rfl (lv_at hl 3 rfl) ?_
        refine lv_ldc (v := 8454144) hx hb C.1.2.2.2.1 (C.1.2.2.2.2 _ m_606) dX7_takeFromRow_59 ?_
        obtain ⟨q61, e61, hf⟩ := g_be hf
        refine g_calli X (g_runS (As := [.int a2, .int (8454144 : Int32)]) (rest := []) C X (cC_K_isUnderAny l E A ad q33.2 q61.2 q61.1 a2 (8454144 : Int32) e61) kX2_isUnderAny m_601 hl.1 rfl ⟨Nat.le_of_ble_eq_true rfl, Nat.le_of_ble_eq_true rfl⟩ rfl (Nat.le_of_ble_eq_true rfl) dX7_takeFromRow_61 ⟨Nat.le_of_ble_eq_true rfl, Nat.le_of_ble_eq_true rfl⟩) rfl rfl (fun H locs X => ?_)
        refine lv_if_eq (tgt := 81) hx hb dX7_takeFromRow_64 (by decide) (fun c64 => ?_) (fun c64 => ?_)
        · have hf := g_t hf c64
          refine lv_lload hx hb dX7_takeFromRow_81 (lv_at hl 0 rfl) ?_
          exact g_lret (wsC E ad) C hr hk X hf dX7_takeFromRow_83
        · have hf := g_f hf c64
          refine lv_aload_n hx hb dX7_takeFromRow_67 rfl (lv_at hl 1 rfl) ?_
          refine g_get C X g_iX7 0 rfl rfl 0 (by decide) rfl m_148 rfl dX7_takeFromRow_68 ?_
          refine lv_lload hx hb dX7_takeFromRow_71 (lv_at hl 0 rfl) ?_
          refine lv_l2i hx hb dX7_takeFromRow_73 rfl ?_
          obtain ⟨q74, e74, hf⟩ := g_be hf
          refine g_calli X (g_runV (As := [.int q25.1.toInt32]) (rest := []) C X (cC_S_places l E A ad q61.2 q74.2 q74.1 q25.1.toInt32 e74) kX6_places m_516 1 4 rfl rfl hl.1 rfl ⟨Nat.le_of_ble_eq_true rfl, Nat.le_of_ble_eq_true rfl⟩ rfl (Nat.le_of_ble_eq_true rfl) dX7_takeFromRow_74 ⟨Nat.le_of_ble_eq_true rfl, Nat.le_of_ble_eq_true rfl⟩) rfl rfl (fun H locs X => ?_)
          refine lv_i2l hx hb dX7_takeFromRow_77 rfl ?_
          refine lv_goto (tgt := 83) hx hb dX7_takeFromRow_78 (by decide) ?_
          exact g_lret (wsC E ad) C hr hk X hf dX7_takeFromRow_83
      · have hf := g_t hf c48
        refine lv_aload_n hx hb dX7_takeFromRow_51 rfl (lv_at hl 1 rfl) ?_
        refine lv_iconst (v := 2) hx hb dX7_takeFromRow_52 (by decide) ?_
        obtain ⟨q53, e53, hf⟩ := g_be hf
        refine g_calli X (g_runV (As := [.int (2 : Int32)]) (rest := []) C X (cC__refuse l E A ad q33.2 q53.2 q53.1 (2 : Int32) e53) kX7_refuse m_204 0 5 rfl rfl hl.1 rfl ⟨Nat.le_of_ble_eq_true rfl, Nat.le_of_ble_eq_true rfl⟩ rfl (Nat.le_of_ble_eq_true rfl) dX7_takeFromRow_53 ⟨Nat.le_of_ble_eq_true rfl, Nat.le_of_ble_eq_true rfl⟩) rfl rfl (fun H locs X => ?_)
        refine lv_i2l hx hb dX7_takeFromRow_56 rfl ?_
        exact g_lret (wsC E ad) C hr hk X hf dX7_takeFromRow_57
    · have hf := g_f hf c36
      refine lv_lload hx hb dX7_takeFromRow_39 (lv_at hl 0 rfl) ?_
      exact g_lret (wsC E ad) C hr hk X hf dX7_takeFromRow_41
  · have hf := g_t hf c9
    refine lv_aload_n hx hb dX7_takeFromRow_12 rfl (lv_at hl 0 rfl) ?_
    refine lv_iconst (v := 4) hx hb dX7_takeFromRow_13 (by decide) ?_
    obtain ⟨q14, e14, hf⟩ := g_be hf
    refine g_calli X (g_runV (As := [.int (4 : Int32)]) (rest := []) C X (cC__refuse l E A ad q6.2 q14.2 q14.1 (4 : Int32) e14) kX7_refuse m_204 0 5 rfl rfl hl.1 rfl ⟨Nat.le_of_ble_eq_true rfl, Nat.le_of_ble_eq_true rfl⟩ rfl (Nat.le_of_ble_eq_true rfl) dX7_takeFromRow_14 ⟨Nat.le_of_ble_eq_true rfl, Nat.le_of_ble_eq_true rfl⟩) rfl rfl (fun H locs X => ?_)
    refine lv_i2l hx hb dX7_takeFromRow_17 rfl ?_
    exact g_lret (wsC E ad) C hr hk X hf dX7_takeFromRow_18
set_option maxRecDepth 100000 in
set_option maxHeartbeats 4000000 in
theorem cC__takeFromOther (l : Launch) (E : g_Env) (A : Nat → Prop) (ad : Nat → Nat) (w : CS) (w' : CS) (r : Int32) (a1 : Int32) (a2 : Int32) (hf : fC__takeFromOther w a1 a2 = some (r, w')) : g_Mi l yX7_takeFromOther cX7_takeFromOther 3 ((some .int)) ({ frames := 3, cells := 0, slots := 0, locals := 67 }) E A [.ref (ad 0), .int a1, .int a2] (wsC E ad w) r (wsC E ad w') := by
  refine g_start (by decide) (Nat.le_of_ble_eq_true rfl) ?_
  intro p e s m below meth c C hr hk hnm ls hl H locs X
  have hx := C.1.1
  have hb := C.1.2.1
  have hl : lv_has ls 3 [(0, .ref (ad 0)), (1, .int a1), (2, .int a2)] := hl
  unfold fC__takeFromOther at hf
  refine lv_iload_n hx hb dX7_takeFromOther_0 rfl (lv_at hl 2 rfl) ?_
  by_cases s1_0 : a2 = (0 : Int32)
  · have hf := g_t hf s1_0
    refine g_tabIn (tgt := 68) hx hb s1_0 dX7_takeFromOther_1 (by decide) (by decide) rfl (by decide) ?_
    refine lv_aload_n hx hb dX7_takeFromOther_68 rfl (lv_at hl 0 rfl) ?_
    refine g_get C X g_iX7 0 rfl rfl 0 (by decide) rfl m_148 rfl dX7_takeFromOther_69 ?_
    refine lv_iload_n hx hb dX7_takeFromOther_72 rfl (lv_at hl 1 rfl) ?_
    refine lv_iconst (v := 3) hx hb dX7_takeFromOther_73 (by decide) ?_
    obtain ⟨q74, e74, hf⟩ := g_be hf
    refine g_calli X (g_runV (As := [.int a1, .int (3 : Int32)]) (rest := []) C X (cC_S_trait l E A ad w q74.2 q74.1 a1 (3 : Int32) e74) kX6_trait m_399 1 4 rfl rfl hl.1 rfl ⟨Nat.le_of_ble_eq_true rfl, Nat.le_of_ble_eq_true rfl⟩ rfl (Nat.le_of_ble_eq_true rfl) dX7_takeFromOther_74 ⟨Nat.le_of_ble_eq_true rfl, Nat.le_of_ble_eq_true rfl⟩) rfl rfl (fun H locs X => ?_)
    exact g_iret (wsC E ad) C hr hk X hf dX7_takeFromOther_77
  have hf := g_f hf s1_0
  by_cases s1_1 : a2 = (1 : Int32)
  · have hf := g_t hf s1_1
    refine g_tabIn (tgt := 78) hx hb s1_1 dX7_takeFromOther_1 (by decide) (by decide) rfl (by decide) ?_
    refine lv_aload_n hx hb dX7_takeFromOther_78 rfl (lv_at hl 0 rfl) ?_
    refine g_get C X g_iX7 0 rfl rfl 0 (by decide) rfl m_148 rfl dX7_takeFromOther_79 ?_
    refine lv_iload_n hx hb dX7_takeFromOther_82 rfl (lv_at hl 1 rfl) ?_
    obtain ⟨q83, e83, hf⟩ := g_be hf
    refine g_calli X (g_runS (As := [.ref (ad 1), .int a1]) (rest := []) C X (cC_Ru_load l E A ad w q83.2 q83.1 a1 e83) kX4_load m_611 hl.1 rfl ⟨Nat.le_of_ble_eq_true rfl, Nat.le_of_ble_eq_true rfl⟩ rfl (Nat.le_of_ble_eq_true rfl) dX7_takeFromOther_83 ⟨Nat.le_of_ble_eq_true rfl, Nat.le_of_ble_eq_true rfl⟩) rfl rfl (fun H locs X => ?_)
    exact g_iret (wsC E ad) C hr hk X hf dX7_takeFromOther_86
  have hf := g_f hf s1_1
  by_cases s1_2 : a2 = (2 : Int32)
  · have hf := g_t hf s1_2
    refine g_tabIn (tgt := 87) hx hb s1_2 dX7_takeFromOther_1 (by decide) (by decide) rfl (by decide) ?_
    refine lv_aload_n hx hb dX7_takeFromOther_87 rfl (lv_at hl 0 rfl) ?_
    refine g_get C X g_iX7 0 rfl rfl 0 (by decide) rfl m_148 rfl dX7_takeFromOther_88 ?_
    refine lv_iload_n hx hb dX7_takeFromOther_91 rfl (lv_at hl 1 rfl) ?_
    refine lv_iconst (v := 2) hx hb dX7_takeFromOther_92 (by decide) ?_
    obtain ⟨q93, e93, hf⟩ := g_be hf
    refine g_calli X (g_runV (As := [.int a1, .int (2 : Int32)]) (rest := []) C X (cC_S_trait l E A ad w q93.2 q93.1 a1 (2 : Int32) e93) kX6_trait m_399 1 4 rfl rfl hl.1 rfl ⟨Nat.le_of_ble_eq_true rfl, Nat.le_of_ble_eq_true rfl⟩ rfl (Nat.le_of_ble_eq_true rfl) dX7_takeFromOther_93 ⟨Nat.le_of_ble_eq_true rfl, Nat.le_of_ble_eq_true rfl⟩) rfl rfl (fun H locs X => ?_)
    obtain ⟨v96, e96, hf⟩ := g_le hf
    refine g_mabs C hl.1 m_614 m_491 m_80 m_492 (Nat.le_of_ble_eq_true rfl) (Nat.le_of_ble_eq_true rfl) (Nat.zero_le _) (Nat.zero_le _) e96 dX7_takeFromOther_96 ?_
    exact g_iret (wsC E ad) C hr hk X hf dX7_takeFromOther_99
  have hf := g_f hf s1_2
  by_cases s1_3 : a2 = (3 : Int32)
  · have hf := g_t hf s1_3
    refine g_tabIn (tgt := 100) hx hb s1_3 dX7_takeFromOther_1 (by decide) (by decide) rfl (by decide) ?_
    refine lv_aload_n hx hb dX7_takeFromOther_100 rfl (lv_at hl 0 rfl) ?_
    refine g_get C X g_iX7 0 rfl rfl 0 (by decide) rfl m_148 rfl dX7_takeFromOther_101 ?_
    refine lv_iload_n hx hb dX7_takeFromOther_104 rfl (lv_at hl 1 rfl) ?_
    refine lv_iconst (v := 4) hx hb dX7_takeFromOther_105 (by decide) ?_
    obtain ⟨q106, e106, hf⟩ := g_be hf
    refine g_calli X (g_runV (As := [.int a1, .int (4 : Int32)]) (rest := []) C X (cC_S_trait l E A ad w q106.2 q106.1 a1 (4 : Int32) e106) kX6_trait m_399 1 4 rfl rfl hl.1 rfl ⟨Nat.le_of_ble_eq_true rfl, Nat.le_of_ble_eq_true rfl⟩ rfl (Nat.le_of_ble_eq_true rfl) dX7_takeFromOther_106 ⟨Nat.le_of_ble_eq_true rfl, Nat.le_of_ble_eq_true rfl⟩) rfl rfl (fun H locs X => ?_)
    exact g_iret (wsC E ad) C hr hk X hf dX7_takeFromOther_109
  have hf := g_f hf s1_3
  by_cases s1_4 : a2 = (4 : Int32)
  · have hf := g_t hf s1_4
    refine g_tabIn (tgt := 100) hx hb s1_4 dX7_takeFromOther_1 (by decide) (by decide) rfl (by decide) ?_
    refine lv_aload_n hx hb dX7_takeFromOther_100 rfl (lv_at hl 0 rfl) ?_
    refine g_get C X g_iX7 0 rfl rfl 0 (by decide) rfl m_148 rfl dX7_takeFromOther_101 ?_
    refine lv_iload_n hx hb dX7_takeFromOther_104 rfl (lv_at hl 1 rfl) ?_
    refine lv_iconst (v := 4) hx hb dX7_takeFromOther_105 (by decide) ?_
    obtain ⟨q106, e106, hf⟩ := g_be hf
    refine g_calli X (g_runV (As := [.int a1, .int (4 : Int32)]) (rest := []) C X (cC_S_trait l E A ad w q106.2 q106.1 a1 (4 : Int32) e106) kX6_trait m_399 1 4 rfl rfl hl.1 rfl ⟨Nat.le_of_ble_eq_true rfl, Nat.le_of_ble_eq_true rfl⟩ rfl (Nat.le_of_ble_eq_true rfl) dX7_takeFromOther_106 ⟨Nat.le_of_ble_eq_true rfl, Nat.le_of_ble_eq_true rfl⟩) rfl rfl (fun H locs X => ?_)
    exact g_iret (wsC E ad) C hr hk X hf dX7_takeFromOther_109
  have hf := g_f hf s1_4
  by_cases s1_5 : a2 = (5 : Int32)
  · have hf := g_t hf s1_5
    refine g_tabIn (tgt := 142) hx hb s1_5 dX7_takeFromOther_1 (by decide) (by decide) rfl (by decide) ?_
    refine lv_aload_n hx hb dX7_takeFromOther_142 rfl (lv_at hl 0 rfl) ?_
    refine g_get C X g_iX7 0 rfl rfl 0 (by decide) rfl m_148 rfl dX7_takeFromOther_143 ?_
    refine lv_iload_n hx hb dX7_takeFromOther_146 rfl (lv_at hl 1 rfl) ?_
    refine lv_iconst (v := 5) hx hb dX7_takeFromOther_147 (by decide) ?_
    obtain ⟨q148, e148, hf⟩ := g_be hf
    refine g_calli X (g_runV (As := [.int a1, .int (5 : Int32)]) (rest := []) C X (cC_S_trait l E A ad w q148.2 q148.1 a1 (5 : Int32) e148) kX6_trait m_399 1 4 rfl rfl hl.1 rfl ⟨Nat.le_of_ble_eq_true rfl, Nat.le_of_ble_eq_true rfl⟩ rfl (Nat.le_of_ble_eq_true rfl) dX7_takeFromOther_148 ⟨Nat.le_of_ble_eq_true rfl, Nat.le_of_ble_eq_true rfl⟩) rfl rfl (fun H locs X => ?_)
    exact g_iret (wsC E ad) C hr hk X hf dX7_takeFromOther_151
  have hf := g_f hf s1_5
  by_cases s1_6 : a2 = (6 : Int32)
  · have hf := g_t hf s1_6
    refine g_tabIn (tgt := 142) hx hb s1_6 dX7_takeFromOther_1 (by decide) (by decide) rfl (by decide) ?_
    refine lv_aload_n hx hb dX7_takeFromOther_142 rfl (lv_at hl 0 rfl) ?_
    refine g_get C X g_iX7 0 rfl rfl 0 (by decide) rfl m_148 rfl dX7_takeFromOther_143 ?_
    refine lv_iload_n hx hb dX7_takeFromOther_146 rfl (lv_at hl 1 rfl) ?_
    refine lv_iconst (v := 5) hx hb dX7_takeFromOther_147 (by decide) ?_
    obtain ⟨q148, e148, hf⟩ := g_be hf
    refine g_calli X (g_runV (As := [.int a1, .int (5 : Int32)]) (rest := []) C X (cC_S_trait l E A ad w q148.2 q148.1 a1 (5 : Int32) e148) kX6_trait m_399 1 4 rfl rfl hl.1 rfl ⟨Nat.le_of_ble_eq_true rfl, Nat.le_of_ble_eq_true rfl⟩ rfl (Nat.le_of_ble_eq_true rfl) dX7_takeFromOther_148 ⟨Nat.le_of_ble_eq_true rfl, Nat.le_of_ble_eq_true rfl⟩) rfl rfl (fun H locs X => ?_)
    exact g_iret (wsC E ad) C hr hk X hf dX7_takeFromOther_151
  have hf := g_f hf s1_6
  by_cases s1_7 : a2 = (7 : Int32)
  · have hf := g_t hf s1_7
    refine g_tabIn (tgt := 142) hx hb s1_7 dX7_takeFromOther_1 (by decide) (by decide) rfl (by decide) ?_
    refine lv_aload_n hx hb dX7_takeFromOther_142 rfl (lv_at hl 0 rfl) ?_
    refine g_get C X g_iX7 0 rfl rfl 0 (by decide) rfl m_148 rfl dX7_takeFromOther_143 ?_
    refine lv_iload_n hx hb dX7_takeFromOther_146 rfl (lv_at hl 1 rfl) ?_
    refine lv_iconst (v := 5) hx hb dX7_takeFromOther_147 (by decide) ?_
    obtain ⟨q148, e148, hf⟩ := g_be hf
    refine g_calli X (g_runV (As := [.int a1, .int (5 : Int32)]) (rest := []) C X (cC_S_trait l E A ad w q148.2 q148.1 a1 (5 : Int32) e148) kX6_trait m_399 1 4 rfl rfl hl.1 rfl ⟨Nat.le_of_ble_eq_true rfl, Nat.le_of_ble_eq_true rfl⟩ rfl (Nat.le_of_ble_eq_true rfl) dX7_takeFromOther_148 ⟨Nat.le_of_ble_eq_true rfl, Nat.le_of_ble_eq_true rfl⟩) rfl rfl (fun H locs X => ?_)
    exact g_iret (wsC E ad) C hr hk X hf dX7_takeFromOther_151
  have hf := g_f hf s1_7
  by_cases s1_8 : a2 = (8 : Int32)
  · have hf := g_t hf s1_8
    refine g_tabIn (tgt := 142) hx hb s1_8 dX7_takeFromOther_1 (by decide) (by decide) rfl (by decide) ?_
    refine lv_aload_n hx hb dX7_takeFromOther_142 rfl (lv_at hl 0 rfl) ?_
    refine g_get C X g_iX7 0 rfl rfl 0 (by decide) rfl m_148 rfl dX7_takeFromOther_143 ?_
    refine lv_iload_n hx hb dX7_takeFromOther_146 rfl (lv_at hl 1 rfl) ?_
    refine lv_iconst (v := 5) hx hb dX7_takeFromOther_147 (by decide) ?_
    obtain ⟨q148, e148, hf⟩ := g_be hf
    refine g_calli X (g_runV (As := [.int a1, .int (5 : Int32)]) (rest := []) C X (cC_S_trait l E A ad w q148.2 q148.1 a1 (5 : Int32) e148) kX6_trait m_399 1 4 rfl rfl hl.1 rfl ⟨Nat.le_of_ble_eq_true rfl, Nat.le_of_ble_eq_true rfl⟩ rfl (Nat.le_of_ble_eq_true rfl) dX7_takeFromOther_148 ⟨Nat.le_of_ble_eq_true rfl, Nat.le_of_ble_eq_true rfl⟩) rfl rfl (fun H locs X => ?_)
    exact g_iret (wsC E ad) C hr hk X hf dX7_takeFromOther_151
  have hf := g_f hf s1_8
  by_cases s1_9 : a2 = (9 : Int32)
  · have hf := g_t hf s1_9
    refine g_tabIn (tgt := 110) hx hb s1_9 dX7_takeFromOther_1 (by decide) (by decide) rfl (by decide) ?_
    refine lv_aload_n hx hb dX7_takeFromOther_110 rfl (lv_at hl 0 rfl) ?_
    refine g_get C X g_iX7 0 rfl rfl 0 (by decide) rfl m_148 rfl dX7_takeFromOther_111 ?_
    refine lv_iload_n hx hb dX7_takeFromOther_114 rfl (lv_at hl 1 rfl) ?_
    refine lv_bipush (v := 6) hx hb dX7_takeFromOther_115 (by decide) ?_
    obtain ⟨q117, e117, hf⟩ := g_be hf
    refine g_calli X (g_runV (As := [.int a1, .int (6 : Int32)]) (rest := []) C X (cC_S_trait l E A ad w q117.2 q117.1 a1 (6 : Int32) e117) kX6_trait m_399 1 4 rfl rfl hl.1 rfl ⟨Nat.le_of_ble_eq_true rfl, Nat.le_of_ble_eq_true rfl⟩ rfl (Nat.le_of_ble_eq_true rfl) dX7_takeFromOther_117 ⟨Nat.le_of_ble_eq_true rfl, Nat.le_of_ble_eq_true rfl⟩) rfl rfl (fun H locs X => ?_)
    exact g_iret (wsC E ad) C hr hk X hf dX7_takeFromOther_120
  have hf := g_f hf s1_9
  by_cases s1_10 : a2 = (10 : Int32)
  · have hf := g_t hf s1_10
    refine g_tabIn (tgt := 110) hx hb s1_10 dX7_takeFromOther_1 (by decide) (by decide) rfl (by decide) ?_
    refine lv_aload_n hx hb dX7_takeFromOther_110 rfl (lv_at hl 0 rfl) ?_
    refine g_get C X g_iX7 0 rfl rfl 0 (by decide) rfl m_148 rfl dX7_takeFromOther_111 ?_
    refine lv_iload_n hx hb dX7_takeFromOther_114 rfl (lv_at hl 1 rfl) ?_
    refine lv_bipush (v := 6) hx hb dX7_takeFromOther_115 (by decide) ?_
    obtain ⟨q117, e117, hf⟩ := g_be hf
    refine g_calli X (g_runV (As := [.int a1, .int (6 : Int32)]) (rest := []) C X (cC_S_trait l E A ad w q117.2 q117.1 a1 (6 : Int32) e117) kX6_trait m_399 1 4 rfl rfl hl.1 rfl ⟨Nat.le_of_ble_eq_true rfl, Nat.le_of_ble_eq_true rfl⟩ rfl (Nat.le_of_ble_eq_true rfl) dX7_takeFromOther_117 ⟨Nat.le_of_ble_eq_true rfl, Nat.le_of_ble_eq_true rfl⟩) rfl rfl (fun H locs X => ?_)
    exact g_iret (wsC E ad) C hr hk X hf dX7_takeFromOther_120
  have hf := g_f hf s1_10
  by_cases s1_11 : a2 = (11 : Int32)
  · have hf := g_t hf s1_11
    refine g_tabIn (tgt := 121) hx hb s1_11 dX7_takeFromOther_1 (by decide) (by decide) rfl (by decide) ?_
    refine lv_aload_n hx hb dX7_takeFromOther_121 rfl (lv_at hl 0 rfl) ?_
    refine g_get C X g_iX7 0 rfl rfl 0 (by decide) rfl m_148 rfl dX7_takeFromOther_122 ?_
    refine lv_iload_n hx hb dX7_takeFromOther_125 rfl (lv_at hl 1 rfl) ?_
    refine lv_bipush (v := 9) hx hb dX7_takeFromOther_126 (by decide) ?_
    obtain ⟨q128, e128, hf⟩ := g_be hf
    refine g_calli X (g_runV (As := [.int a1, .int (9 : Int32)]) (rest := []) C X (cC_S_trait l E A ad w q128.2 q128.1 a1 (9 : Int32) e128) kX6_trait m_399 1 4 rfl rfl hl.1 rfl ⟨Nat.le_of_ble_eq_true rfl, Nat.le_of_ble_eq_true rfl⟩ rfl (Nat.le_of_ble_eq_true rfl) dX7_takeFromOther_128 ⟨Nat.le_of_ble_eq_true rfl, Nat.le_of_ble_eq_true rfl⟩) rfl rfl (fun H locs X => ?_)
    exact g_iret (wsC E ad) C hr hk X hf dX7_takeFromOther_131
  have hf := g_f hf s1_11
  by_cases s1_12 : a2 = (12 : Int32)
  · have hf := g_t hf s1_12
    refine g_tabIn (tgt := 132) hx hb s1_12 dX7_takeFromOther_1 (by decide) (by decide) rfl (by decide) ?_
    refine lv_aload_n hx hb dX7_takeFromOther_132 rfl (lv_at hl 0 rfl) ?_
    refine g_get C X g_iX7 0 rfl rfl 0 (by decide) rfl m_148 rfl dX7_takeFromOther_133 ?_
    refine lv_iload_n hx hb dX7_takeFromOther_136 rfl (lv_at hl 1 rfl) ?_
    refine lv_iconst (v := 0) hx hb dX7_takeFromOther_137 (by decide) ?_
    obtain ⟨q138, e138, hf⟩ := g_be hf
    refine g_calli X (g_runV (As := [.int a1, .int (0 : Int32)]) (rest := []) C X (cC_S_trait l E A ad w q138.2 q138.1 a1 (0 : Int32) e138) kX6_trait m_399 1 4 rfl rfl hl.1 rfl ⟨Nat.le_of_ble_eq_true rfl, Nat.le_of_ble_eq_true rfl⟩ rfl (Nat.le_of_ble_eq_true rfl) dX7_takeFromOther_138 ⟨Nat.le_of_ble_eq_true rfl, Nat.le_of_ble_eq_true rfl⟩) rfl rfl (fun H locs X => ?_)
    exact g_iret (wsC E ad) C hr hk X hf dX7_takeFromOther_141
  have hf := g_f hf s1_12
  refine lv_tableOut (tgt := 142) hx hb dX7_takeFromOther_1 (by have z0 := g_ne (0) s1_0 (by decide); have z1 := g_ne (1) s1_1 (by decide); have z2 := g_ne (2) s1_2 (by decide); have z3 := g_ne (3) s1_3 (by decide); have z4 := g_ne (4) s1_4 (by decide); have z5 := g_ne (5) s1_5 (by decide); have z6 := g_ne (6) s1_6 (by decide); have z7 := g_ne (7) s1_7 (by decide); have z8 := g_ne (8) s1_8 (by decide); have z9 := g_ne (9) s1_9 (by decide); have z10 := g_ne (10) s1_10 (by decide); have z11 := g_ne (11) s1_11 (by decide); have z12 := g_ne (12) s1_12 (by decide); omega) (by decide) ?_
  refine lv_aload_n hx hb dX7_takeFromOther_142 rfl (lv_at hl 0 rfl) ?_
  refine g_get C X g_iX7 0 rfl rfl 0 (by decide) rfl m_148 rfl dX7_takeFromOther_143 ?_
  refine lv_iload_n hx hb dX7_takeFromOther_146 rfl (lv_at hl 1 rfl) ?_
  refine lv_iconst (v := 5) hx hb dX7_takeFromOther_147 (by decide) ?_
  obtain ⟨q148, e148, hf⟩ := g_be hf
  refine g_calli X (g_runV (As := [.int a1, .int (5 : Int32)]) (rest := []) C X (cC_S_trait l E A ad w q148.2 q148.1 a1 (5 : Int32) e148) kX6_trait m_399 1 4 rfl rfl hl.1 rfl ⟨Nat.le_of_ble_eq_true rfl, Nat.le_of_ble_eq_true rfl⟩ rfl (Nat.le_of_ble_eq_true rfl) dX7_takeFromOther_148 ⟨Nat.le_of_ble_eq_true rfl, Nat.le_of_ble_eq_true rfl⟩) rfl rfl (fun H locs X => ?_)
  exact g_iret (wsC E ad) C hr hk X hf dX7_takeFromOther_151
set_option maxRecDepth 100000 in
set_option maxHeartbeats 4000000 in
theorem cC__take (l : Launch) (E : g_Env) (A : Nat → Prop) (ad : Nat → Nat) (w : CS) (w' : CS) (r : Int64) (a1 : Int32) (a2 : Int32) (a3 : Int32) (hf : fC__take w a1 a2 a3 = some (r, w')) : g_Ml l yX7_take cX7_take 5 ({ frames := 4, cells := 0, slots := 0, locals := 89 }) E A [.ref (ad 0), .int a1, .int a2, .int a3] (wsC E ad w) r (wsC E ad w') := by
  refine g_start (by decide) (Nat.le_of_ble_eq_true rfl) ?_
  intro p e s m below meth c C hr hk hnm ls hl H locs X
  have hx := C.1.1
  have hb := C.1.2.1
  have hl : lv_has ls 5 [(0, .ref (ad 0)), (1, .int a1), (2, .int a2), (3, .int a3)] := hl
  unfold fC__take at hf
  refine lv_iload_n hx hb dX7_take_0 rfl (lv_at hl 1 rfl) ?_
  obtain ⟨q1, e1, hf⟩ := g_be hf
  refine g_calli X (g_runS (As := [.int a1]) (rest := []) C X (cC__isShelf l E A ad w q1.2 q1.1 a1 e1) kX7_isShelf m_216 hl.1 rfl ⟨Nat.le_of_ble_eq_true rfl, Nat.le_of_ble_eq_true rfl⟩ rfl (Nat.le_of_ble_eq_true rfl) dX7_take_1 ⟨Nat.le_of_ble_eq_true rfl, Nat.le_of_ble_eq_true rfl⟩) rfl rfl (fun H locs X => ?_)
  refine lv_if_eq (tgt := 14) hx hb dX7_take_4 (by decide) (fun c4 => ?_) (fun c4 => ?_)
  · have hf := g_t hf c4
    refine lv_aload_n hx hb dX7_take_14 rfl (lv_at hl 0 rfl) ?_
    refine lv_iconst (v := 1) hx hb dX7_take_15 (by decide) ?_
    obtain ⟨q16, e16, hf⟩ := g_be hf
    refine g_calli X (g_runV (As := [.int (1 : Int32)]) (rest := []) C X (cC__refuse l E A ad q1.2 q16.2 q16.1 (1 : Int32) e16) kX7_refuse m_204 0 5 rfl rfl hl.1 rfl ⟨Nat.le_of_ble_eq_true rfl, Nat.le_of_ble_eq_true rfl⟩ rfl (Nat.le_of_ble_eq_true rfl) dX7_take_16 ⟨Nat.le_of_ble_eq_true rfl, Nat.le_of_ble_eq_true rfl⟩) rfl rfl (fun H locs X => ?_)
    refine lv_i2l hx hb dX7_take_19 rfl ?_
    exact g_lret (wsC E ad) C hr hk X hf dX7_take_20
  · have hf := g_f hf c4
    refine lv_iload_n hx hb dX7_take_7 rfl (lv_at hl 2 rfl) ?_
    obtain ⟨q8, e8, hf⟩ := g_be hf
    refine g_calli X (g_runS (As := [.int a2]) (rest := []) C X (cC_K_isKind l E A ad q1.2 q8.2 q8.1 a2 e8) kX2_isKind m_576 hl.1 rfl ⟨Nat.le_of_ble_eq_true rfl, Nat.le_of_ble_eq_true rfl⟩ rfl (Nat.le_of_ble_eq_true rfl) dX7_take_8 ⟨Nat.le_of_ble_eq_true rfl, Nat.le_of_ble_eq_true rfl⟩) rfl rfl (fun H locs X => ?_)
    refine lv_if_ne (tgt := 21) hx hb dX7_take_11 (by decide) (fun c11 => ?_) (fun c11 => ?_)
    · have hf := g_f hf c11
      refine lv_aload_n hx hb dX7_take_21 rfl (lv_at hl 0 rfl) ?_
      refine lv_iload_n hx hb dX7_take_22 rfl (lv_at hl 1 rfl) ?_
      refine lv_iconst (v := 1) hx hb dX7_take_23 (by decide) ?_
      refine lv_iload_n hx hb dX7_take_24 rfl (lv_at hl 2 rfl) ?_
      refine lv_ishl hx hb dX7_take_25 ?_
      obtain ⟨q26, e26, hf⟩ := g_be hf
      refine g_calli X (g_runV (As := [.int a1, .int ((1 : Int32) <<< (a2 &&& 31))]) (rest := []) C X (cC__holdsNone l E A ad q8.2 q26.2 q26.1 a1 ((1 : Int32) <<< (a2 &&& 31)) e26) kX7_holdsNone m_354 0 5 rfl rfl hl.1 rfl ⟨Nat.le_of_ble_eq_true rfl, Nat.le_of_ble_eq_true rfl⟩ rfl (Nat.le_of_ble_eq_true rfl) dX7_take_26 ⟨Nat.le_of_ble_eq_true rfl, Nat.le_of_ble_eq_true rfl⟩) rfl rfl (fun H locs X => ?_)
      refine lv_if_eq (tgt := 34) hx hb dX7_take_29 (by decide) (fun c29 => ?_) (fun c29 => ?_)
      · have hf := g_t hf c29
        refine lv_aload_n hx hb dX7_take_34 rfl (lv_at hl 0 rfl) ?_
        refine g_get C X g_iX7 0 rfl rfl 0 (by decide) rfl m_148 rfl dX7_take_35 ?_
        refine lv_iload_n hx hb dX7_take_38 rfl (lv_at hl 1 rfl) ?_
        obtain ⟨q39, e39, hf⟩ := g_be hf
        refine g_calli X (g_runV (As := [.int a1]) (rest := []) C X (cC_S_onShelf l E A ad q26.2 q39.2 q39.1 a1 e39) kX6_onShelf m_333 1 4 rfl rfl hl.1 rfl ⟨Nat.le_of_ble_eq_true rfl, Nat.le_of_ble_eq_true rfl⟩ rfl (Nat.le_of_ble_eq_true rfl) dX7_take_39 ⟨Nat.le_of_ble_eq_true rfl, Nat.le_of_ble_eq_true rfl⟩) rfl rfl (fun H locs X => ?_)
        refine lv_istore (lv' := [(4, .int q39.1), (0, .ref (ad 0)), (1, .int a1), (2, .int a2), (3, .int a3)]) hx hb dX7_take_42 hl (by decide) rfl (fun ls hl => ?_)
        refine lv_iload_n hx hb dX7_take_44 rfl (lv_at hl 3 rfl) ?_
        refine lv_ldc (v := 10739712) hx hb C.1.2.2.2.1 (C.1.2.2.2.2 _ m_600) dX7_take_45 ?_
        obtain ⟨q47, e47, hf⟩ := g_be hf
        refine g_calli X (g_runS (As := [.int a2, .int (10739712 : Int32)]) (rest := []) C X (cC_K_isUnderAny l E A ad q39.2 q47.2 q47.1 a2 (10739712 : Int32) e47) kX2_isUnderAny m_601 hl.1 rfl ⟨Nat.le_of_ble_eq_true rfl, Nat.le_of_ble_eq_true rfl⟩ rfl (Nat.le_of_ble_eq_true rfl) dX7_take_47 ⟨Nat.le_of_ble_eq_true rfl, Nat.le_of_ble_eq_true rfl⟩) rfl rfl (fun H locs X => ?_)
        refine lv_if_eq (tgt := 64) hx hb dX7_take_50 (by decide) (fun c50 => ?_) (fun c50 => ?_)
        · have hf := g_t hf c50
          refine lv_aload_n hx hb dX7_take_64 rfl (lv_at hl 1 rfl) ?_
          refine lv_iload hx hb dX7_take_65 (lv_at hl 0 rfl) ?_
          refine lv_iload_n hx hb dX7_take_67 rfl (lv_at hl 3 rfl) ?_
          obtain ⟨q68, e68, hf⟩ := g_be hf
          refine g_calli X (g_runV (As := [.int q39.1, .int a2]) (rest := []) C X (cC__takeFromOther l E A ad q47.2 q68.2 q68.1 q39.1 a2 e68) kX7_takeFromOther m_607 0 5 rfl rfl hl.1 rfl ⟨Nat.le_of_ble_eq_true rfl, Nat.le_of_ble_eq_true rfl⟩ rfl (Nat.le_of_ble_eq_true rfl) dX7_take_68 ⟨Nat.le_of_ble_eq_true rfl, Nat.le_of_ble_eq_true rfl⟩) rfl rfl (fun H locs X => ?_)
          refine lv_i2l hx hb dX7_take_71 rfl ?_
          exact g_lret (wsC E ad) C hr hk X hf dX7_take_72
        · have hf := g_f hf c50
          refine lv_aload_n hx hb dX7_take_53 rfl (lv_at hl 1 rfl) ?_
          refine lv_iload hx hb dX7_take_54 (lv_at hl 0 rfl) ?_
          refine lv_iload_n hx hb dX7_take_56 rfl (lv_at hl 3 rfl) ?_
          refine lv_iload_n hx hb dX7_take_57 rfl (lv_at hl 4 rfl) ?_
          obtain ⟨q58, e58, hf⟩ := g_be hf
          refine g_calll X (g_runV (As := [.int q39.1, .int a2, .int a3]) (rest := []) C X (cC__takeFromRow l E A ad q47.2 q58.2 q58.1 q39.1 a2 a3 e58) kX7_takeFromRow m_602 0 5 rfl rfl hl.1 rfl ⟨Nat.le_of_ble_eq_true rfl, Nat.le_of_ble_eq_true rfl⟩ rfl (Nat.le_of_ble_eq_true rfl) dX7_take_58 ⟨Nat.le_of_ble_eq_true rfl, Nat.le_of_ble_eq_true rfl⟩) rfl rfl (fun H locs X => ?_)
          refine lv_goto (tgt := 72) hx hb dX7_take_61 (by decide) ?_
          exact g_lret (wsC E ad) C hr hk X hf dX7_take_72
      · have hf := g_f hf c29
        refine lv_lconst (v := 0) hx hb dX7_take_32 (by decide) ?_
        exact g_lret (wsC E ad) C hr hk X hf dX7_take_33
    · have hf := g_t hf c11
      refine lv_aload_n hx hb dX7_take_14 rfl (lv_at hl 0 rfl) ?_
      refine lv_iconst (v := 1) hx hb dX7_take_15 (by decide) ?_
      obtain ⟨q16, e16, hf⟩ := g_be hf
      refine g_calli X (g_runV (As := [.int (1 : Int32)]) (rest := []) C X (cC__refuse l E A ad q8.2 q16.2 q16.1 (1 : Int32) e16) kX7_refuse m_204 0 5 rfl rfl hl.1 rfl ⟨Nat.le_of_ble_eq_true rfl, Nat.le_of_ble_eq_true rfl⟩ rfl (Nat.le_of_ble_eq_true rfl) dX7_take_16 ⟨Nat.le_of_ble_eq_true rfl, Nat.le_of_ble_eq_true rfl⟩) rfl rfl (fun H locs X => ?_)
      refine lv_i2l hx hb dX7_take_19 rfl ?_
      exact g_lret (wsC E ad) C hr hk X hf dX7_take_20
set_option maxRecDepth 100000 in
set_option maxHeartbeats 4000000 in
theorem cC__tell (l : Launch) (E : g_Env) (A : Nat → Prop) (ad : Nat → Nat) (w : CS) (w' : CS) (r : Int32) (a1 : Int32) (a2 : Int32) (hf : fC__tell w a1 a2 = some (r, w')) : g_Mi l yX7_tell cX7_tell 4 ((some .int)) ({ frames := 3, cells := 0, slots := 0, locals := 67 }) E A [.ref (ad 0), .int a1, .int a2] (wsC E ad w) r (wsC E ad w') := by
  refine g_start (by decide) (Nat.le_of_ble_eq_true rfl) ?_
  intro p e s m below meth c C hr hk hnm ls hl H locs X
  have hx := C.1.1
  have hb := C.1.2.1
  have hl : lv_has ls 4 [(0, .ref (ad 0)), (1, .int a1), (2, .int a2)] := hl
  unfold fC__tell at hf
  refine lv_iload_n hx hb dX7_tell_0 rfl (lv_at hl 2 rfl) ?_
  refine lv_if_lt (tgt := 10) hx hb dX7_tell_1 (by decide) (fun c1 => ?_) (fun c1 => ?_)
  · have hf := g_t hf c1
    refine lv_aload_n hx hb dX7_tell_10 rfl (lv_at hl 0 rfl) ?_
    refine lv_iconst (v := 1) hx hb dX7_tell_11 (by decide) ?_
    obtain ⟨q12, e12, hf⟩ := g_be hf
    refine g_calli X (g_runV (As := [.int (1 : Int32)]) (rest := []) C X (cC__refuse l E A ad w q12.2 q12.1 (1 : Int32) e12) kX7_refuse m_204 0 5 rfl rfl hl.1 rfl ⟨Nat.le_of_ble_eq_true rfl, Nat.le_of_ble_eq_true rfl⟩ rfl (Nat.le_of_ble_eq_true rfl) dX7_tell_12 ⟨Nat.le_of_ble_eq_true rfl, Nat.le_of_ble_eq_true rfl⟩) rfl rfl (fun H locs X => ?_)
    exact g_iret (wsC E ad) C hr hk X hf dX7_tell_15
  · have hf := g_f hf c1
    refine lv_iload_n hx hb dX7_tell_4 rfl (lv_at hl 2 rfl) ?_
    refine lv_bipush (v := 9) hx hb dX7_tell_5 (by decide) ?_
    refine lv_icmp_le (tgt := 16) hx hb dX7_tell_7 (by decide) (fun c7 => ?_) (fun c7 => ?_)
    · have hf := g_t hf c7
      refine lv_aload_n hx hb dX7_tell_16 rfl (lv_at hl 0 rfl) ?_
      refine lv_iload_n hx hb dX7_tell_17 rfl (lv_at hl 1 rfl) ?_
      refine lv_iconst (v := -1) hx hb dX7_tell_18 (by decide) ?_
      obtain ⟨q19, e19, hf⟩ := g_be hf
      refine g_calli X (g_runV (As := [.int a1, .int (-1 : Int32)]) (rest := []) C X (cC__holdsNone l E A ad w q19.2 q19.1 a1 (-1 : Int32) e19) kX7_holdsNone m_354 0 5 rfl rfl hl.1 rfl ⟨Nat.le_of_ble_eq_true rfl, Nat.le_of_ble_eq_true rfl⟩ rfl (Nat.le_of_ble_eq_true rfl) dX7_tell_19 ⟨Nat.le_of_ble_eq_true rfl, Nat.le_of_ble_eq_true rfl⟩) rfl rfl (fun H locs X => ?_)
      refine lv_if_eq (tgt := 27) hx hb dX7_tell_22 (by decide) (fun c22 => ?_) (fun c22 => ?_)
      · have hf := g_t hf c22
        refine lv_aload_n hx hb dX7_tell_27 rfl (lv_at hl 0 rfl) ?_
        refine g_get C X g_iX7 0 rfl rfl 0 (by decide) rfl m_148 rfl dX7_tell_28 ?_
        refine lv_iload_n hx hb dX7_tell_31 rfl (lv_at hl 1 rfl) ?_
        obtain ⟨q32, e32, hf⟩ := g_be hf
        refine g_calli X (g_runV (As := [.int a1]) (rest := []) C X (cC_S_onShelf l E A ad q19.2 q32.2 q32.1 a1 e32) kX6_onShelf m_333 1 4 rfl rfl hl.1 rfl ⟨Nat.le_of_ble_eq_true rfl, Nat.le_of_ble_eq_true rfl⟩ rfl (Nat.le_of_ble_eq_true rfl) dX7_tell_32 ⟨Nat.le_of_ble_eq_true rfl, Nat.le_of_ble_eq_true rfl⟩) rfl rfl (fun H locs X => ?_)
        refine lv_istore_n (lv' := [(3, .int q32.1), (0, .ref (ad 0)), (1, .int a1), (2, .int a2)]) hx hb dX7_tell_35 rfl hl (by decide) rfl (fun ls hl => ?_)
        refine lv_iload_n hx hb dX7_tell_36 rfl (lv_at hl 3 rfl) ?_
        refine lv_bipush (v := 7) hx hb dX7_tell_37 (by decide) ?_
        refine lv_icmp_ne (tgt := 53) hx hb dX7_tell_39 (by decide) (fun c39 => ?_) (fun c39 => ?_)
        · have hf := g_f hf c39
          refine lv_aload_n hx hb dX7_tell_53 rfl (lv_at hl 1 rfl) ?_
          refine g_get C X g_iX7 0 rfl rfl 0 (by decide) rfl m_148 rfl dX7_tell_54 ?_
          refine lv_iload_n hx hb dX7_tell_57 rfl (lv_at hl 0 rfl) ?_
          refine lv_iload_n hx hb dX7_tell_58 rfl (lv_at hl 3 rfl) ?_
          obtain ⟨q59, e59, hf⟩ := g_be hf
          refine g_calli X (g_runV (As := [.int q32.1, .int a2]) (rest := []) C X (cC_S_trait l E A ad q32.2 q59.2 q59.1 q32.1 a2 e59) kX6_trait m_399 1 4 rfl rfl hl.1 rfl ⟨Nat.le_of_ble_eq_true rfl, Nat.le_of_ble_eq_true rfl⟩ rfl (Nat.le_of_ble_eq_true rfl) dX7_tell_59 ⟨Nat.le_of_ble_eq_true rfl, Nat.le_of_ble_eq_true rfl⟩) rfl rfl (fun H locs X => ?_)
          exact g_iret (wsC E ad) C hr hk X hf dX7_tell_62
        · have hf := g_t hf c39
          refine lv_aload_n hx hb dX7_tell_42 rfl (lv_at hl 1 rfl) ?_
          refine g_get C X g_iX7 0 rfl rfl 0 (by decide) rfl m_148 rfl dX7_tell_43 ?_
          refine lv_iload_n hx hb dX7_tell_46 rfl (lv_at hl 0 rfl) ?_
          obtain ⟨q47, e47, hf⟩ := g_be hf
          refine g_calli X (g_runS (As := [.ref (ad 1), .int q32.1]) (rest := []) C X (cC_Ru_load l E A ad q32.2 q47.2 q47.1 q32.1 e47) kX4_load m_611 hl.1 rfl ⟨Nat.le_of_ble_eq_true rfl, Nat.le_of_ble_eq_true rfl⟩ rfl (Nat.le_of_ble_eq_true rfl) dX7_tell_47 ⟨Nat.le_of_ble_eq_true rfl, Nat.le_of_ble_eq_true rfl⟩) rfl rfl (fun H locs X => ?_)
          refine lv_goto (tgt := 62) hx hb dX7_tell_50 (by decide) ?_
          exact g_iret (wsC E ad) C hr hk X hf dX7_tell_62
      · have hf := g_f hf c22
        refine lv_iconst (v := 0) hx hb dX7_tell_25 (by decide) ?_
        exact g_iret (wsC E ad) C hr hk X hf dX7_tell_26
    · have hf := g_f hf c7
      refine lv_aload_n hx hb dX7_tell_10 rfl (lv_at hl 0 rfl) ?_
      refine lv_iconst (v := 1) hx hb dX7_tell_11 (by decide) ?_
      obtain ⟨q12, e12, hf⟩ := g_be hf
      refine g_calli X (g_runV (As := [.int (1 : Int32)]) (rest := []) C X (cC__refuse l E A ad w q12.2 q12.1 (1 : Int32) e12) kX7_refuse m_204 0 5 rfl rfl hl.1 rfl ⟨Nat.le_of_ble_eq_true rfl, Nat.le_of_ble_eq_true rfl⟩ rfl (Nat.le_of_ble_eq_true rfl) dX7_tell_12 ⟨Nat.le_of_ble_eq_true rfl, Nat.le_of_ble_eq_true rfl⟩) rfl rfl (fun H locs X => ?_)
      exact g_iret (wsC E ad) C hr hk X hf dX7_tell_15
set_option maxRecDepth 100000 in
set_option maxHeartbeats 4000000 in
theorem cC__why (l : Launch) (E : g_Env) (A : Nat → Prop) (ad : Nat → Nat) (w : CS) (w' : CS) (r : Int32)  (hf : fC__why w  = some (r, w')) : g_Mi l yX7_why cX7_why 1 ((some .int)) ({ frames := 0, cells := 0, slots := 0, locals := 0 }) E A [.ref (ad 0)] (wsC E ad w) r (wsC E ad w') := by
  refine g_start (by decide) (Nat.le_of_ble_eq_true rfl) ?_
  intro p e s m below meth c C hr hk hnm ls hl H locs X
  have hx := C.1.1
  have hb := C.1.2.1
  have hl : lv_has ls 1 [(0, .ref (ad 0))] := hl
  unfold fC__why at hf
  refine lv_aload_n hx hb dX7_why_0 rfl (lv_at hl 0 rfl) ?_
  refine g_get C X g_iX7 0 rfl rfl 3 (by decide) rfl m_151 rfl dX7_why_1 ?_
  exact g_iret (wsC E ad) C hr hk X hf dX7_why_4
