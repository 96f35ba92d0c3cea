set_option maxRecDepth 100000 in
set_option maxHeartbeats 4000000 in
theorem cR_copyOver (l : Launch) (E : g_Env) (A : Nat → Prop) (o : Nat) (ad : Nat → Nat) (w : RS) (w' : RS) (r : Int32) (a1 : Int32) (a2 : Int32) (a3 : Int32) (a4 : Int32) (a5 : Int32) (hf : fR_copyOver w a1 a2 a3 a4 a5 = some (r, w')) : g_Mi l yX8_copyOver cX8_copyOver 9 ((some .int)) ({ frames := 3, cells := 0, slots := 0, locals := 70 }) E A [.ref o, .int a1, .int a2, .int a3, .int a4, .int a5] (wsR E o ad w) r (wsR E o ad w') := by
  refine g_start (by decide) (Nat.le_of_ble_eq_true rfl) ?_
  intro p e s m below meth c C hr hk hnm ls hl H locs X
  have hx := C.1.1
  have hb := C.1.2.1
  have hl : lv_has ls 9 [(0, .ref o), (1, .int a1), (2, .int a2), (3, .int a3), (4, .int a4), (5, .int a5)] := hl
  have j96 : ∀ (n : Nat) (w : RS) (x4 : Int32) (x5 : Int32) (x7 : Int32) (x8 : Int32) (ls : Array Slot) (H : Heap) (locs : List Loc), fR_copyOver_96 n w x4 x5 x7 x8 = some (r, w') → lv_has ls 9 [(0, .ref o), (4, .int x4), (5, .int x5), (7, .int x7), (8, .int x8)] → g_W E A s H locs (wsR E o ad w) → W p l e ({ frames := 3, cells := 0, slots := 0, locals := 70 }) s m ([.ref o, .int a1, .int a2, .int a3, .int a4, .int a5] : List Value).toArray below meth c H locs 0 0 (MQ below (va_Qi (fun (r' : Int32) (u' : va_W) => r' = r ∧ u' = wsR E o ad w') (g_B E A) A) ([.ref o, .int a1, .int a2, .int a3, .int a4, .int a5] : List Value).toArray s 0 0 A) (F0 m 96 ls []) := by
    intro n
    induction n with
    | zero => intro w x4 x5 x7 x8 ls H locs hf; exact absurd hf (by simp [fR_copyOver_96])
    | succ n96 ih96 =>
      intro w x4 x5 x7 x8 ls H locs hf hl X
      have j143 : ∀ (w : RS) (x4 : Int32) (x5 : Int32) (x7 : Int32) (x8 : Int32) (ls : Array Slot) (H : Heap) (locs : List Loc), fR_copyOver_143 (fR_copyOver_96 n96) w x4 x5 x7 x8 = some (r, w') → lv_has ls 9 [(0, .ref o), (4, .int x4), (5, .int x5), (7, .int x7), (8, .int x8)] → g_W E A s H locs (wsR E o ad w) → W p l e ({ frames := 3, cells := 0, slots := 0, locals := 70 }) s m ([.ref o, .int a1, .int a2, .int a3, .int a4, .int a5] : List Value).toArray below meth c H locs 0 0 (MQ below (va_Qi (fun (r' : Int32) (u' : va_W) => r' = r ∧ u' = wsR E o ad w') (g_B E A) A) ([.ref o, .int a1, .int a2, .int a3, .int a4, .int a5] : List Value).toArray s 0 0 A) (F0 m 143 ls []) := by
        intro w x4 x5 x7 x8 ls H locs hf hl X
        unfold fR_copyOver_143 at hf
        refine lv_aload_n hx hb dX8_copyOver_143 rfl (lv_at hl 0 rfl) ?_
        refine g_get C X g_iX8 0 rfl rfl 3 (by decide) rfl m_644 rfl dX8_copyOver_144 ?_
        refine lv_bipush (v := 12) hx hb dX8_copyOver_147 (by decide) ?_
        refine lv_iload hx hb dX8_copyOver_149 (lv_at hl 3 rfl) ?_
        refine lv_imul hx hb dX8_copyOver_151 ?_
        refine lv_iload hx hb dX8_copyOver_152 (lv_at hl 1 rfl) ?_
        refine lv_iadd hx hb dX8_copyOver_154 ?_
        refine lv_iload hx hb dX8_copyOver_155 (lv_at hl 4 rfl) ?_
        refine lv_iadd hx hb dX8_copyOver_157 ?_
        refine lv_aload_n hx hb dX8_copyOver_158 rfl (lv_at hl 0 rfl) ?_
        refine g_get C X g_iX8 0 rfl rfl 16 (by decide) rfl m_657 rfl dX8_copyOver_159 ?_
        refine lv_iload hx hb dX8_copyOver_162 (lv_at hl 4 rfl) ?_
        obtain ⟨h164, hf⟩ := g_cke hf
        obtain ⟨v164, e164, hf⟩ := g_le hf
        refine g_lald C X 11 rfl h164 e164 dX8_copyOver_164 ?_
        obtain ⟨h165, hf⟩ := g_cke hf
        obtain ⟨w165, e165, hf⟩ := g_le hf
        refine g_last C X 4 rfl h165 dX8_copyOver_165 (ws2 := wsR E o ad w165) (by subst e165; rfl) (fun H locs X => ?_)
        refine lv_iinc (v := x8 + (1 : Int32)) (lv' := [(8, .int (x8 + (1 : Int32))), (0, .ref o), (4, .int x4), (5, .int x5), (7, .int x7)]) hx hb dX8_copyOver_166 hl (k := 4) rfl rfl (by decide) rfl (fun ls hl => ?_)
        refine lv_goto (tgt := 96) hx hb dX8_copyOver_169 (by decide) ?_
        exact ih96 w165 x4 x5 x7 (x8 + (1 : Int32)) ls H locs hf (lv_sub hl [1, 2, 3, 4, 0] rfl) X
      unfold fR_copyOver_96 at hf
      refine lv_iload hx hb dX8_copyOver_96 (lv_at hl 4 rfl) ?_
      refine lv_iload hx hb dX8_copyOver_98 (lv_at hl 2 rfl) ?_
      refine lv_icmp_ge (tgt := 172) hx hb dX8_copyOver_100 (by decide) (fun c100 => ?_) (fun c100 => ?_)
      · have hf := g_t hf c100
        refine lv_iload hx hb dX8_copyOver_172 (lv_at hl 2 rfl) ?_
        exact g_iret (wsR E o ad) C hr hk X hf dX8_copyOver_174
      · have hf := g_f hf c100
        refine lv_aload_n hx hb dX8_copyOver_103 rfl (lv_at hl 0 rfl) ?_
        refine lv_iload hx hb dX8_copyOver_104 (lv_at hl 3 rfl) ?_
        obtain ⟨q106, e106, hf⟩ := g_be hf
        refine g_calli X (g_runV (As := [.int x7]) (rest := []) C X (cR_kindOf l E A o ad w q106.2 q106.1 x7 e106) kX8_kindOf m_764 0 6 rfl rfl hl.1 rfl ⟨Nat.le_of_ble_eq_true rfl, Nat.le_of_ble_eq_true rfl⟩ rfl (Nat.le_of_ble_eq_true rfl) dX8_copyOver_106 ⟨Nat.le_of_ble_eq_true rfl, Nat.le_of_ble_eq_true rfl⟩) rfl rfl (fun H locs X => ?_)
        obtain ⟨q109, e109, hf⟩ := g_be hf
        refine g_calli X (g_runS (As := [.int q106.1]) (rest := []) C X (cR_isNumberRow l E A o ad q106.2 q109.2 q109.1 q106.1 e109) kX8_isNumberRow m_799 hl.1 rfl ⟨Nat.le_of_ble_eq_true rfl, Nat.le_of_ble_eq_true rfl⟩ rfl (Nat.le_of_ble_eq_true rfl) dX8_copyOver_109 ⟨Nat.le_of_ble_eq_true rfl, Nat.le_of_ble_eq_true rfl⟩) rfl rfl (fun H locs X => ?_)
        refine lv_if_ne (tgt := 143) hx hb dX8_copyOver_112 (by decide) (fun c112 => ?_) (fun c112 => ?_)
        · have hf := g_f hf c112
          exact j143 q109.2 x4 x5 x7 x8 ls H locs hf (lv_sub hl [0, 1, 2, 3, 4] rfl) X
        · have hf := g_t hf c112
          refine lv_aload_n hx hb dX8_copyOver_115 rfl (lv_at hl 0 rfl) ?_
          refine lv_aload_n hx hb dX8_copyOver_116 rfl (lv_at hl 0 rfl) ?_
          refine lv_iload hx hb dX8_copyOver_117 (lv_at hl 3 rfl) ?_
          obtain ⟨q119, e119, hf⟩ := g_be hf
          refine g_calli X (g_runV (As := [.int x7]) (rest := [.ref o]) C X (cR_kindOf l E A o ad q109.2 q119.2 q119.1 x7 e119) kX8_kindOf m_764 0 6 rfl rfl hl.1 rfl ⟨Nat.le_of_ble_eq_true rfl, Nat.le_of_ble_eq_true rfl⟩ rfl (Nat.le_of_ble_eq_true rfl) dX8_copyOver_119 ⟨Nat.le_of_ble_eq_true rfl, Nat.le_of_ble_eq_true rfl⟩) rfl rfl (fun H locs X => ?_)
          refine lv_aload_n hx hb dX8_copyOver_122 rfl (lv_at hl 0 rfl) ?_
          refine g_get C X g_iX8 0 rfl rfl 16 (by decide) rfl m_657 rfl dX8_copyOver_123 ?_
          refine lv_iload hx hb dX8_copyOver_126 (lv_at hl 4 rfl) ?_
          obtain ⟨h128, hf⟩ := g_cke hf
          obtain ⟨v128, e128, hf⟩ := g_le hf
          refine g_lald C X 11 rfl h128 e128 dX8_copyOver_128 ?_
          obtain ⟨q129, e129, hf⟩ := g_be hf
          refine g_calli X (g_runV (As := [.int q119.1, .long v128]) (rest := []) C X (cR_fits l E A o ad q119.2 q129.2 q129.1 q119.1 v128 e129) kX8_fits m_779 0 6 rfl rfl hl.1 rfl ⟨Nat.le_of_ble_eq_true rfl, Nat.le_of_ble_eq_true rfl⟩ rfl (Nat.le_of_ble_eq_true rfl) dX8_copyOver_129 ⟨Nat.le_of_ble_eq_true rfl, Nat.le_of_ble_eq_true rfl⟩) rfl rfl (fun H locs X => ?_)
          refine lv_if_ne (tgt := 143) hx hb dX8_copyOver_132 (by decide) (fun c132 => ?_) (fun c132 => ?_)
          · have hf := g_f hf c132
            exact j143 q129.2 x4 x5 x7 x8 ls H locs hf (lv_sub hl [0, 1, 2, 3, 4] rfl) X
          · have hf := g_t hf c132
            refine lv_aload_n hx hb dX8_copyOver_135 rfl (lv_at hl 0 rfl) ?_
            refine lv_iconst (v := 5) hx hb dX8_copyOver_136 (by decide) ?_
            obtain ⟨w137, e137, hf⟩ := g_le hf
            refine g_put C X g_iX8 tyX8_ok nmX8 0 rfl rfl 15 (by decide) rfl m_656 rfl rfl rfl (Nat.le_of_ble_eq_true rfl) dX8_copyOver_137 (ws2 := wsR E o ad w137) (by subst e137; rfl) (fun H locs X => ?_)
            refine lv_iload hx hb dX8_copyOver_140 (lv_at hl 4 rfl) ?_
            exact g_iret (wsR E o ad) C hr hk X hf dX8_copyOver_142
  have j55 : ∀ (n : Nat) (w : RS) (x1 : Int32) (x2 : Int32) (x4 : Int32) (x5 : Int32) (x7 : Int32) (x8 : Int32) (ls : Array Slot) (H : Heap) (locs : List Loc), fR_copyOver_55 n w x1 x2 x4 x5 x7 x8 = some (r, w') → lv_has ls 9 [(0, .ref o), (1, .int x1), (2, .int x2), (4, .int x4), (5, .int x5), (7, .int x7), (8, .int x8)] → g_W E A s H locs (wsR E o ad w) → W p l e ({ frames := 3, cells := 0, slots := 0, locals := 70 }) s m ([.ref o, .int a1, .int a2, .int a3, .int a4, .int a5] : List Value).toArray below meth c H locs 0 0 (MQ below (va_Qi (fun (r' : Int32) (u' : va_W) => r' = r ∧ u' = wsR E o ad w') (g_B E A) A) ([.ref o, .int a1, .int a2, .int a3, .int a4, .int a5] : List Value).toArray s 0 0 A) (F0 m 55 ls []) := by
    intro n
    induction n with
    | zero => intro w x1 x2 x4 x5 x7 x8 ls H locs hf; exact absurd hf (by simp [fR_copyOver_55])
    | succ n55 ih55 =>
      intro w x1 x2 x4 x5 x7 x8 ls H locs hf hl X
      unfold fR_copyOver_55 at hf
      refine lv_iload hx hb dX8_copyOver_55 (lv_at hl 6 rfl) ?_
      refine lv_iload hx hb dX8_copyOver_57 (lv_at hl 4 rfl) ?_
      refine lv_icmp_ge (tgt := 93) hx hb dX8_copyOver_59 (by decide) (fun c59 => ?_) (fun c59 => ?_)
      · have hf := g_t hf c59
        refine lv_iconst (v := 0) hx hb dX8_copyOver_93 (by decide) ?_
        refine lv_istore (lv' := [(8, .int (0 : Int32)), (0, .ref o), (1, .int x1), (2, .int x2), (4, .int x4), (5, .int x5), (7, .int x7)]) hx hb dX8_copyOver_94 hl (by decide) rfl (fun ls hl => ?_)
        exact j96 g_fuel w x4 x5 x7 (0 : Int32) ls H locs hf (lv_sub hl [1, 4, 5, 6, 0] rfl) X
      · have hf := g_f hf c59
        refine lv_aload_n hx hb dX8_copyOver_62 rfl (lv_at hl 0 rfl) ?_
        refine g_get C X g_iX8 0 rfl rfl 16 (by decide) rfl m_657 rfl dX8_copyOver_63 ?_
        refine lv_iload hx hb dX8_copyOver_66 (lv_at hl 6 rfl) ?_
        refine lv_aload_n hx hb dX8_copyOver_68 rfl (lv_at hl 0 rfl) ?_
        refine g_get C X g_iX8 0 rfl rfl 3 (by decide) rfl m_644 rfl dX8_copyOver_69 ?_
        refine lv_bipush (v := 12) hx hb dX8_copyOver_72 (by decide) ?_
        refine lv_aload_n hx hb dX8_copyOver_74 rfl (lv_at hl 0 rfl) ?_
        refine lv_iload_n hx hb dX8_copyOver_75 rfl (lv_at hl 1 rfl) ?_
        obtain ⟨q76, e76, hf⟩ := g_be hf
        refine g_calli X (g_runV (As := [.int x1]) (rest := [.int (12 : Int32), .ref (ad 3), .int x8, .ref (ad 16)]) C X (cR_on l E A o ad w q76.2 q76.1 x1 e76) kX8_on m_760 0 6 rfl rfl hl.1 rfl ⟨Nat.le_of_ble_eq_true rfl, Nat.le_of_ble_eq_true rfl⟩ rfl (Nat.le_of_ble_eq_true rfl) dX8_copyOver_76 ⟨Nat.le_of_ble_eq_true rfl, Nat.le_of_ble_eq_true rfl⟩) rfl rfl (fun H locs X => ?_)
        refine lv_imul hx hb dX8_copyOver_79 ?_
        refine lv_iload_n hx hb dX8_copyOver_80 rfl (lv_at hl 2 rfl) ?_
        refine lv_iadd hx hb dX8_copyOver_81 ?_
        refine lv_iload hx hb dX8_copyOver_82 (lv_at hl 6 rfl) ?_
        refine lv_iadd hx hb dX8_copyOver_84 ?_
        obtain ⟨h85, hf⟩ := g_cke hf
        obtain ⟨v85, e85, hf⟩ := g_le hf
        refine g_lald C X 4 rfl h85 e85 dX8_copyOver_85 ?_
        obtain ⟨h86, hf⟩ := g_cke hf
        obtain ⟨w86, e86, hf⟩ := g_le hf
        refine g_last C X 11 rfl h86 dX8_copyOver_86 (ws2 := wsR E o ad w86) (by subst e86; rfl) (fun H locs X => ?_)
        refine lv_iinc (v := x8 + (1 : Int32)) (lv' := [(8, .int (x8 + (1 : Int32))), (0, .ref o), (1, .int x1), (2, .int x2), (4, .int x4), (5, .int x5), (7, .int x7)]) hx hb dX8_copyOver_87 hl (k := 6) rfl rfl (by decide) rfl (fun ls hl => ?_)
        refine lv_goto (tgt := 55) hx hb dX8_copyOver_90 (by decide) ?_
        exact ih55 w86 x1 x2 x4 x5 x7 (x8 + (1 : Int32)) ls H locs hf (lv_sub hl [1, 2, 3, 4, 5, 6, 0] rfl) X
  unfold fR_copyOver at hf
  refine lv_iload_n hx hb dX8_copyOver_0 rfl (lv_at hl 1 rfl) ?_
  obtain ⟨q1, e1, hf⟩ := g_be hf
  refine g_calli X (g_runS (As := [.int a1]) (rest := []) C X (cR_isShelf l E A o ad w q1.2 q1.1 a1 e1) kX8_isShelf m_723 hl.1 rfl ⟨Nat.le_of_ble_eq_true rfl, Nat.le_of_ble_eq_true rfl⟩ rfl (Nat.le_of_ble_eq_true rfl) dX8_copyOver_1 ⟨Nat.le_of_ble_eq_true rfl, Nat.le_of_ble_eq_true rfl⟩) rfl rfl (fun H locs X => ?_)
  refine lv_if_eq (tgt := 14) hx hb dX8_copyOver_4 (by decide) (fun c4 => ?_) (fun c4 => ?_)
  · have hf := g_t hf c4
    refine lv_aload_n hx hb dX8_copyOver_14 rfl (lv_at hl 0 rfl) ?_
    refine lv_iconst (v := 1) hx hb dX8_copyOver_15 (by decide) ?_
    obtain ⟨q16, e16, hf⟩ := g_be hf
    refine g_calli X (g_runV (As := [.int (1 : Int32)]) (rest := []) C X (cR_refuse l E A o ad q1.2 q16.2 q16.1 (1 : Int32) e16) kX8_refuse m_708 0 6 rfl rfl hl.1 rfl ⟨Nat.le_of_ble_eq_true rfl, Nat.le_of_ble_eq_true rfl⟩ rfl (Nat.le_of_ble_eq_true rfl) dX8_copyOver_16 ⟨Nat.le_of_ble_eq_true rfl, Nat.le_of_ble_eq_true rfl⟩) rfl rfl (fun H locs X => ?_)
    exact g_iret (wsR E o ad) C hr hk X hf dX8_copyOver_19
  · have hf := g_f hf c4
    refine lv_iload_n hx hb dX8_copyOver_7 rfl (lv_at hl 3 rfl) ?_
    obtain ⟨q8, e8, hf⟩ := g_be hf
    refine g_calli X (g_runS (As := [.int a3]) (rest := []) C X (cR_isShelf l E A o ad q1.2 q8.2 q8.1 a3 e8) kX8_isShelf m_723 hl.1 rfl ⟨Nat.le_of_ble_eq_true rfl, Nat.le_of_ble_eq_true rfl⟩ rfl (Nat.le_of_ble_eq_true rfl) dX8_copyOver_8 ⟨Nat.le_of_ble_eq_true rfl, Nat.le_of_ble_eq_true rfl⟩) rfl rfl (fun H locs X => ?_)
    refine lv_if_ne (tgt := 20) hx hb dX8_copyOver_11 (by decide) (fun c11 => ?_) (fun c11 => ?_)
    · have hf := g_f hf c11
      refine lv_aload_n hx hb dX8_copyOver_20 rfl (lv_at hl 0 rfl) ?_
      refine lv_iload_n hx hb dX8_copyOver_21 rfl (lv_at hl 1 rfl) ?_
      refine lv_iload_n hx hb dX8_copyOver_22 rfl (lv_at hl 2 rfl) ?_
      refine lv_iload_n hx hb dX8_copyOver_23 rfl (lv_at hl 3 rfl) ?_
      refine lv_iload hx hb dX8_copyOver_24 (lv_at hl 4 rfl) ?_
      refine lv_iload hx hb dX8_copyOver_26 (lv_at hl 5 rfl) ?_
      obtain ⟨q28, e28, hf⟩ := g_be hf
      refine g_calli X (g_runV (As := [.int a1, .int a2, .int a3, .int a4, .int a5]) (rest := []) C X (cR_reasonOfCopy l E A o ad q8.2 q28.2 q28.1 a1 a2 a3 a4 a5 e28) kX8_reasonOfCopy m_795 0 6 rfl rfl hl.1 rfl ⟨Nat.le_of_ble_eq_true rfl, Nat.le_of_ble_eq_true rfl⟩ rfl (Nat.le_of_ble_eq_true rfl) dX8_copyOver_28 ⟨Nat.le_of_ble_eq_true rfl, Nat.le_of_ble_eq_true rfl⟩) rfl rfl (fun H locs X => ?_)
      refine lv_istore (lv' := [(6, .int q28.1), (0, .ref o), (1, .int a1), (2, .int a2), (3, .int a3), (4, .int a4), (5, .int a5)]) hx hb dX8_copyOver_31 hl (by decide) rfl (fun ls hl => ?_)
      refine lv_iload hx hb dX8_copyOver_33 (lv_at hl 0 rfl) ?_
      refine lv_if_le (tgt := 45) hx hb dX8_copyOver_35 (by decide) (fun c35 => ?_) (fun c35 => ?_)
      · have hf := g_t hf c35
        refine lv_aload_n hx hb dX8_copyOver_45 rfl (lv_at hl 1 rfl) ?_
        refine lv_iload_n hx hb dX8_copyOver_46 rfl (lv_at hl 4 rfl) ?_
        obtain ⟨q47, e47, hf⟩ := g_be hf
        refine g_calli X (g_runV (As := [.int a3]) (rest := []) C X (cR_on l E A o ad q28.2 q47.2 q47.1 a3 e47) kX8_on m_760 0 6 rfl rfl hl.1 rfl ⟨Nat.le_of_ble_eq_true rfl, Nat.le_of_ble_eq_true rfl⟩ rfl (Nat.le_of_ble_eq_true rfl) dX8_copyOver_47 ⟨Nat.le_of_ble_eq_true rfl, Nat.le_of_ble_eq_true rfl⟩) rfl rfl (fun H locs X => ?_)
        refine lv_istore (lv' := [(7, .int q47.1), (6, .int q28.1), (0, .ref o), (1, .int a1), (2, .int a2), (3, .int a3), (4, .int a4), (5, .int a5)]) hx hb dX8_copyOver_50 hl (by decide) rfl (fun ls hl => ?_)
        refine lv_iconst (v := 0) hx hb dX8_copyOver_52 (by decide) ?_
        refine lv_istore (lv' := [(8, .int (0 : Int32)), (7, .int q47.1), (6, .int q28.1), (0, .ref o), (1, .int a1), (2, .int a2), (3, .int a3), (4, .int a4), (5, .int a5)]) hx hb dX8_copyOver_53 hl (by decide) rfl (fun ls hl => ?_)
        exact j55 g_fuel q47.2 a1 a2 a4 a5 q47.1 (0 : Int32) ls H locs hf (lv_sub hl [3, 4, 5, 7, 8, 1, 0] rfl) X
      · have hf := g_f hf c35
        refine lv_aload_n hx hb dX8_copyOver_38 rfl (lv_at hl 1 rfl) ?_
        refine lv_iload hx hb dX8_copyOver_39 (lv_at hl 0 rfl) ?_
        obtain ⟨q41, e41, hf⟩ := g_be hf
        refine g_calli X (g_runV (As := [.int q28.1]) (rest := []) C X (cR_refuse l E A o ad q28.2 q41.2 q41.1 q28.1 e41) kX8_refuse m_708 0 6 rfl rfl hl.1 rfl ⟨Nat.le_of_ble_eq_true rfl, Nat.le_of_ble_eq_true rfl⟩ rfl (Nat.le_of_ble_eq_true rfl) dX8_copyOver_41 ⟨Nat.le_of_ble_eq_true rfl, Nat.le_of_ble_eq_true rfl⟩) rfl rfl (fun H locs X => ?_)
        exact g_iret (wsR E o ad) C hr hk X hf dX8_copyOver_44
    · have hf := g_t hf c11
      refine lv_aload_n hx hb dX8_copyOver_14 rfl (lv_at hl 0 rfl) ?_
      refine lv_iconst (v := 1) hx hb dX8_copyOver_15 (by decide) ?_
      obtain ⟨q16, e16, hf⟩ := g_be hf
      refine g_calli X (g_runV (As := [.int (1 : Int32)]) (rest := []) C X (cR_refuse l E A o ad q8.2 q16.2 q16.1 (1 : Int32) e16) kX8_refuse m_708 0 6 rfl rfl hl.1 rfl ⟨Nat.le_of_ble_eq_true rfl, Nat.le_of_ble_eq_true rfl⟩ rfl (Nat.le_of_ble_eq_true rfl) dX8_copyOver_16 ⟨Nat.le_of_ble_eq_true rfl, Nat.le_of_ble_eq_true rfl⟩) rfl rfl (fun H locs X => ?_)
      exact g_iret (wsR E o ad) C hr hk X hf dX8_copyOver_19
set_option maxRecDepth 100000 in
set_option maxHeartbeats 4000000 in
theorem cR_writeIn (l : Launch) (E : g_Env) (A : Nat → Prop) (o : Nat) (ad : Nat → Nat) (w : RS) (w' : RS) (r : Int32) (a1 : Int32) (a2 : Int32) (a3 : Int64) (hf : fR_writeIn w a1 a2 a3 = some (r, w')) : g_Mi l yX8_writeIn cX8_writeIn 6 ((some .int)) ({ frames := 2, cells := 0, slots := 0, locals := 43 }) E A [.ref o, .int a1, .int a2, .long a3] (wsR E o ad w) r (wsR E o ad w') := by
  refine g_start (by decide) (Nat.le_of_ble_eq_true rfl) ?_
  intro p e s m below meth c C hr hk hnm ls hl H locs X
  have hx := C.1.1
  have hb := C.1.2.1
  have hl : lv_has ls 6 [(0, .ref o), (1, .int a1), (2, .int a2), (3, .long a3)] := hl
  unfold fR_writeIn at hf
  refine lv_iload_n hx hb dX8_writeIn_0 rfl (lv_at hl 1 rfl) ?_
  obtain ⟨q1, e1, hf⟩ := g_be hf
  refine g_calli X (g_runS (As := [.int a1]) (rest := []) C X (cR_isShelf l E A o ad w q1.2 q1.1 a1 e1) kX8_isShelf m_723 hl.1 rfl ⟨Nat.le_of_ble_eq_true rfl, Nat.le_of_ble_eq_true rfl⟩ rfl (Nat.le_of_ble_eq_true rfl) dX8_writeIn_1 ⟨Nat.le_of_ble_eq_true rfl, Nat.le_of_ble_eq_true rfl⟩) rfl rfl (fun H locs X => ?_)
  refine lv_if_ne (tgt := 13) hx hb dX8_writeIn_4 (by decide) (fun c4 => ?_) (fun c4 => ?_)
  · have hf := g_f hf c4
    refine lv_aload_n hx hb dX8_writeIn_13 rfl (lv_at hl 0 rfl) ?_
    refine lv_iload_n hx hb dX8_writeIn_14 rfl (lv_at hl 1 rfl) ?_
    obtain ⟨q15, e15, hf⟩ := g_be hf
    refine g_calli X (g_runV (As := [.int a1]) (rest := []) C X (cR_on l E A o ad q1.2 q15.2 q15.1 a1 e15) kX8_on m_760 0 6 rfl rfl hl.1 rfl ⟨Nat.le_of_ble_eq_true rfl, Nat.le_of_ble_eq_true rfl⟩ rfl (Nat.le_of_ble_eq_true rfl) dX8_writeIn_15 ⟨Nat.le_of_ble_eq_true rfl, Nat.le_of_ble_eq_true rfl⟩) rfl rfl (fun H locs X => ?_)
    refine lv_if_ge (tgt := 27) hx hb dX8_writeIn_18 (by decide) (fun c18 => ?_) (fun c18 => ?_)
    · have hf := g_t hf c18
      refine lv_aload_n hx hb dX8_writeIn_27 rfl (lv_at hl 0 rfl) ?_
      refine lv_aload_n hx hb dX8_writeIn_28 rfl (lv_at hl 0 rfl) ?_
      refine lv_iload_n hx hb dX8_writeIn_29 rfl (lv_at hl 1 rfl) ?_
      obtain ⟨q30, e30, hf⟩ := g_be hf
      refine g_calli X (g_runV (As := [.int a1]) (rest := [.ref o]) C X (cR_on l E A o ad q15.2 q30.2 q30.1 a1 e30) kX8_on m_760 0 6 rfl rfl hl.1 rfl ⟨Nat.le_of_ble_eq_true rfl, Nat.le_of_ble_eq_true rfl⟩ rfl (Nat.le_of_ble_eq_true rfl) dX8_writeIn_30 ⟨Nat.le_of_ble_eq_true rfl, Nat.le_of_ble_eq_true rfl⟩) rfl rfl (fun H locs X => ?_)
      obtain ⟨q33, e33, hf⟩ := g_be hf
      refine g_calli X (g_runV (As := [.int q30.1]) (rest := []) C X (cR_kindOf l E A o ad q30.2 q33.2 q33.1 q30.1 e33) kX8_kindOf m_764 0 6 rfl rfl hl.1 rfl ⟨Nat.le_of_ble_eq_true rfl, Nat.le_of_ble_eq_true rfl⟩ rfl (Nat.le_of_ble_eq_true rfl) dX8_writeIn_33 ⟨Nat.le_of_ble_eq_true rfl, Nat.le_of_ble_eq_true rfl⟩) rfl rfl (fun H locs X => ?_)
      refine lv_istore (lv' := [(5, .int q33.1), (0, .ref o), (1, .int a1), (2, .int a2), (3, .long a3)]) hx hb dX8_writeIn_36 hl (by decide) rfl (fun ls hl => ?_)
      refine lv_iload hx hb dX8_writeIn_38 (lv_at hl 0 rfl) ?_
      obtain ⟨q40, e40, hf⟩ := g_be hf
      refine g_calli X (g_runS (As := [.int q33.1]) (rest := []) C X (cR_isNumberRow l E A o ad q33.2 q40.2 q40.1 q33.1 e40) kX8_isNumberRow m_799 hl.1 rfl ⟨Nat.le_of_ble_eq_true rfl, Nat.le_of_ble_eq_true rfl⟩ rfl (Nat.le_of_ble_eq_true rfl) dX8_writeIn_40 ⟨Nat.le_of_ble_eq_true rfl, Nat.le_of_ble_eq_true rfl⟩) rfl rfl (fun H locs X => ?_)
      refine lv_if_ne (tgt := 52) hx hb dX8_writeIn_43 (by decide) (fun c43 => ?_) (fun c43 => ?_)
      · have hf := g_f hf c43
        refine lv_aload_n hx hb dX8_writeIn_52 rfl (lv_at hl 1 rfl) ?_
        refine lv_aload_n hx hb dX8_writeIn_53 rfl (lv_at hl 1 rfl) ?_
        refine lv_iload_n hx hb dX8_writeIn_54 rfl (lv_at hl 2 rfl) ?_
        obtain ⟨q55, e55, hf⟩ := g_be hf
        refine g_calli X (g_runV (As := [.int a1]) (rest := [.ref o]) C X (cR_on l E A o ad q40.2 q55.2 q55.1 a1 e55) kX8_on m_760 0 6 rfl rfl hl.1 rfl ⟨Nat.le_of_ble_eq_true rfl, Nat.le_of_ble_eq_true rfl⟩ rfl (Nat.le_of_ble_eq_true rfl) dX8_writeIn_55 ⟨Nat.le_of_ble_eq_true rfl, Nat.le_of_ble_eq_true rfl⟩) rfl rfl (fun H locs X => ?_)
        refine lv_iload_n hx hb dX8_writeIn_58 rfl (lv_at hl 3 rfl) ?_
        obtain ⟨q59, e59, hf⟩ := g_be hf
        refine g_calli X (g_runV (As := [.int q55.1, .int a2]) (rest := []) C X (cR_hasPlace l E A o ad q55.2 q59.2 q59.1 q55.1 a2 e59) kX8_hasPlace m_771 0 6 rfl rfl hl.1 rfl ⟨Nat.le_of_ble_eq_true rfl, Nat.le_of_ble_eq_true rfl⟩ rfl (Nat.le_of_ble_eq_true rfl) dX8_writeIn_59 ⟨Nat.le_of_ble_eq_true rfl, Nat.le_of_ble_eq_true rfl⟩) rfl rfl (fun H locs X => ?_)
        refine lv_if_ne (tgt := 71) hx hb dX8_writeIn_62 (by decide) (fun c62 => ?_) (fun c62 => ?_)
        · have hf := g_f hf c62
          refine lv_aload_n hx hb dX8_writeIn_71 rfl (lv_at hl 1 rfl) ?_
          refine g_get C X g_iX8 0 rfl rfl 3 (by decide) rfl m_644 rfl dX8_writeIn_72 ?_
          refine lv_bipush (v := 12) hx hb dX8_writeIn_75 (by decide) ?_
          refine lv_aload_n hx hb dX8_writeIn_77 rfl (lv_at hl 1 rfl) ?_
          refine lv_iload_n hx hb dX8_writeIn_78 rfl (lv_at hl 2 rfl) ?_
          obtain ⟨q79, e79, hf⟩ := g_be hf
          refine g_calli X (g_runV (As := [.int a1]) (rest := [.int (12 : Int32), .ref (ad 3)]) C X (cR_on l E A o ad q59.2 q79.2 q79.1 a1 e79) kX8_on m_760 0 6 rfl rfl hl.1 rfl ⟨Nat.le_of_ble_eq_true rfl, Nat.le_of_ble_eq_true rfl⟩ rfl (Nat.le_of_ble_eq_true rfl) dX8_writeIn_79 ⟨Nat.le_of_ble_eq_true rfl, Nat.le_of_ble_eq_true rfl⟩) rfl rfl (fun H locs X => ?_)
          refine lv_imul hx hb dX8_writeIn_82 ?_
          refine lv_iload_n hx hb dX8_writeIn_83 rfl (lv_at hl 3 rfl) ?_
          refine lv_iadd hx hb dX8_writeIn_84 ?_
          refine lv_iload hx hb dX8_writeIn_85 (lv_at hl 0 rfl) ?_
          refine lv_bipush (v := 13) hx hb dX8_writeIn_87 (by decide) ?_
          refine lv_icmp_ne (tgt := 98) hx hb dX8_writeIn_89 (by decide) (fun c89 => ?_) (fun c89 => ?_)
          · have hf := g_f hf c89
            refine lv_iload hx hb dX8_writeIn_98 (lv_at hl 0 rfl) ?_
            refine lv_bipush (v := 14) hx hb dX8_writeIn_100 (by decide) ?_
            refine lv_icmp_ne (tgt := 112) hx hb dX8_writeIn_102 (by decide) (fun c102 => ?_) (fun c102 => ?_)
            · have hf := g_f hf c102
              refine lv_lload_n hx hb dX8_writeIn_112 rfl (lv_at hl 4 rfl) ?_
              obtain ⟨h113, hf⟩ := g_cke hf
              obtain ⟨w113, e113, hf⟩ := g_le hf
              refine g_last C X 4 rfl h113 dX8_writeIn_113 (ws2 := wsR E o ad w113) (by subst e113; rfl) (fun H locs X => ?_)
              refine lv_iconst (v := 1) hx hb dX8_writeIn_114 (by decide) ?_
              exact g_iret (wsR E o ad) C hr hk X hf dX8_writeIn_115
            · have hf := g_t hf c102
              refine lv_lload_n hx hb dX8_writeIn_105 rfl (lv_at hl 4 rfl) ?_
              refine lv_l2i hx hb dX8_writeIn_106 rfl ?_
              refine lv_i2b hx hb dX8_writeIn_107 rfl ?_
              refine lv_i2l hx hb dX8_writeIn_108 rfl ?_
              refine lv_goto (tgt := 113) hx hb dX8_writeIn_109 (by decide) ?_
              obtain ⟨h113, hf⟩ := g_cke hf
              obtain ⟨w113, e113, hf⟩ := g_le hf
              refine g_last C X 4 rfl h113 dX8_writeIn_113 (ws2 := wsR E o ad w113) (by subst e113; rfl) (fun H locs X => ?_)
              refine lv_iconst (v := 1) hx hb dX8_writeIn_114 (by decide) ?_
              exact g_iret (wsR E o ad) C hr hk X hf dX8_writeIn_115
          · have hf := g_t hf c89
            refine lv_lload_n hx hb dX8_writeIn_92 rfl (lv_at hl 4 rfl) ?_
            refine lv_l2i hx hb dX8_writeIn_93 rfl ?_
            refine lv_i2l hx hb dX8_writeIn_94 rfl ?_
            refine lv_goto (tgt := 113) hx hb dX8_writeIn_95 (by decide) ?_
            obtain ⟨h113, hf⟩ := g_cke hf
            obtain ⟨w113, e113, hf⟩ := g_le hf
            refine g_last C X 4 rfl h113 dX8_writeIn_113 (ws2 := wsR E o ad w113) (by subst e113; rfl) (fun H locs X => ?_)
            refine lv_iconst (v := 1) hx hb dX8_writeIn_114 (by decide) ?_
            exact g_iret (wsR E o ad) C hr hk X hf dX8_writeIn_115
        · have hf := g_t hf c62
          refine lv_aload_n hx hb dX8_writeIn_65 rfl (lv_at hl 1 rfl) ?_
          refine lv_iconst (v := 4) hx hb dX8_writeIn_66 (by decide) ?_
          obtain ⟨q67, e67, hf⟩ := g_be hf
          refine g_calli X (g_runV (As := [.int (4 : Int32)]) (rest := []) C X (cR_refuse l E A o ad q59.2 q67.2 q67.1 (4 : Int32) e67) kX8_refuse m_708 0 6 rfl rfl hl.1 rfl ⟨Nat.le_of_ble_eq_true rfl, Nat.le_of_ble_eq_true rfl⟩ rfl (Nat.le_of_ble_eq_true rfl) dX8_writeIn_67 ⟨Nat.le_of_ble_eq_true rfl, Nat.le_of_ble_eq_true rfl⟩) rfl rfl (fun H locs X => ?_)
          exact g_iret (wsR E o ad) C hr hk X hf dX8_writeIn_70
      · have hf := g_t hf c43
        refine lv_aload_n hx hb dX8_writeIn_46 rfl (lv_at hl 1 rfl) ?_
        refine lv_iconst (v := 3) hx hb dX8_writeIn_47 (by decide) ?_
        obtain ⟨q48, e48, hf⟩ := g_be hf
        refine g_calli X (g_runV (As := [.int (3 : Int32)]) (rest := []) C X (cR_refuse l E A o ad q40.2 q48.2 q48.1 (3 : Int32) e48) kX8_refuse m_708 0 6 rfl rfl hl.1 rfl ⟨Nat.le_of_ble_eq_true rfl, Nat.le_of_ble_eq_true rfl⟩ rfl (Nat.le_of_ble_eq_true rfl) dX8_writeIn_48 ⟨Nat.le_of_ble_eq_true rfl, Nat.le_of_ble_eq_true rfl⟩) rfl rfl (fun H locs X => ?_)
        exact g_iret (wsR E o ad) C hr hk X hf dX8_writeIn_51
    · have hf := g_f hf c18
      refine lv_aload_n hx hb dX8_writeIn_21 rfl (lv_at hl 0 rfl) ?_
      refine lv_iconst (v := 2) hx hb dX8_writeIn_22 (by decide) ?_
      obtain ⟨q23, e23, hf⟩ := g_be hf
      refine g_calli X (g_runV (As := [.int (2 : Int32)]) (rest := []) C X (cR_refuse l E A o ad q15.2 q23.2 q23.1 (2 : Int32) e23) kX8_refuse m_708 0 6 rfl rfl hl.1 rfl ⟨Nat.le_of_ble_eq_true rfl, Nat.le_of_ble_eq_true rfl⟩ rfl (Nat.le_of_ble_eq_true rfl) dX8_writeIn_23 ⟨Nat.le_of_ble_eq_true rfl, Nat.le_of_ble_eq_true rfl⟩) rfl rfl (fun H locs X => ?_)
      exact g_iret (wsR E o ad) C hr hk X hf dX8_writeIn_26
  · have hf := g_t hf c4
    refine lv_aload_n hx hb dX8_writeIn_7 rfl (lv_at hl 0 rfl) ?_
    refine lv_iconst (v := 1) hx hb dX8_writeIn_8 (by decide) ?_
    obtain ⟨q9, e9, hf⟩ := g_be hf
    refine g_calli X (g_runV (As := [.int (1 : Int32)]) (rest := []) C X (cR_refuse l E A o ad q1.2 q9.2 q9.1 (1 : Int32) e9) kX8_refuse m_708 0 6 rfl rfl hl.1 rfl ⟨Nat.le_of_ble_eq_true rfl, Nat.le_of_ble_eq_true rfl⟩ rfl (Nat.le_of_ble_eq_true rfl) dX8_writeIn_9 ⟨Nat.le_of_ble_eq_true rfl, Nat.le_of_ble_eq_true rfl⟩) rfl rfl (fun H locs X => ?_)
    exact g_iret (wsR E o ad) C hr hk X hf dX8_writeIn_12
set_option maxRecDepth 100000 in
set_option maxHeartbeats 4000000 in
theorem cR_knobTo (l : Launch) (E : g_Env) (A : Nat → Prop) (o : Nat) (ad : Nat → Nat) (w : RS) (w' : RS) (r : Int32) (a1 : Int32) (a2 : Int32) (hf : fR_knobTo w a1 a2 = some (r, w')) : g_Mi l yX8_knobTo cX8_knobTo 4 ((some .int)) ({ frames := 3, cells := 0, slots := 0, locals := 67 }) E A [.ref o, .int a1, .int a2] (wsR E o ad w) r (wsR E o ad w') := by
  refine g_start (by decide) (Nat.le_of_ble_eq_true rfl) ?_
  intro p e s m below meth c C hr hk hnm ls hl H locs X
  have hx := C.1.1
  have hb := C.1.2.1
  have hl : lv_has ls 4 [(0, .ref o), (1, .int a1), (2, .int a2)] := hl
  unfold fR_knobTo at hf
  refine lv_iload_n hx hb dX8_knobTo_0 rfl (lv_at hl 1 rfl) ?_
  obtain ⟨q1, e1, hf⟩ := g_be hf
  refine g_calli X (g_runS (As := [.int a1]) (rest := []) C X (cR_isShelf l E A o ad w q1.2 q1.1 a1 e1) kX8_isShelf m_723 hl.1 rfl ⟨Nat.le_of_ble_eq_true rfl, Nat.le_of_ble_eq_true rfl⟩ rfl (Nat.le_of_ble_eq_true rfl) dX8_knobTo_1 ⟨Nat.le_of_ble_eq_true rfl, Nat.le_of_ble_eq_true rfl⟩) rfl rfl (fun H locs X => ?_)
  refine lv_if_eq (tgt := 21) hx hb dX8_knobTo_4 (by decide) (fun c4 => ?_) (fun c4 => ?_)
  · have hf := g_t hf c4
    refine lv_aload_n hx hb dX8_knobTo_21 rfl (lv_at hl 0 rfl) ?_
    refine lv_iconst (v := 1) hx hb dX8_knobTo_22 (by decide) ?_
    obtain ⟨q23, e23, hf⟩ := g_be hf
    refine g_calli X (g_runV (As := [.int (1 : Int32)]) (rest := []) C X (cR_refuse l E A o ad q1.2 q23.2 q23.1 (1 : Int32) e23) kX8_refuse m_708 0 6 rfl rfl hl.1 rfl ⟨Nat.le_of_ble_eq_true rfl, Nat.le_of_ble_eq_true rfl⟩ rfl (Nat.le_of_ble_eq_true rfl) dX8_knobTo_23 ⟨Nat.le_of_ble_eq_true rfl, Nat.le_of_ble_eq_true rfl⟩) rfl rfl (fun H locs X => ?_)
    exact g_iret (wsR E o ad) C hr hk X hf dX8_knobTo_26
  · have hf := g_f hf c4
    refine lv_iload_n hx hb dX8_knobTo_7 rfl (lv_at hl 2 rfl) ?_
    refine lv_sipush (v := -1000) hx hb dX8_knobTo_8 (by decide) ?_
    refine lv_icmp_lt (tgt := 21) hx hb dX8_knobTo_11 (by decide) (fun c11 => ?_) (fun c11 => ?_)
    · have hf := g_t hf c11
      refine lv_aload_n hx hb dX8_knobTo_21 rfl (lv_at hl 0 rfl) ?_
      refine lv_iconst (v := 1) hx hb dX8_knobTo_22 (by decide) ?_
      obtain ⟨q23, e23, hf⟩ := g_be hf
      refine g_calli X (g_runV (As := [.int (1 : Int32)]) (rest := []) C X (cR_refuse l E A o ad q1.2 q23.2 q23.1 (1 : Int32) e23) kX8_refuse m_708 0 6 rfl rfl hl.1 rfl ⟨Nat.le_of_ble_eq_true rfl, Nat.le_of_ble_eq_true rfl⟩ rfl (Nat.le_of_ble_eq_true rfl) dX8_knobTo_23 ⟨Nat.le_of_ble_eq_true rfl, Nat.le_of_ble_eq_true rfl⟩) rfl rfl (fun H locs X => ?_)
      exact g_iret (wsR E o ad) C hr hk X hf dX8_knobTo_26
    · have hf := g_f hf c11
      refine lv_iload_n hx hb dX8_knobTo_14 rfl (lv_at hl 2 rfl) ?_
      refine lv_sipush (v := 1000) hx hb dX8_knobTo_15 (by decide) ?_
      refine lv_icmp_le (tgt := 27) hx hb dX8_knobTo_18 (by decide) (fun c18 => ?_) (fun c18 => ?_)
      · have hf := g_t hf c18
        refine lv_aload_n hx hb dX8_knobTo_27 rfl (lv_at hl 0 rfl) ?_
        refine lv_iload_n hx hb dX8_knobTo_28 rfl (lv_at hl 1 rfl) ?_
        obtain ⟨q29, e29, hf⟩ := g_be hf
        refine g_calli X (g_runV (As := [.int a1]) (rest := []) C X (cR_on l E A o ad q1.2 q29.2 q29.1 a1 e29) kX8_on m_760 0 6 rfl rfl hl.1 rfl ⟨Nat.le_of_ble_eq_true rfl, Nat.le_of_ble_eq_true rfl⟩ rfl (Nat.le_of_ble_eq_true rfl) dX8_knobTo_29 ⟨Nat.le_of_ble_eq_true rfl, Nat.le_of_ble_eq_true rfl⟩) rfl rfl (fun H locs X => ?_)
        refine lv_if_ge (tgt := 41) hx hb dX8_knobTo_32 (by decide) (fun c32 => ?_) (fun c32 => ?_)
        · have hf := g_t hf c32
          refine lv_aload_n hx hb dX8_knobTo_41 rfl (lv_at hl 0 rfl) ?_
          refine lv_aload_n hx hb dX8_knobTo_42 rfl (lv_at hl 0 rfl) ?_
          refine lv_aload_n hx hb dX8_knobTo_43 rfl (lv_at hl 0 rfl) ?_
          refine lv_iload_n hx hb dX8_knobTo_44 rfl (lv_at hl 1 rfl) ?_
          obtain ⟨q45, e45, hf⟩ := g_be hf
          refine g_calli X (g_runV (As := [.int a1]) (rest := [.ref o, .ref o]) C X (cR_on l E A o ad q29.2 q45.2 q45.1 a1 e45) kX8_on m_760 0 6 rfl rfl hl.1 rfl ⟨Nat.le_of_ble_eq_true rfl, Nat.le_of_ble_eq_true rfl⟩ rfl (Nat.le_of_ble_eq_true rfl) dX8_knobTo_45 ⟨Nat.le_of_ble_eq_true rfl, Nat.le_of_ble_eq_true rfl⟩) rfl rfl (fun H locs X => ?_)
          obtain ⟨q48, e48, hf⟩ := g_be hf
          refine g_calli X (g_runV (As := [.int q45.1]) (rest := [.ref o]) C X (cR_kindOf l E A o ad q45.2 q48.2 q48.1 q45.1 e48) kX8_kindOf m_764 0 6 rfl rfl hl.1 rfl ⟨Nat.le_of_ble_eq_true rfl, Nat.le_of_ble_eq_true rfl⟩ rfl (Nat.le_of_ble_eq_true rfl) dX8_knobTo_48 ⟨Nat.le_of_ble_eq_true rfl, Nat.le_of_ble_eq_true rfl⟩) rfl rfl (fun H locs X => ?_)
          obtain ⟨q51, e51, hf⟩ := g_be hf
          refine g_calli X (g_runV (As := [.int q48.1]) (rest := []) C X (cR_isPart l E A o ad q48.2 q51.2 q51.1 q48.1 e51) kX8_isPart m_726 0 6 rfl rfl hl.1 rfl ⟨Nat.le_of_ble_eq_true rfl, Nat.le_of_ble_eq_true rfl⟩ rfl (Nat.le_of_ble_eq_true rfl) dX8_knobTo_51 ⟨Nat.le_of_ble_eq_true rfl, Nat.le_of_ble_eq_true rfl⟩) rfl rfl (fun H locs X => ?_)
          refine lv_if_ne (tgt := 63) hx hb dX8_knobTo_54 (by decide) (fun c54 => ?_) (fun c54 => ?_)
          · have hf := g_f hf c54
            refine lv_aload_n hx hb dX8_knobTo_63 rfl (lv_at hl 0 rfl) ?_
            refine g_get C X g_iX8 0 rfl rfl 2 (by decide) rfl m_643 rfl dX8_knobTo_64 ?_
            refine lv_bipush (v := 120) hx hb dX8_knobTo_67 (by decide) ?_
            refine lv_aload_n hx hb dX8_knobTo_69 rfl (lv_at hl 0 rfl) ?_
            refine lv_iload_n hx hb dX8_knobTo_70 rfl (lv_at hl 1 rfl) ?_
            obtain ⟨q71, e71, hf⟩ := g_be hf
            refine g_calli X (g_runV (As := [.int a1]) (rest := [.int (120 : Int32), .ref (ad 2)]) C X (cR_on l E A o ad q51.2 q71.2 q71.1 a1 e71) kX8_on m_760 0 6 rfl rfl hl.1 rfl ⟨Nat.le_of_ble_eq_true rfl, Nat.le_of_ble_eq_true rfl⟩ rfl (Nat.le_of_ble_eq_true rfl) dX8_knobTo_71 ⟨Nat.le_of_ble_eq_true rfl, Nat.le_of_ble_eq_true rfl⟩) rfl rfl (fun H locs X => ?_)
            refine lv_iadd hx hb dX8_knobTo_74 ?_
            obtain ⟨h75, hf⟩ := g_cke hf
            obtain ⟨v75, e75, hf⟩ := g_le hf
            refine g_iald C X 3 rfl h75 e75 dX8_knobTo_75 ?_
            refine lv_istore_n (lv' := [(3, .int v75), (0, .ref o), (1, .int a1), (2, .int a2)]) hx hb dX8_knobTo_76 rfl hl (by decide) rfl (fun ls hl => ?_)
            refine lv_aload_n hx hb dX8_knobTo_77 rfl (lv_at hl 1 rfl) ?_
            refine g_get C X g_iX8 0 rfl rfl 2 (by decide) rfl m_643 rfl dX8_knobTo_78 ?_
            refine lv_bipush (v := 120) hx hb dX8_knobTo_81 (by decide) ?_
            refine lv_aload_n hx hb dX8_knobTo_83 rfl (lv_at hl 1 rfl) ?_
            refine lv_iload_n hx hb dX8_knobTo_84 rfl (lv_at hl 2 rfl) ?_
            obtain ⟨q85, e85, hf⟩ := g_be hf
            refine g_calli X (g_runV (As := [.int a1]) (rest := [.int (120 : Int32), .ref (ad 2)]) C X (cR_on l E A o ad q71.2 q85.2 q85.1 a1 e85) kX8_on m_760 0 6 rfl rfl hl.1 rfl ⟨Nat.le_of_ble_eq_true rfl, Nat.le_of_ble_eq_true rfl⟩ rfl (Nat.le_of_ble_eq_true rfl) dX8_knobTo_85 ⟨Nat.le_of_ble_eq_true rfl, Nat.le_of_ble_eq_true rfl⟩) rfl rfl (fun H locs X => ?_)
            refine lv_iadd hx hb dX8_knobTo_88 ?_
            refine lv_iload_n hx hb dX8_knobTo_89 rfl (lv_at hl 3 rfl) ?_
            obtain ⟨h90, hf⟩ := g_cke hf
            obtain ⟨w90, e90, hf⟩ := g_le hf
            refine g_iast C X 3 rfl h90 dX8_knobTo_90 (ws2 := wsR E o ad w90) (by subst e90; rfl) (fun H locs X => ?_)
            refine lv_iload_n hx hb dX8_knobTo_91 rfl (lv_at hl 0 rfl) ?_
            exact g_iret (wsR E o ad) C hr hk X hf dX8_knobTo_92
          · have hf := g_t hf c54
            refine lv_aload_n hx hb dX8_knobTo_57 rfl (lv_at hl 0 rfl) ?_
            refine lv_iconst (v := 3) hx hb dX8_knobTo_58 (by decide) ?_
            obtain ⟨q59, e59, hf⟩ := g_be hf
            refine g_calli X (g_runV (As := [.int (3 : Int32)]) (rest := []) C X (cR_refuse l E A o ad q51.2 q59.2 q59.1 (3 : Int32) e59) kX8_refuse m_708 0 6 rfl rfl hl.1 rfl ⟨Nat.le_of_ble_eq_true rfl, Nat.le_of_ble_eq_true rfl⟩ rfl (Nat.le_of_ble_eq_true rfl) dX8_knobTo_59 ⟨Nat.le_of_ble_eq_true rfl, Nat.le_of_ble_eq_true rfl⟩) rfl rfl (fun H locs X => ?_)
            exact g_iret (wsR E o ad) C hr hk X hf dX8_knobTo_62
        · have hf := g_f hf c32
          refine lv_aload_n hx hb dX8_knobTo_35 rfl (lv_at hl 0 rfl) ?_
          refine lv_iconst (v := 2) hx hb dX8_knobTo_36 (by decide) ?_
          obtain ⟨q37, e37, hf⟩ := g_be hf
          refine g_calli X (g_runV (As := [.int (2 : Int32)]) (rest := []) C X (cR_refuse l E A o ad q29.2 q37.2 q37.1 (2 : Int32) e37) kX8_refuse m_708 0 6 rfl rfl hl.1 rfl ⟨Nat.le_of_ble_eq_true rfl, Nat.le_of_ble_eq_true rfl⟩ rfl (Nat.le_of_ble_eq_true rfl) dX8_knobTo_37 ⟨Nat.le_of_ble_eq_true rfl, Nat.le_of_ble_eq_true rfl⟩) rfl rfl (fun H locs X => ?_)
          exact g_iret (wsR E o ad) C hr hk X hf dX8_knobTo_40
      · have hf := g_f hf c18
        refine lv_aload_n hx hb dX8_knobTo_21 rfl (lv_at hl 0 rfl) ?_
        refine lv_iconst (v := 1) hx hb dX8_knobTo_22 (by decide) ?_
        obtain ⟨q23, e23, hf⟩ := g_be hf
        refine g_calli X (g_runV (As := [.int (1 : Int32)]) (rest := []) C X (cR_refuse l E A o ad q1.2 q23.2 q23.1 (1 : Int32) e23) kX8_refuse m_708 0 6 rfl rfl hl.1 rfl ⟨Nat.le_of_ble_eq_true rfl, Nat.le_of_ble_eq_true rfl⟩ rfl (Nat.le_of_ble_eq_true rfl) dX8_knobTo_23 ⟨Nat.le_of_ble_eq_true rfl, Nat.le_of_ble_eq_true rfl⟩) rfl rfl (fun H locs X => ?_)
        exact g_iret (wsR E o ad) C hr hk X hf dX8_knobTo_26
set_option maxRecDepth 100000 in
set_option maxHeartbeats 4000000 in
theorem cR_reasonOfPlay (l : Launch) (E : g_Env) (A : Nat → Prop) (o : Nat) (ad : Nat → Nat) (w : RS) (w' : RS) (r : Int32) (a1 : Int32) (hf : fR_reasonOfPlay w a1 = some (r, w')) : g_Mi l yX8_reasonOfPlay cX8_reasonOfPlay 2 ((some .int)) ({ frames := 4, cells := 0, slots := 0, locals := 88 }) E A [.ref o, .int a1] (wsR E o ad w) r (wsR E o ad w') := by
  refine g_start (by decide) (Nat.le_of_ble_eq_true rfl) ?_
  intro p e s m below meth c C hr hk hnm ls hl H locs X
  have hx := C.1.1
  have hb := C.1.2.1
  have hl : lv_has ls 2 [(0, .ref o), (1, .int a1)] := hl
  unfold fR_reasonOfPlay at hf
  refine lv_iload_n hx hb dX8_reasonOfPlay_0 rfl (lv_at hl 1 rfl) ?_
  obtain ⟨q1, e1, hf⟩ := g_be hf
  refine g_calli X (g_runS (As := [.int a1]) (rest := []) C X (cR_isShelf l E A o ad w q1.2 q1.1 a1 e1) kX8_isShelf m_723 hl.1 rfl ⟨Nat.le_of_ble_eq_true rfl, Nat.le_of_ble_eq_true rfl⟩ rfl (Nat.le_of_ble_eq_true rfl) dX8_reasonOfPlay_1 ⟨Nat.le_of_ble_eq_true rfl, Nat.le_of_ble_eq_true rfl⟩) rfl rfl (fun H locs X => ?_)
  refine lv_if_ne (tgt := 9) hx hb dX8_reasonOfPlay_4 (by decide) (fun c4 => ?_) (fun c4 => ?_)
  · have hf := g_f hf c4
    refine lv_aload_n hx hb dX8_reasonOfPlay_9 rfl (lv_at hl 0 rfl) ?_
    refine lv_iload_n hx hb dX8_reasonOfPlay_10 rfl (lv_at hl 1 rfl) ?_
    obtain ⟨q11, e11, hf⟩ := g_be hf
    refine g_calli X (g_runV (As := [.int a1]) (rest := []) C X (cR_on l E A o ad q1.2 q11.2 q11.1 a1 e11) kX8_on m_760 0 6 rfl rfl hl.1 rfl ⟨Nat.le_of_ble_eq_true rfl, Nat.le_of_ble_eq_true rfl⟩ rfl (Nat.le_of_ble_eq_true rfl) dX8_reasonOfPlay_11 ⟨Nat.le_of_ble_eq_true rfl, Nat.le_of_ble_eq_true rfl⟩) rfl rfl (fun H locs X => ?_)
    refine lv_if_ge (tgt := 19) hx hb dX8_reasonOfPlay_14 (by decide) (fun c14 => ?_) (fun c14 => ?_)
    · have hf := g_t hf c14
      refine lv_aload_n hx hb dX8_reasonOfPlay_19 rfl (lv_at hl 0 rfl) ?_
      refine lv_aload_n hx hb dX8_reasonOfPlay_20 rfl (lv_at hl 0 rfl) ?_
      refine lv_aload_n hx hb dX8_reasonOfPlay_21 rfl (lv_at hl 0 rfl) ?_
      refine lv_iload_n hx hb dX8_reasonOfPlay_22 rfl (lv_at hl 1 rfl) ?_
      obtain ⟨q23, e23, hf⟩ := g_be hf
      refine g_calli X (g_runV (As := [.int a1]) (rest := [.ref o, .ref o]) C X (cR_on l E A o ad q11.2 q23.2 q23.1 a1 e23) kX8_on m_760 0 6 rfl rfl hl.1 rfl ⟨Nat.le_of_ble_eq_true rfl, Nat.le_of_ble_eq_true rfl⟩ rfl (Nat.le_of_ble_eq_true rfl) dX8_reasonOfPlay_23 ⟨Nat.le_of_ble_eq_true rfl, Nat.le_of_ble_eq_true rfl⟩) rfl rfl (fun H locs X => ?_)
      obtain ⟨q26, e26, hf⟩ := g_be hf
      refine g_calli X (g_runV (As := [.int q23.1]) (rest := [.ref o]) C X (cR_kindOf l E A o ad q23.2 q26.2 q26.1 q23.1 e26) kX8_kindOf m_764 0 6 rfl rfl hl.1 rfl ⟨Nat.le_of_ble_eq_true rfl, Nat.le_of_ble_eq_true rfl⟩ rfl (Nat.le_of_ble_eq_true rfl) dX8_reasonOfPlay_26 ⟨Nat.le_of_ble_eq_true rfl, Nat.le_of_ble_eq_true rfl⟩) rfl rfl (fun H locs X => ?_)
      obtain ⟨q29, e29, hf⟩ := g_be hf
      refine g_calli X (g_runV (As := [.int q26.1]) (rest := []) C X (cR_isPlayed l E A o ad q26.2 q29.2 q29.1 q26.1 e29) kX8_isPlayed m_818 0 6 rfl rfl hl.1 rfl ⟨Nat.le_of_ble_eq_true rfl, Nat.le_of_ble_eq_true rfl⟩ rfl (Nat.le_of_ble_eq_true rfl) dX8_reasonOfPlay_29 ⟨Nat.le_of_ble_eq_true rfl, Nat.le_of_ble_eq_true rfl⟩) rfl rfl (fun H locs X => ?_)
      refine lv_if_eq (tgt := 39) hx hb dX8_reasonOfPlay_32 (by decide) (fun c32 => ?_) (fun c32 => ?_)
      · have hf := g_t hf c32
        refine lv_iconst (v := 3) hx hb dX8_reasonOfPlay_39 (by decide) ?_
        exact g_iret (wsR E o ad) C hr hk X hf dX8_reasonOfPlay_40
      · have hf := g_f hf c32
        refine lv_iconst (v := 0) hx hb dX8_reasonOfPlay_35 (by decide) ?_
        refine lv_goto (tgt := 40) hx hb dX8_reasonOfPlay_36 (by decide) ?_
        exact g_iret (wsR E o ad) C hr hk X hf dX8_reasonOfPlay_40
    · have hf := g_f hf c14
      refine lv_iconst (v := 2) hx hb dX8_reasonOfPlay_17 (by decide) ?_
      exact g_iret (wsR E o ad) C hr hk X hf dX8_reasonOfPlay_18
  · have hf := g_t hf c4
    refine lv_iconst (v := 1) hx hb dX8_reasonOfPlay_7 (by decide) ?_
    exact g_iret (wsR E o ad) C hr hk X hf dX8_reasonOfPlay_8
set_option maxRecDepth 100000 in
set_option maxHeartbeats 4000000 in
theorem cR_playBy (l : Launch) (E : g_Env) (A : Nat → Prop) (o : Nat) (ad : Nat → Nat) (w : RS) (w' : RS) (r : Int32) (a1 : Int32) (a2 : Int32) (hf : fR_playBy w a1 a2 = some (r, w')) : g_Mi l yX8_playBy cX8_playBy 4 ((some .int)) ({ frames := 5, cells := 0, slots := 0, locals := 117 }) E A [.ref o, .int a1, .int a2] (wsR E o ad w) r (wsR E o ad w') := by
  refine g_start (by decide) (Nat.le_of_ble_eq_true rfl) ?_
  intro p e s m below meth c C hr hk hnm ls hl H locs X
  have hx := C.1.1
  have hb := C.1.2.1
  have hl : lv_has ls 4 [(0, .ref o), (1, .int a1), (2, .int a2)] := hl
  unfold fR_playBy at hf
  refine lv_aload_n hx hb dX8_playBy_0 rfl (lv_at hl 0 rfl) ?_
  refine lv_iload_n hx hb dX8_playBy_1 rfl (lv_at hl 1 rfl) ?_
  obtain ⟨q2, e2, hf⟩ := g_be hf
  refine g_calli X (g_runV (As := [.int a1]) (rest := []) C X (cR_reasonOfPlay l E A o ad w q2.2 q2.1 a1 e2) kX8_reasonOfPlay m_814 0 6 rfl rfl hl.1 rfl ⟨Nat.le_of_ble_eq_true rfl, Nat.le_of_ble_eq_true rfl⟩ rfl (Nat.le_of_ble_eq_true rfl) dX8_playBy_2 ⟨Nat.le_of_ble_eq_true rfl, Nat.le_of_ble_eq_true rfl⟩) rfl rfl (fun H locs X => ?_)
  refine lv_istore_n (lv' := [(3, .int q2.1), (0, .ref o), (1, .int a1), (2, .int a2)]) hx hb dX8_playBy_5 rfl hl (by decide) rfl (fun ls hl => ?_)
  refine lv_iload_n hx hb dX8_playBy_6 rfl (lv_at hl 0 rfl) ?_
  refine lv_if_le (tgt := 16) hx hb dX8_playBy_7 (by decide) (fun c7 => ?_) (fun c7 => ?_)
  · have hf := g_t hf c7
    refine lv_aload_n hx hb dX8_playBy_16 rfl (lv_at hl 1 rfl) ?_
    refine lv_aload_n hx hb dX8_playBy_17 rfl (lv_at hl 1 rfl) ?_
    refine lv_iload_n hx hb dX8_playBy_18 rfl (lv_at hl 2 rfl) ?_
    obtain ⟨q19, e19, hf⟩ := g_be hf
    refine g_calli X (g_runV (As := [.int a1]) (rest := [.ref o]) C X (cR_on l E A o ad q2.2 q19.2 q19.1 a1 e19) kX8_on m_760 0 6 rfl rfl hl.1 rfl ⟨Nat.le_of_ble_eq_true rfl, Nat.le_of_ble_eq_true rfl⟩ rfl (Nat.le_of_ble_eq_true rfl) dX8_playBy_19 ⟨Nat.le_of_ble_eq_true rfl, Nat.le_of_ble_eq_true rfl⟩) rfl rfl (fun H locs X => ?_)
    refine lv_iload_n hx hb dX8_playBy_22 rfl (lv_at hl 3 rfl) ?_
    obtain ⟨q23, e23, hf⟩ := g_be hf
    refine g_calli X (g_runV (As := [.int q19.1, .int a2]) (rest := []) C X (cR_playThing l E A o ad q19.2 q23.2 q23.1 q19.1 a2 e23) kX8_playThing m_822 0 6 rfl rfl hl.1 rfl ⟨Nat.le_of_ble_eq_true rfl, Nat.le_of_ble_eq_true rfl⟩ rfl (Nat.le_of_ble_eq_true rfl) dX8_playBy_23 ⟨Nat.le_of_ble_eq_true rfl, Nat.le_of_ble_eq_true rfl⟩) rfl rfl (fun H locs X => ?_)
    exact g_iret (wsR E o ad) C hr hk X hf dX8_playBy_26
  · have hf := g_f hf c7
    refine lv_aload_n hx hb dX8_playBy_10 rfl (lv_at hl 1 rfl) ?_
    refine lv_iload_n hx hb dX8_playBy_11 rfl (lv_at hl 0 rfl) ?_
    obtain ⟨q12, e12, hf⟩ := g_be hf
    refine g_calli X (g_runV (As := [.int q2.1]) (rest := []) C X (cR_refuse l E A o ad q2.2 q12.2 q12.1 q2.1 e12) kX8_refuse m_708 0 6 rfl rfl hl.1 rfl ⟨Nat.le_of_ble_eq_true rfl, Nat.le_of_ble_eq_true rfl⟩ rfl (Nat.le_of_ble_eq_true rfl) dX8_playBy_12 ⟨Nat.le_of_ble_eq_true rfl, Nat.le_of_ble_eq_true rfl⟩) rfl rfl (fun H locs X => ?_)
    exact g_iret (wsR E o ad) C hr hk X hf dX8_playBy_15
set_option maxRecDepth 100000 in
set_option maxHeartbeats 4000000 in
theorem cR_runOver (l : Launch) (E : g_Env) (A : Nat → Prop) (o : Nat) (ad : Nat → Nat) (w : RS) (w' : RS) (r : Int32) (a1 : Int32) (a2 : Int32) (hf : fR_runOver w a1 a2 = some (r, w')) : g_Mi l yX8_runOver cX8_runOver 5 ((some .int)) ({ frames := 5, cells := 0, slots := 0, locals := 117 }) E A [.ref o, .int a1, .int a2] (wsR E o ad w) r (wsR E o ad w') := by
  refine g_start (by decide) (Nat.le_of_ble_eq_true rfl) ?_
  intro p e s m below meth c C hr hk hnm ls hl H locs X
  have hx := C.1.1
  have hb := C.1.2.1
  have hl : lv_has ls 5 [(0, .ref o), (1, .int a1), (2, .int a2)] := hl
  have j87 : ∀ (n : Nat) (w : RS) (x1 : Int32) (x3 : Int32) (x4 : Int32) (ls : Array Slot) (H : Heap) (locs : List Loc), fR_runOver_87 n w x1 x3 x4 = some (r, w') → lv_has ls 5 [(0, .ref o), (1, .int x1), (3, .int x3), (4, .int x4)] → g_W E A s H locs (wsR E o ad w) → W p l e ({ frames := 5, cells := 0, slots := 0, locals := 117 }) s m ([.ref o, .int a1, .int a2] : List Value).toArray below meth c H locs 0 0 (MQ below (va_Qi (fun (r' : Int32) (u' : va_W) => r' = r ∧ u' = wsR E o ad w') (g_B E A) A) ([.ref o, .int a1, .int a2] : List Value).toArray s 0 0 A) (F0 m 87 ls []) := by
    intro n
    induction n with
    | zero => intro w x1 x3 x4 ls H locs hf; exact absurd hf (by simp [fR_runOver_87])
    | succ n87 ih87 =>
      intro w x1 x3 x4 ls H locs hf hl X
      unfold fR_runOver_87 at hf
      refine lv_iload hx hb dX8_runOver_87 (lv_at hl 3 rfl) ?_
      refine lv_aload_n hx hb dX8_runOver_89 rfl (lv_at hl 0 rfl) ?_
      refine lv_iload_n hx hb dX8_runOver_90 rfl (lv_at hl 2 rfl) ?_
      obtain ⟨q91, e91, hf⟩ := g_be hf
      refine g_calli X (g_runV (As := [.int x3]) (rest := [.int x4]) C X (cR_lengthOf l E A o ad w q91.2 q91.1 x3 e91) kX8_lengthOf m_775 0 6 rfl rfl hl.1 rfl ⟨Nat.le_of_ble_eq_true rfl, Nat.le_of_ble_eq_true rfl⟩ rfl (Nat.le_of_ble_eq_true rfl) dX8_runOver_91 ⟨Nat.le_of_ble_eq_true rfl, Nat.le_of_ble_eq_true rfl⟩) rfl rfl (fun H locs X => ?_)
      refine lv_icmp_ge (tgt := 138) hx hb dX8_runOver_94 (by decide) (fun c94 => ?_) (fun c94 => ?_)
      · have hf := g_t hf c94
        refine lv_aload_n hx hb dX8_runOver_138 rfl (lv_at hl 0 rfl) ?_
        refine lv_iload_n hx hb dX8_runOver_139 rfl (lv_at hl 2 rfl) ?_
        obtain ⟨q140, e140, hf⟩ := g_be hf
        refine g_calli X (g_runV (As := [.int x3]) (rest := []) C X (cR_lengthOf l E A o ad q91.2 q140.2 q140.1 x3 e140) kX8_lengthOf m_775 0 6 rfl rfl hl.1 rfl ⟨Nat.le_of_ble_eq_true rfl, Nat.le_of_ble_eq_true rfl⟩ rfl (Nat.le_of_ble_eq_true rfl) dX8_runOver_140 ⟨Nat.le_of_ble_eq_true rfl, Nat.le_of_ble_eq_true rfl⟩) rfl rfl (fun H locs X => ?_)
        exact g_iret (wsR E o ad) C hr hk X hf dX8_runOver_143
      · have hf := g_f hf c94
        refine lv_aload_n hx hb dX8_runOver_97 rfl (lv_at hl 0 rfl) ?_
        refine g_get C X g_iX8 0 rfl rfl 3 (by decide) rfl m_644 rfl dX8_runOver_98 ?_
        refine lv_bipush (v := 12) hx hb dX8_runOver_101 (by decide) ?_
        refine lv_iload_n hx hb dX8_runOver_103 rfl (lv_at hl 2 rfl) ?_
        refine lv_imul hx hb dX8_runOver_104 ?_
        refine lv_iload hx hb dX8_runOver_105 (lv_at hl 3 rfl) ?_
        refine lv_iadd hx hb dX8_runOver_107 ?_
        refine lv_aload_n hx hb dX8_runOver_108 rfl (lv_at hl 0 rfl) ?_
        refine lv_aload_n hx hb dX8_runOver_109 rfl (lv_at hl 0 rfl) ?_
        refine lv_iload_n hx hb dX8_runOver_110 rfl (lv_at hl 1 rfl) ?_
        obtain ⟨q111, e111, hf⟩ := g_be hf
        refine g_calli X (g_runV (As := [.int x1]) (rest := [.ref o, .int (((12 : Int32) * x3) + x4), .ref (ad 3)]) C X (cR_on l E A o ad q91.2 q111.2 q111.1 x1 e111) kX8_on m_760 0 6 rfl rfl hl.1 rfl ⟨Nat.le_of_ble_eq_true rfl, Nat.le_of_ble_eq_true rfl⟩ rfl (Nat.le_of_ble_eq_true rfl) dX8_runOver_111 ⟨Nat.le_of_ble_eq_true rfl, Nat.le_of_ble_eq_true rfl⟩) rfl rfl (fun H locs X => ?_)
        refine lv_aload_n hx hb dX8_runOver_114 rfl (lv_at hl 0 rfl) ?_
        refine g_get C X g_iX8 0 rfl rfl 3 (by decide) rfl m_644 rfl dX8_runOver_115 ?_
        refine lv_bipush (v := 12) hx hb dX8_runOver_118 (by decide) ?_
        refine lv_iload_n hx hb dX8_runOver_120 rfl (lv_at hl 2 rfl) ?_
        refine lv_imul hx hb dX8_runOver_121 ?_
        refine lv_iload hx hb dX8_runOver_122 (lv_at hl 3 rfl) ?_
        refine lv_iadd hx hb dX8_runOver_124 ?_
        obtain ⟨h125, hf⟩ := g_cke hf
        obtain ⟨v125, e125, hf⟩ := g_le hf
        refine g_lald C X 4 rfl h125 e125 dX8_runOver_125 ?_
        refine lv_l2i hx hb dX8_runOver_126 rfl ?_
        obtain ⟨q127, e127, hf⟩ := g_be hf
        refine g_calli X (g_runV (As := [.int q111.1, .int v125.toInt32]) (rest := [.int (((12 : Int32) * x3) + x4), .ref (ad 3)]) C X (cR_playThing l E A o ad q111.2 q127.2 q127.1 q111.1 v125.toInt32 e127) kX8_playThing m_822 0 6 rfl rfl hl.1 rfl ⟨Nat.le_of_ble_eq_true rfl, Nat.le_of_ble_eq_true rfl⟩ rfl (Nat.le_of_ble_eq_true rfl) dX8_runOver_127 ⟨Nat.le_of_ble_eq_true rfl, Nat.le_of_ble_eq_true rfl⟩) rfl rfl (fun H locs X => ?_)
        refine lv_i2l hx hb dX8_runOver_130 rfl ?_
        obtain ⟨h131, hf⟩ := g_cke hf
        obtain ⟨w131, e131, hf⟩ := g_le hf
        refine g_last C X 4 rfl h131 dX8_runOver_131 (ws2 := wsR E o ad w131) (by subst e131; rfl) (fun H locs X => ?_)
        refine lv_iinc (v := x4 + (1 : Int32)) (lv' := [(4, .int (x4 + (1 : Int32))), (0, .ref o), (1, .int x1), (3, .int x3)]) hx hb dX8_runOver_132 hl (k := 3) rfl rfl (by decide) rfl (fun ls hl => ?_)
        refine lv_goto (tgt := 87) hx hb dX8_runOver_135 (by decide) ?_
        exact ih87 w131 x1 x3 (x4 + (1 : Int32)) ls H locs hf (lv_sub hl [1, 2, 3, 0] rfl) X
  unfold fR_runOver at hf
  refine lv_iload_n hx hb dX8_runOver_0 rfl (lv_at hl 1 rfl) ?_
  obtain ⟨q1, e1, hf⟩ := g_be hf
  refine g_calli X (g_runS (As := [.int a1]) (rest := []) C X (cR_isShelf l E A o ad w q1.2 q1.1 a1 e1) kX8_isShelf m_723 hl.1 rfl ⟨Nat.le_of_ble_eq_true rfl, Nat.le_of_ble_eq_true rfl⟩ rfl (Nat.le_of_ble_eq_true rfl) dX8_runOver_1 ⟨Nat.le_of_ble_eq_true rfl, Nat.le_of_ble_eq_true rfl⟩) rfl rfl (fun H locs X => ?_)
  refine lv_if_eq (tgt := 14) hx hb dX8_runOver_4 (by decide) (fun c4 => ?_) (fun c4 => ?_)
  · have hf := g_t hf c4
    refine lv_aload_n hx hb dX8_runOver_14 rfl (lv_at hl 0 rfl) ?_
    refine lv_iconst (v := 1) hx hb dX8_runOver_15 (by decide) ?_
    obtain ⟨q16, e16, hf⟩ := g_be hf
    refine g_calli X (g_runV (As := [.int (1 : Int32)]) (rest := []) C X (cR_refuse l E A o ad q1.2 q16.2 q16.1 (1 : Int32) e16) kX8_refuse m_708 0 6 rfl rfl hl.1 rfl ⟨Nat.le_of_ble_eq_true rfl, Nat.le_of_ble_eq_true rfl⟩ rfl (Nat.le_of_ble_eq_true rfl) dX8_runOver_16 ⟨Nat.le_of_ble_eq_true rfl, Nat.le_of_ble_eq_true rfl⟩) rfl rfl (fun H locs X => ?_)
    exact g_iret (wsR E o ad) C hr hk X hf dX8_runOver_19
  · have hf := g_f hf c4
    refine lv_iload_n hx hb dX8_runOver_7 rfl (lv_at hl 2 rfl) ?_
    obtain ⟨q8, e8, hf⟩ := g_be hf
    refine g_calli X (g_runS (As := [.int a2]) (rest := []) C X (cR_isShelf l E A o ad q1.2 q8.2 q8.1 a2 e8) kX8_isShelf m_723 hl.1 rfl ⟨Nat.le_of_ble_eq_true rfl, Nat.le_of_ble_eq_true rfl⟩ rfl (Nat.le_of_ble_eq_true rfl) dX8_runOver_8 ⟨Nat.le_of_ble_eq_true rfl, Nat.le_of_ble_eq_true rfl⟩) rfl rfl (fun H locs X => ?_)
    refine lv_if_ne (tgt := 20) hx hb dX8_runOver_11 (by decide) (fun c11 => ?_) (fun c11 => ?_)
    · have hf := g_f hf c11
      refine lv_aload_n hx hb dX8_runOver_20 rfl (lv_at hl 0 rfl) ?_
      refine lv_iload_n hx hb dX8_runOver_21 rfl (lv_at hl 1 rfl) ?_
      obtain ⟨q22, e22, hf⟩ := g_be hf
      refine g_calli X (g_runV (As := [.int a1]) (rest := []) C X (cR_on l E A o ad q8.2 q22.2 q22.1 a1 e22) kX8_on m_760 0 6 rfl rfl hl.1 rfl ⟨Nat.le_of_ble_eq_true rfl, Nat.le_of_ble_eq_true rfl⟩ rfl (Nat.le_of_ble_eq_true rfl) dX8_runOver_22 ⟨Nat.le_of_ble_eq_true rfl, Nat.le_of_ble_eq_true rfl⟩) rfl rfl (fun H locs X => ?_)
      refine lv_if_lt (tgt := 36) hx hb dX8_runOver_25 (by decide) (fun c25 => ?_) (fun c25 => ?_)
      · have hf := g_t hf c25
        refine lv_aload_n hx hb dX8_runOver_36 rfl (lv_at hl 0 rfl) ?_
        refine lv_iconst (v := 2) hx hb dX8_runOver_37 (by decide) ?_
        obtain ⟨q38, e38, hf⟩ := g_be hf
        refine g_calli X (g_runV (As := [.int (2 : Int32)]) (rest := []) C X (cR_refuse l E A o ad q22.2 q38.2 q38.1 (2 : Int32) e38) kX8_refuse m_708 0 6 rfl rfl hl.1 rfl ⟨Nat.le_of_ble_eq_true rfl, Nat.le_of_ble_eq_true rfl⟩ rfl (Nat.le_of_ble_eq_true rfl) dX8_runOver_38 ⟨Nat.le_of_ble_eq_true rfl, Nat.le_of_ble_eq_true rfl⟩) rfl rfl (fun H locs X => ?_)
        exact g_iret (wsR E o ad) C hr hk X hf dX8_runOver_41
      · have hf := g_f hf c25
        refine lv_aload_n hx hb dX8_runOver_28 rfl (lv_at hl 0 rfl) ?_
        refine lv_iload_n hx hb dX8_runOver_29 rfl (lv_at hl 2 rfl) ?_
        obtain ⟨q30, e30, hf⟩ := g_be hf
        refine g_calli X (g_runV (As := [.int a2]) (rest := []) C X (cR_on l E A o ad q22.2 q30.2 q30.1 a2 e30) kX8_on m_760 0 6 rfl rfl hl.1 rfl ⟨Nat.le_of_ble_eq_true rfl, Nat.le_of_ble_eq_true rfl⟩ rfl (Nat.le_of_ble_eq_true rfl) dX8_runOver_30 ⟨Nat.le_of_ble_eq_true rfl, Nat.le_of_ble_eq_true rfl⟩) rfl rfl (fun H locs X => ?_)
        refine lv_if_ge (tgt := 42) hx hb dX8_runOver_33 (by decide) (fun c33 => ?_) (fun c33 => ?_)
        · have hf := g_t hf c33
          refine lv_aload_n hx hb dX8_runOver_42 rfl (lv_at hl 0 rfl) ?_
          refine lv_aload_n hx hb dX8_runOver_43 rfl (lv_at hl 0 rfl) ?_
          refine lv_aload_n hx hb dX8_runOver_44 rfl (lv_at hl 0 rfl) ?_
          refine lv_iload_n hx hb dX8_runOver_45 rfl (lv_at hl 1 rfl) ?_
          obtain ⟨q46, e46, hf⟩ := g_be hf
          refine g_calli X (g_runV (As := [.int a1]) (rest := [.ref o, .ref o]) C X (cR_on l E A o ad q30.2 q46.2 q46.1 a1 e46) kX8_on m_760 0 6 rfl rfl hl.1 rfl ⟨Nat.le_of_ble_eq_true rfl, Nat.le_of_ble_eq_true rfl⟩ rfl (Nat.le_of_ble_eq_true rfl) dX8_runOver_46 ⟨Nat.le_of_ble_eq_true rfl, Nat.le_of_ble_eq_true rfl⟩) rfl rfl (fun H locs X => ?_)
          obtain ⟨q49, e49, hf⟩ := g_be hf
          refine g_calli X (g_runV (As := [.int q46.1]) (rest := [.ref o]) C X (cR_kindOf l E A o ad q46.2 q49.2 q49.1 q46.1 e49) kX8_kindOf m_764 0 6 rfl rfl hl.1 rfl ⟨Nat.le_of_ble_eq_true rfl, Nat.le_of_ble_eq_true rfl⟩ rfl (Nat.le_of_ble_eq_true rfl) dX8_runOver_49 ⟨Nat.le_of_ble_eq_true rfl, Nat.le_of_ble_eq_true rfl⟩) rfl rfl (fun H locs X => ?_)
          obtain ⟨q52, e52, hf⟩ := g_be hf
          refine g_calli X (g_runV (As := [.int q49.1]) (rest := []) C X (cR_isPlayed l E A o ad q49.2 q52.2 q52.1 q49.1 e52) kX8_isPlayed m_818 0 6 rfl rfl hl.1 rfl ⟨Nat.le_of_ble_eq_true rfl, Nat.le_of_ble_eq_true rfl⟩ rfl (Nat.le_of_ble_eq_true rfl) dX8_runOver_52 ⟨Nat.le_of_ble_eq_true rfl, Nat.le_of_ble_eq_true rfl⟩) rfl rfl (fun H locs X => ?_)
          refine lv_if_eq (tgt := 72) hx hb dX8_runOver_55 (by decide) (fun c55 => ?_) (fun c55 => ?_)
          · have hf := g_t hf c55
            refine lv_aload_n hx hb dX8_runOver_72 rfl (lv_at hl 0 rfl) ?_
            refine lv_iconst (v := 3) hx hb dX8_runOver_73 (by decide) ?_
            obtain ⟨q74, e74, hf⟩ := g_be hf
            refine g_calli X (g_runV (As := [.int (3 : Int32)]) (rest := []) C X (cR_refuse l E A o ad q52.2 q74.2 q74.1 (3 : Int32) e74) kX8_refuse m_708 0 6 rfl rfl hl.1 rfl ⟨Nat.le_of_ble_eq_true rfl, Nat.le_of_ble_eq_true rfl⟩ rfl (Nat.le_of_ble_eq_true rfl) dX8_runOver_74 ⟨Nat.le_of_ble_eq_true rfl, Nat.le_of_ble_eq_true rfl⟩) rfl rfl (fun H locs X => ?_)
            exact g_iret (wsR E o ad) C hr hk X hf dX8_runOver_77
          · have hf := g_f hf c55
            refine lv_aload_n hx hb dX8_runOver_58 rfl (lv_at hl 0 rfl) ?_
            refine lv_aload_n hx hb dX8_runOver_59 rfl (lv_at hl 0 rfl) ?_
            refine lv_iload_n hx hb dX8_runOver_60 rfl (lv_at hl 2 rfl) ?_
            obtain ⟨q61, e61, hf⟩ := g_be hf
            refine g_calli X (g_runV (As := [.int a2]) (rest := [.ref o]) C X (cR_on l E A o ad q52.2 q61.2 q61.1 a2 e61) kX8_on m_760 0 6 rfl rfl hl.1 rfl ⟨Nat.le_of_ble_eq_true rfl, Nat.le_of_ble_eq_true rfl⟩ rfl (Nat.le_of_ble_eq_true rfl) dX8_runOver_61 ⟨Nat.le_of_ble_eq_true rfl, Nat.le_of_ble_eq_true rfl⟩) rfl rfl (fun H locs X => ?_)
            obtain ⟨q64, e64, hf⟩ := g_be hf
            refine g_calli X (g_runV (As := [.int q61.1]) (rest := []) C X (cR_kindOf l E A o ad q61.2 q64.2 q64.1 q61.1 e64) kX8_kindOf m_764 0 6 rfl rfl hl.1 rfl ⟨Nat.le_of_ble_eq_true rfl, Nat.le_of_ble_eq_true rfl⟩ rfl (Nat.le_of_ble_eq_true rfl) dX8_runOver_64 ⟨Nat.le_of_ble_eq_true rfl, Nat.le_of_ble_eq_true rfl⟩) rfl rfl (fun H locs X => ?_)
            refine lv_bipush (v := 13) hx hb dX8_runOver_67 (by decide) ?_
            refine lv_icmp_eq (tgt := 78) hx hb dX8_runOver_69 (by decide) (fun c69 => ?_) (fun c69 => ?_)
            · have hf := g_t hf c69
              refine lv_aload_n hx hb dX8_runOver_78 rfl (lv_at hl 0 rfl) ?_
              refine lv_iload_n hx hb dX8_runOver_79 rfl (lv_at hl 2 rfl) ?_
              obtain ⟨q80, e80, hf⟩ := g_be hf
              refine g_calli X (g_runV (As := [.int a2]) (rest := []) C X (cR_on l E A o ad q64.2 q80.2 q80.1 a2 e80) kX8_on m_760 0 6 rfl rfl hl.1 rfl ⟨Nat.le_of_ble_eq_true rfl, Nat.le_of_ble_eq_true rfl⟩ rfl (Nat.le_of_ble_eq_true rfl) dX8_runOver_80 ⟨Nat.le_of_ble_eq_true rfl, Nat.le_of_ble_eq_true rfl⟩) rfl rfl (fun H locs X => ?_)
              refine lv_istore_n (lv' := [(3, .int q80.1), (0, .ref o), (1, .int a1), (2, .int a2)]) hx hb dX8_runOver_83 rfl hl (by decide) rfl (fun ls hl => ?_)
              refine lv_iconst (v := 0) hx hb dX8_runOver_84 (by decide) ?_
              refine lv_istore (lv' := [(4, .int (0 : Int32)), (3, .int q80.1), (0, .ref o), (1, .int a1), (2, .int a2)]) hx hb dX8_runOver_85 hl (by decide) rfl (fun ls hl => ?_)
              exact j87 g_fuel q80.2 a1 q80.1 (0 : Int32) ls H locs hf (lv_sub hl [2, 3, 1, 0] rfl) X
            · have hf := g_f hf c69
              refine lv_aload_n hx hb dX8_runOver_72 rfl (lv_at hl 0 rfl) ?_
              refine lv_iconst (v := 3) hx hb dX8_runOver_73 (by decide) ?_
              obtain ⟨q74, e74, hf⟩ := g_be hf
              refine g_calli X (g_runV (As := [.int (3 : Int32)]) (rest := []) C X (cR_refuse l E A o ad q64.2 q74.2 q74.1 (3 : Int32) e74) kX8_refuse m_708 0 6 rfl rfl hl.1 rfl ⟨Nat.le_of_ble_eq_true rfl, Nat.le_of_ble_eq_true rfl⟩ rfl (Nat.le_of_ble_eq_true rfl) dX8_runOver_74 ⟨Nat.le_of_ble_eq_true rfl, Nat.le_of_ble_eq_true rfl⟩) rfl rfl (fun H locs X => ?_)
              exact g_iret (wsR E o ad) C hr hk X hf dX8_runOver_77
        · have hf := g_f hf c33
          refine lv_aload_n hx hb dX8_runOver_36 rfl (lv_at hl 0 rfl) ?_
          refine lv_iconst (v := 2) hx hb dX8_runOver_37 (by decide) ?_
          obtain ⟨q38, e38, hf⟩ := g_be hf
          refine g_calli X (g_runV (As := [.int (2 : Int32)]) (rest := []) C X (cR_refuse l E A o ad q30.2 q38.2 q38.1 (2 : Int32) e38) kX8_refuse m_708 0 6 rfl rfl hl.1 rfl ⟨Nat.le_of_ble_eq_true rfl, Nat.le_of_ble_eq_true rfl⟩ rfl (Nat.le_of_ble_eq_true rfl) dX8_runOver_38 ⟨Nat.le_of_ble_eq_true rfl, Nat.le_of_ble_eq_true rfl⟩) rfl rfl (fun H locs X => ?_)
          exact g_iret (wsR E o ad) C hr hk X hf dX8_runOver_41
    · have hf := g_t hf c11
      refine lv_aload_n hx hb dX8_runOver_14 rfl (lv_at hl 0 rfl) ?_
      refine lv_iconst (v := 1) hx hb dX8_runOver_15 (by decide) ?_
      obtain ⟨q16, e16, hf⟩ := g_be hf
      refine g_calli X (g_runV (As := [.int (1 : Int32)]) (rest := []) C X (cR_refuse l E A o ad q8.2 q16.2 q16.1 (1 : Int32) e16) kX8_refuse m_708 0 6 rfl rfl hl.1 rfl ⟨Nat.le_of_ble_eq_true rfl, Nat.le_of_ble_eq_true rfl⟩ rfl (Nat.le_of_ble_eq_true rfl) dX8_runOver_16 ⟨Nat.le_of_ble_eq_true rfl, Nat.le_of_ble_eq_true rfl⟩) rfl rfl (fun H locs X => ?_)
      exact g_iret (wsR E o ad) C hr hk X hf dX8_runOver_19
set_option maxRecDepth 100000 in
set_option maxHeartbeats 4000000 in
theorem cR_ticksBy (l : Launch) (E : g_Env) (A : Nat → Prop) (o : Nat) (ad : Nat → Nat) (w : RS) (w' : RS) (r : Int32) (a1 : Int32) (a2 : Int32) (hf : fR_ticksBy w a1 a2 = some (r, w')) : g_Mi l yX8_ticksBy cX8_ticksBy 7 ((some .int)) ({ frames := 2, cells := 0, slots := 0, locals := 46 }) E A [.ref o, .int a1, .int a2] (wsR E o ad w) r (wsR E o ad w') := by
  refine g_start (by decide) (Nat.le_of_ble_eq_true rfl) ?_
  intro p e s m below meth c C hr hk hnm ls hl H locs X
  have hx := C.1.1
  have hb := C.1.2.1
  have hl : lv_has ls 7 [(0, .ref o), (1, .int a1), (2, .int a2)] := hl
  have j90 : ∀ (n : Nat) (w : RS) (x2 : Int32) (x3 : Int32) (x4 : Int32) (x5 : Int32) (ls : Array Slot) (H : Heap) (locs : List Loc), fR_ticksBy_90 n w x2 x3 x4 x5 = some (r, w') → lv_has ls 7 [(0, .ref o), (2, .int x2), (3, .int x3), (4, .int x4), (5, .int x5)] → g_W E A s H locs (wsR E o ad w) → W p l e ({ frames := 2, cells := 0, slots := 0, locals := 46 }) s m ([.ref o, .int a1, .int a2] : List Value).toArray below meth c H locs 0 0 (MQ below (va_Qi (fun (r' : Int32) (u' : va_W) => r' = r ∧ u' = wsR E o ad w') (g_B E A) A) ([.ref o, .int a1, .int a2] : List Value).toArray s 0 0 A) (F0 m 90 ls []) := by
    intro n
    induction n with
    | zero => intro w x2 x3 x4 x5 ls H locs hf; exact absurd hf (by simp [fR_ticksBy_90])
    | succ n90 ih90 =>
      intro w x2 x3 x4 x5 ls H locs hf hl X
      have j126 : ∀ (w : RS) (x2 : Int32) (x3 : Int32) (x4 : Int32) (x5 : Int32) (ls : Array Slot) (H : Heap) (locs : List Loc), fR_ticksBy_126 (fR_ticksBy_90 n90) w x2 x3 x4 x5 = some (r, w') → lv_has ls 7 [(0, .ref o), (2, .int x2), (3, .int x3), (4, .int x4), (5, .int x5)] → g_W E A s H locs (wsR E o ad w) → W p l e ({ frames := 2, cells := 0, slots := 0, locals := 46 }) s m ([.ref o, .int a1, .int a2] : List Value).toArray below meth c H locs 0 0 (MQ below (va_Qi (fun (r' : Int32) (u' : va_W) => r' = r ∧ u' = wsR E o ad w') (g_B E A) A) ([.ref o, .int a1, .int a2] : List Value).toArray s 0 0 A) (F0 m 126 ls []) := by
        intro w x2 x3 x4 x5 ls H locs hf hl X
        unfold fR_ticksBy_126 at hf
        refine lv_iinc (v := x5 + (1 : Int32)) (lv' := [(5, .int (x5 + (1 : Int32))), (0, .ref o), (2, .int x2), (3, .int x3), (4, .int x4)]) hx hb dX8_ticksBy_126 hl (k := 4) rfl rfl (by decide) rfl (fun ls hl => ?_)
        refine lv_goto (tgt := 90) hx hb dX8_ticksBy_129 (by decide) ?_
        exact ih90 w x2 x3 x4 (x5 + (1 : Int32)) ls H locs hf (lv_sub hl [1, 2, 3, 4, 0] rfl) X
      unfold fR_ticksBy_90 at hf
      refine lv_iload hx hb dX8_ticksBy_90 (lv_at hl 4 rfl) ?_
      refine lv_aload_n hx hb dX8_ticksBy_92 rfl (lv_at hl 0 rfl) ?_
      refine lv_iload_n hx hb dX8_ticksBy_93 rfl (lv_at hl 2 rfl) ?_
      obtain ⟨q94, e94, hf⟩ := g_be hf
      refine g_calli X (g_runV (As := [.int x3]) (rest := [.int x5]) C X (cR_lengthOf l E A o ad w q94.2 q94.1 x3 e94) kX8_lengthOf m_775 0 6 rfl rfl hl.1 rfl ⟨Nat.le_of_ble_eq_true rfl, Nat.le_of_ble_eq_true rfl⟩ rfl (Nat.le_of_ble_eq_true rfl) dX8_ticksBy_94 ⟨Nat.le_of_ble_eq_true rfl, Nat.le_of_ble_eq_true rfl⟩) rfl rfl (fun H locs X => ?_)
      refine lv_icmp_ge (tgt := 132) hx hb dX8_ticksBy_97 (by decide) (fun c97 => ?_) (fun c97 => ?_)
      · have hf := g_t hf c97
        refine lv_iload hx hb dX8_ticksBy_132 (lv_at hl 3 rfl) ?_
        exact g_iret (wsR E o ad) C hr hk X hf dX8_ticksBy_134
      · have hf := g_f hf c97
        refine lv_aload_n hx hb dX8_ticksBy_100 rfl (lv_at hl 0 rfl) ?_
        refine lv_iload_n hx hb dX8_ticksBy_101 rfl (lv_at hl 2 rfl) ?_
        refine lv_iload hx hb dX8_ticksBy_102 (lv_at hl 4 rfl) ?_
        obtain ⟨q104, e104, hf⟩ := g_be hf
        refine g_calli X (g_runV (As := [.int x3, .int x5]) (rest := []) C X (cR_thingAt l E A o ad q94.2 q104.2 q104.1 x3 x5 e104) kX8_thingAt m_783 0 6 rfl rfl hl.1 rfl ⟨Nat.le_of_ble_eq_true rfl, Nat.le_of_ble_eq_true rfl⟩ rfl (Nat.le_of_ble_eq_true rfl) dX8_ticksBy_104 ⟨Nat.le_of_ble_eq_true rfl, Nat.le_of_ble_eq_true rfl⟩) rfl rfl (fun H locs X => ?_)
        refine lv_istore (lv' := [(6, .int q104.1), (0, .ref o), (2, .int x2), (3, .int x3), (4, .int x4), (5, .int x5)]) hx hb dX8_ticksBy_107 hl (by decide) rfl (fun ls hl => ?_)
        refine lv_iload hx hb dX8_ticksBy_109 (lv_at hl 0 rfl) ?_
        refine lv_if_lt (tgt := 126) hx hb dX8_ticksBy_111 (by decide) (fun c111 => ?_) (fun c111 => ?_)
        · have hf := g_t hf c111
          exact j126 q104.2 x2 x3 x4 x5 ls H locs hf (lv_sub hl [1, 2, 3, 4, 5] rfl) X
        · have hf := g_f hf c111
          refine lv_iload hx hb dX8_ticksBy_114 (lv_at hl 4 rfl) ?_
          refine lv_aload_n hx hb dX8_ticksBy_116 rfl (lv_at hl 1 rfl) ?_
          refine lv_iload hx hb dX8_ticksBy_117 (lv_at hl 0 rfl) ?_
          refine lv_iload_n hx hb dX8_ticksBy_119 rfl (lv_at hl 2 rfl) ?_
          obtain ⟨q120, e120, hf⟩ := g_be hf
          refine g_calli X (g_runV (As := [.int q104.1, .int x2]) (rest := [.int x4]) C X (cR_ticksOf l E A o ad q104.2 q120.2 q120.1 q104.1 x2 e120) kX8_ticksOf m_849 0 6 rfl rfl hl.1 rfl ⟨Nat.le_of_ble_eq_true rfl, Nat.le_of_ble_eq_true rfl⟩ rfl (Nat.le_of_ble_eq_true rfl) dX8_ticksBy_120 ⟨Nat.le_of_ble_eq_true rfl, Nat.le_of_ble_eq_true rfl⟩) rfl rfl (fun H locs X => ?_)
          refine lv_iadd hx hb dX8_ticksBy_123 ?_
          refine lv_istore (lv' := [(4, .int (x4 + q120.1)), (6, .int q104.1), (0, .ref o), (2, .int x2), (3, .int x3), (5, .int x5)]) hx hb dX8_ticksBy_124 hl (by decide) rfl (fun ls hl => ?_)
          exact j126 q120.2 x2 x3 (x4 + q120.1) x5 ls H locs hf (lv_sub hl [2, 3, 4, 0, 5] rfl) X
  unfold fR_ticksBy at hf
  refine lv_iload_n hx hb dX8_ticksBy_0 rfl (lv_at hl 1 rfl) ?_
  obtain ⟨q1, e1, hf⟩ := g_be hf
  refine g_calli X (g_runS (As := [.int a1]) (rest := []) C X (cR_isShelf l E A o ad w q1.2 q1.1 a1 e1) kX8_isShelf m_723 hl.1 rfl ⟨Nat.le_of_ble_eq_true rfl, Nat.le_of_ble_eq_true rfl⟩ rfl (Nat.le_of_ble_eq_true rfl) dX8_ticksBy_1 ⟨Nat.le_of_ble_eq_true rfl, Nat.le_of_ble_eq_true rfl⟩) rfl rfl (fun H locs X => ?_)
  refine lv_if_eq (tgt := 17) hx hb dX8_ticksBy_4 (by decide) (fun c4 => ?_) (fun c4 => ?_)
  · have hf := g_t hf c4
    refine lv_aload_n hx hb dX8_ticksBy_17 rfl (lv_at hl 0 rfl) ?_
    refine lv_iconst (v := 1) hx hb dX8_ticksBy_18 (by decide) ?_
    obtain ⟨q19, e19, hf⟩ := g_be hf
    refine g_calli X (g_runV (As := [.int (1 : Int32)]) (rest := []) C X (cR_refuse l E A o ad q1.2 q19.2 q19.1 (1 : Int32) e19) kX8_refuse m_708 0 6 rfl rfl hl.1 rfl ⟨Nat.le_of_ble_eq_true rfl, Nat.le_of_ble_eq_true rfl⟩ rfl (Nat.le_of_ble_eq_true rfl) dX8_ticksBy_19 ⟨Nat.le_of_ble_eq_true rfl, Nat.le_of_ble_eq_true rfl⟩) rfl rfl (fun H locs X => ?_)
    exact g_iret (wsR E o ad) C hr hk X hf dX8_ticksBy_22
  · have hf := g_f hf c4
    refine lv_iload_n hx hb dX8_ticksBy_7 rfl (lv_at hl 2 rfl) ?_
    refine lv_if_lt (tgt := 17) hx hb dX8_ticksBy_8 (by decide) (fun c8 => ?_) (fun c8 => ?_)
    · have hf := g_t hf c8
      refine lv_aload_n hx hb dX8_ticksBy_17 rfl (lv_at hl 0 rfl) ?_
      refine lv_iconst (v := 1) hx hb dX8_ticksBy_18 (by decide) ?_
      obtain ⟨q19, e19, hf⟩ := g_be hf
      refine g_calli X (g_runV (As := [.int (1 : Int32)]) (rest := []) C X (cR_refuse l E A o ad q1.2 q19.2 q19.1 (1 : Int32) e19) kX8_refuse m_708 0 6 rfl rfl hl.1 rfl ⟨Nat.le_of_ble_eq_true rfl, Nat.le_of_ble_eq_true rfl⟩ rfl (Nat.le_of_ble_eq_true rfl) dX8_ticksBy_19 ⟨Nat.le_of_ble_eq_true rfl, Nat.le_of_ble_eq_true rfl⟩) rfl rfl (fun H locs X => ?_)
      exact g_iret (wsR E o ad) C hr hk X hf dX8_ticksBy_22
    · have hf := g_f hf c8
      refine lv_iload_n hx hb dX8_ticksBy_11 rfl (lv_at hl 2 rfl) ?_
      refine lv_bipush (v := 8) hx hb dX8_ticksBy_12 (by decide) ?_
      refine lv_icmp_le (tgt := 23) hx hb dX8_ticksBy_14 (by decide) (fun c14 => ?_) (fun c14 => ?_)
      · have hf := g_t hf c14
        refine lv_aload_n hx hb dX8_ticksBy_23 rfl (lv_at hl 0 rfl) ?_
        refine lv_iload_n hx hb dX8_ticksBy_24 rfl (lv_at hl 1 rfl) ?_
        obtain ⟨q25, e25, hf⟩ := g_be hf
        refine g_calli X (g_runV (As := [.int a1]) (rest := []) C X (cR_on l E A o ad q1.2 q25.2 q25.1 a1 e25) kX8_on m_760 0 6 rfl rfl hl.1 rfl ⟨Nat.le_of_ble_eq_true rfl, Nat.le_of_ble_eq_true rfl⟩ rfl (Nat.le_of_ble_eq_true rfl) dX8_ticksBy_25 ⟨Nat.le_of_ble_eq_true rfl, Nat.le_of_ble_eq_true rfl⟩) rfl rfl (fun H locs X => ?_)
        refine lv_if_ge (tgt := 37) hx hb dX8_ticksBy_28 (by decide) (fun c28 => ?_) (fun c28 => ?_)
        · have hf := g_t hf c28
          refine lv_aload_n hx hb dX8_ticksBy_37 rfl (lv_at hl 0 rfl) ?_
          refine lv_iload_n hx hb dX8_ticksBy_38 rfl (lv_at hl 1 rfl) ?_
          obtain ⟨q39, e39, hf⟩ := g_be hf
          refine g_calli X (g_runV (As := [.int a1]) (rest := []) C X (cR_on l E A o ad q25.2 q39.2 q39.1 a1 e39) kX8_on m_760 0 6 rfl rfl hl.1 rfl ⟨Nat.le_of_ble_eq_true rfl, Nat.le_of_ble_eq_true rfl⟩ rfl (Nat.le_of_ble_eq_true rfl) dX8_ticksBy_39 ⟨Nat.le_of_ble_eq_true rfl, Nat.le_of_ble_eq_true rfl⟩) rfl rfl (fun H locs X => ?_)
          refine lv_istore_n (lv' := [(3, .int q39.1), (0, .ref o), (1, .int a1), (2, .int a2)]) hx hb dX8_ticksBy_42 rfl hl (by decide) rfl (fun ls hl => ?_)
          refine lv_aload_n hx hb dX8_ticksBy_43 rfl (lv_at hl 1 rfl) ?_
          refine lv_aload_n hx hb dX8_ticksBy_44 rfl (lv_at hl 1 rfl) ?_
          refine lv_iload_n hx hb dX8_ticksBy_45 rfl (lv_at hl 0 rfl) ?_
          obtain ⟨q46, e46, hf⟩ := g_be hf
          refine g_calli X (g_runV (As := [.int q39.1]) (rest := [.ref o]) C X (cR_kindOf l E A o ad q39.2 q46.2 q46.1 q39.1 e46) kX8_kindOf m_764 0 6 rfl rfl hl.1 rfl ⟨Nat.le_of_ble_eq_true rfl, Nat.le_of_ble_eq_true rfl⟩ rfl (Nat.le_of_ble_eq_true rfl) dX8_ticksBy_46 ⟨Nat.le_of_ble_eq_true rfl, Nat.le_of_ble_eq_true rfl⟩) rfl rfl (fun H locs X => ?_)
          refine lv_bipush (v := 12) hx hb dX8_ticksBy_49 (by decide) ?_
          obtain ⟨q51, e51, hf⟩ := g_be hf
          refine g_calli X (g_runV (As := [.int q46.1, .int (12 : Int32)]) (rest := []) C X (cR_isUnder l E A o ad q46.2 q51.2 q51.1 q46.1 (12 : Int32) e51) kX8_isUnder m_730 0 6 rfl rfl hl.1 rfl ⟨Nat.le_of_ble_eq_true rfl, Nat.le_of_ble_eq_true rfl⟩ rfl (Nat.le_of_ble_eq_true rfl) dX8_ticksBy_51 ⟨Nat.le_of_ble_eq_true rfl, Nat.le_of_ble_eq_true rfl⟩) rfl rfl (fun H locs X => ?_)
          refine lv_if_eq (tgt := 64) hx hb dX8_ticksBy_54 (by decide) (fun c54 => ?_) (fun c54 => ?_)
          · have hf := g_t hf c54
            refine lv_aload_n hx hb dX8_ticksBy_64 rfl (lv_at hl 1 rfl) ?_
            refine lv_aload_n hx hb dX8_ticksBy_65 rfl (lv_at hl 1 rfl) ?_
            refine lv_iload_n hx hb dX8_ticksBy_66 rfl (lv_at hl 0 rfl) ?_
            obtain ⟨q67, e67, hf⟩ := g_be hf
            refine g_calli X (g_runV (As := [.int q39.1]) (rest := [.ref o]) C X (cR_kindOf l E A o ad q51.2 q67.2 q67.1 q39.1 e67) kX8_kindOf m_764 0 6 rfl rfl hl.1 rfl ⟨Nat.le_of_ble_eq_true rfl, Nat.le_of_ble_eq_true rfl⟩ rfl (Nat.le_of_ble_eq_true rfl) dX8_ticksBy_67 ⟨Nat.le_of_ble_eq_true rfl, Nat.le_of_ble_eq_true rfl⟩) rfl rfl (fun H locs X => ?_)
            refine lv_bipush (v := 21) hx hb dX8_ticksBy_70 (by decide) ?_
            obtain ⟨q72, e72, hf⟩ := g_be hf
            refine g_calli X (g_runV (As := [.int q67.1, .int (21 : Int32)]) (rest := []) C X (cR_isUnder l E A o ad q67.2 q72.2 q72.1 q67.1 (21 : Int32) e72) kX8_isUnder m_730 0 6 rfl rfl hl.1 rfl ⟨Nat.le_of_ble_eq_true rfl, Nat.le_of_ble_eq_true rfl⟩ rfl (Nat.le_of_ble_eq_true rfl) dX8_ticksBy_72 ⟨Nat.le_of_ble_eq_true rfl, Nat.le_of_ble_eq_true rfl⟩) rfl rfl (fun H locs X => ?_)
            refine lv_if_ne (tgt := 84) hx hb dX8_ticksBy_75 (by decide) (fun c75 => ?_) (fun c75 => ?_)
            · have hf := g_f hf c75
              refine lv_iconst (v := 0) hx hb dX8_ticksBy_84 (by decide) ?_
              refine lv_istore (lv' := [(4, .int (0 : Int32)), (3, .int q39.1), (0, .ref o), (1, .int a1), (2, .int a2)]) hx hb dX8_ticksBy_85 hl (by decide) rfl (fun ls hl => ?_)
              refine lv_iconst (v := 0) hx hb dX8_ticksBy_87 (by decide) ?_
              refine lv_istore (lv' := [(5, .int (0 : Int32)), (4, .int (0 : Int32)), (3, .int q39.1), (0, .ref o), (1, .int a1), (2, .int a2)]) hx hb dX8_ticksBy_88 hl (by decide) rfl (fun ls hl => ?_)
              exact j90 g_fuel q72.2 a2 q39.1 (0 : Int32) (0 : Int32) ls H locs hf (lv_sub hl [3, 5, 2, 1, 0] rfl) X
            · have hf := g_t hf c75
              refine lv_aload_n hx hb dX8_ticksBy_78 rfl (lv_at hl 1 rfl) ?_
              refine lv_iconst (v := 3) hx hb dX8_ticksBy_79 (by decide) ?_
              obtain ⟨q80, e80, hf⟩ := g_be hf
              refine g_calli X (g_runV (As := [.int (3 : Int32)]) (rest := []) C X (cR_refuse l E A o ad q72.2 q80.2 q80.1 (3 : Int32) e80) kX8_refuse m_708 0 6 rfl rfl hl.1 rfl ⟨Nat.le_of_ble_eq_true rfl, Nat.le_of_ble_eq_true rfl⟩ rfl (Nat.le_of_ble_eq_true rfl) dX8_ticksBy_80 ⟨Nat.le_of_ble_eq_true rfl, Nat.le_of_ble_eq_true rfl⟩) rfl rfl (fun H locs X => ?_)
              exact g_iret (wsR E o ad) C hr hk X hf dX8_ticksBy_83
          · have hf := g_f hf c54
            refine lv_aload_n hx hb dX8_ticksBy_57 rfl (lv_at hl 1 rfl) ?_
            refine lv_iload_n hx hb dX8_ticksBy_58 rfl (lv_at hl 0 rfl) ?_
            refine lv_iload_n hx hb dX8_ticksBy_59 rfl (lv_at hl 3 rfl) ?_
            obtain ⟨q60, e60, hf⟩ := g_be hf
            refine g_calli X (g_runV (As := [.int q39.1, .int a2]) (rest := []) C X (cR_ticksOf l E A o ad q51.2 q60.2 q60.1 q39.1 a2 e60) kX8_ticksOf m_849 0 6 rfl rfl hl.1 rfl ⟨Nat.le_of_ble_eq_true rfl, Nat.le_of_ble_eq_true rfl⟩ rfl (Nat.le_of_ble_eq_true rfl) dX8_ticksBy_60 ⟨Nat.le_of_ble_eq_true rfl, Nat.le_of_ble_eq_true rfl⟩) rfl rfl (fun H locs X => ?_)
            exact g_iret (wsR E o ad) C hr hk X hf dX8_ticksBy_63
        · have hf := g_f hf c28
          refine lv_aload_n hx hb dX8_ticksBy_31 rfl (lv_at hl 0 rfl) ?_
          refine lv_iconst (v := 2) hx hb dX8_ticksBy_32 (by decide) ?_
          obtain ⟨q33, e33, hf⟩ := g_be hf
          refine g_calli X (g_runV (As := [.int (2 : Int32)]) (rest := []) C X (cR_refuse l E A o ad q25.2 q33.2 q33.1 (2 : Int32) e33) kX8_refuse m_708 0 6 rfl rfl hl.1 rfl ⟨Nat.le_of_ble_eq_true rfl, Nat.le_of_ble_eq_true rfl⟩ rfl (Nat.le_of_ble_eq_true rfl) dX8_ticksBy_33 ⟨Nat.le_of_ble_eq_true rfl, Nat.le_of_ble_eq_true rfl⟩) rfl rfl (fun H locs X => ?_)
          exact g_iret (wsR E o ad) C hr hk X hf dX8_ticksBy_36
      · have hf := g_f hf c14
        refine lv_aload_n hx hb dX8_ticksBy_17 rfl (lv_at hl 0 rfl) ?_
        refine lv_iconst (v := 1) hx hb dX8_ticksBy_18 (by decide) ?_
        obtain ⟨q19, e19, hf⟩ := g_be hf
        refine g_calli X (g_runV (As := [.int (1 : Int32)]) (rest := []) C X (cR_refuse l E A o ad q1.2 q19.2 q19.1 (1 : Int32) e19) kX8_refuse m_708 0 6 rfl rfl hl.1 rfl ⟨Nat.le_of_ble_eq_true rfl, Nat.le_of_ble_eq_true rfl⟩ rfl (Nat.le_of_ble_eq_true rfl) dX8_ticksBy_19 ⟨Nat.le_of_ble_eq_true rfl, Nat.le_of_ble_eq_true rfl⟩) rfl rfl (fun H locs X => ?_)
        exact g_iret (wsR E o ad) C hr hk X hf dX8_ticksBy_22
set_option maxRecDepth 100000 in
set_option maxHeartbeats 4000000 in
theorem cR_restOf (l : Launch) (E : g_Env) (A : Nat → Prop) (o : Nat) (ad : Nat → Nat) (w : RS) (w' : RS) (r : Int32) (a1 : Int32) (hf : fR_restOf w a1 = some (r, w')) : g_Mi l yX8_restOf cX8_restOf 7 ((some .int)) ({ frames := 5, cells := 0, slots := 0, locals := 109 }) E A [.ref o, .int a1] (wsR E o ad w) r (wsR E o ad w') := by
  refine g_start (by decide) (Nat.le_of_ble_eq_true rfl) ?_
  intro p e s m below meth c C hr hk hnm ls hl H locs X
  have hx := C.1.1
  have hb := C.1.2.1
  have hl : lv_has ls 7 [(0, .ref o), (1, .int a1)] := hl
  have j64 : ∀ (n : Nat) (w : RS) (x3 : Int32) (x4 : Int32) (x5 : Int32) (ls : Array Slot) (H : Heap) (locs : List Loc), fR_restOf_64 n w x3 x4 x5 = some (r, w') → lv_has ls 7 [(0, .ref o), (3, .int x3), (4, .int x4), (5, .int x5)] → g_W E A s H locs (wsR E o ad w) → W p l e ({ frames := 5, cells := 0, slots := 0, locals := 109 }) s m ([.ref o, .int a1] : List Value).toArray below meth c H locs 0 0 (MQ below (va_Qi (fun (r' : Int32) (u' : va_W) => r' = r ∧ u' = wsR E o ad w') (g_B E A) A) ([.ref o, .int a1] : List Value).toArray s 0 0 A) (F0 m 64 ls []) := by
    intro n
    induction n with
    | zero => intro w x3 x4 x5 ls H locs hf; exact absurd hf (by simp [fR_restOf_64])
    | succ n64 ih64 =>
      intro w x3 x4 x5 ls H locs hf hl X
      have j99 : ∀ (w : RS) (x3 : Int32) (x4 : Int32) (x5 : Int32) (ls : Array Slot) (H : Heap) (locs : List Loc), fR_restOf_99 (fR_restOf_64 n64) w x3 x4 x5 = some (r, w') → lv_has ls 7 [(0, .ref o), (3, .int x3), (4, .int x4), (5, .int x5)] → g_W E A s H locs (wsR E o ad w) → W p l e ({ frames := 5, cells := 0, slots := 0, locals := 109 }) s m ([.ref o, .int a1] : List Value).toArray below meth c H locs 0 0 (MQ below (va_Qi (fun (r' : Int32) (u' : va_W) => r' = r ∧ u' = wsR E o ad w') (g_B E A) A) ([.ref o, .int a1] : List Value).toArray s 0 0 A) (F0 m 99 ls []) := by
        intro w x3 x4 x5 ls H locs hf hl X
        unfold fR_restOf_99 at hf
        refine lv_iinc (v := x5 + (1 : Int32)) (lv' := [(5, .int (x5 + (1 : Int32))), (0, .ref o), (3, .int x3), (4, .int x4)]) hx hb dX8_restOf_99 hl (k := 3) rfl rfl (by decide) rfl (fun ls hl => ?_)
        refine lv_goto (tgt := 64) hx hb dX8_restOf_102 (by decide) ?_
        exact ih64 w x3 x4 (x5 + (1 : Int32)) ls H locs hf (lv_sub hl [1, 2, 3, 0] rfl) X
      unfold fR_restOf_64 at hf
      refine lv_iload hx hb dX8_restOf_64 (lv_at hl 3 rfl) ?_
      refine lv_aload_n hx hb dX8_restOf_66 rfl (lv_at hl 0 rfl) ?_
      refine lv_iload_n hx hb dX8_restOf_67 rfl (lv_at hl 1 rfl) ?_
      obtain ⟨q68, e68, hf⟩ := g_be hf
      refine g_calli X (g_runV (As := [.int x3]) (rest := [.int x5]) C X (cR_lengthOf l E A o ad w q68.2 q68.1 x3 e68) kX8_lengthOf m_775 0 6 rfl rfl hl.1 rfl ⟨Nat.le_of_ble_eq_true rfl, Nat.le_of_ble_eq_true rfl⟩ rfl (Nat.le_of_ble_eq_true rfl) dX8_restOf_68 ⟨Nat.le_of_ble_eq_true rfl, Nat.le_of_ble_eq_true rfl⟩) rfl rfl (fun H locs X => ?_)
      refine lv_icmp_ge (tgt := 105) hx hb dX8_restOf_71 (by decide) (fun c71 => ?_) (fun c71 => ?_)
      · have hf := g_t hf c71
        refine lv_iload hx hb dX8_restOf_105 (lv_at hl 2 rfl) ?_
        exact g_iret (wsR E o ad) C hr hk X hf dX8_restOf_107
      · have hf := g_f hf c71
        refine lv_aload_n hx hb dX8_restOf_74 rfl (lv_at hl 0 rfl) ?_
        refine lv_iload_n hx hb dX8_restOf_75 rfl (lv_at hl 1 rfl) ?_
        refine lv_iload hx hb dX8_restOf_76 (lv_at hl 3 rfl) ?_
        obtain ⟨q78, e78, hf⟩ := g_be hf
        refine g_calli X (g_runV (As := [.int x3, .int x5]) (rest := []) C X (cR_thingAt l E A o ad q68.2 q78.2 q78.1 x3 x5 e78) kX8_thingAt m_783 0 6 rfl rfl hl.1 rfl ⟨Nat.le_of_ble_eq_true rfl, Nat.le_of_ble_eq_true rfl⟩ rfl (Nat.le_of_ble_eq_true rfl) dX8_restOf_78 ⟨Nat.le_of_ble_eq_true rfl, Nat.le_of_ble_eq_true rfl⟩) rfl rfl (fun H locs X => ?_)
        refine lv_istore (lv' := [(6, .int q78.1), (0, .ref o), (3, .int x3), (4, .int x4), (5, .int x5)]) hx hb dX8_restOf_81 hl (by decide) rfl (fun ls hl => ?_)
        refine lv_iload hx hb dX8_restOf_83 (lv_at hl 0 rfl) ?_
        refine lv_if_lt (tgt := 99) hx hb dX8_restOf_85 (by decide) (fun c85 => ?_) (fun c85 => ?_)
        · have hf := g_t hf c85
          exact j99 q78.2 x3 x4 x5 ls H locs hf (lv_sub hl [1, 2, 3, 4] rfl) X
        · have hf := g_f hf c85
          refine lv_iload hx hb dX8_restOf_88 (lv_at hl 3 rfl) ?_
          refine lv_aload_n hx hb dX8_restOf_90 rfl (lv_at hl 1 rfl) ?_
          refine lv_iload hx hb dX8_restOf_91 (lv_at hl 0 rfl) ?_
          obtain ⟨q93, e93, hf⟩ := g_be hf
          refine g_calli X (g_runV (As := [.int q78.1]) (rest := [.int x4]) C X (cR_calmRow l E A o ad q78.2 q93.2 q93.1 q78.1 e93) kX8_calmRow m_861 0 6 rfl rfl hl.1 rfl ⟨Nat.le_of_ble_eq_true rfl, Nat.le_of_ble_eq_true rfl⟩ rfl (Nat.le_of_ble_eq_true rfl) dX8_restOf_93 ⟨Nat.le_of_ble_eq_true rfl, Nat.le_of_ble_eq_true rfl⟩) rfl rfl (fun H locs X => ?_)
          refine lv_iadd hx hb dX8_restOf_96 ?_
          refine lv_istore (lv' := [(4, .int (x4 + q93.1)), (6, .int q78.1), (0, .ref o), (3, .int x3), (5, .int x5)]) hx hb dX8_restOf_97 hl (by decide) rfl (fun ls hl => ?_)
          exact j99 q93.2 x3 (x4 + q93.1) x5 ls H locs hf (lv_sub hl [2, 3, 0, 4] rfl) X
  unfold fR_restOf at hf
  refine lv_aload_n hx hb dX8_restOf_0 rfl (lv_at hl 0 rfl) ?_
  refine lv_iload_n hx hb dX8_restOf_1 rfl (lv_at hl 1 rfl) ?_
  obtain ⟨q2, e2, hf⟩ := g_be hf
  refine g_calli X (g_runV (As := [.int a1]) (rest := []) C X (cR_reasonOfPlay l E A o ad w q2.2 q2.1 a1 e2) kX8_reasonOfPlay m_814 0 6 rfl rfl hl.1 rfl ⟨Nat.le_of_ble_eq_true rfl, Nat.le_of_ble_eq_true rfl⟩ rfl (Nat.le_of_ble_eq_true rfl) dX8_restOf_2 ⟨Nat.le_of_ble_eq_true rfl, Nat.le_of_ble_eq_true rfl⟩) rfl rfl (fun H locs X => ?_)
  refine lv_istore_n (lv' := [(2, .int q2.1), (0, .ref o), (1, .int a1)]) hx hb dX8_restOf_5 rfl hl (by decide) rfl (fun ls hl => ?_)
  refine lv_iload_n hx hb dX8_restOf_6 rfl (lv_at hl 0 rfl) ?_
  refine lv_if_le (tgt := 16) hx hb dX8_restOf_7 (by decide) (fun c7 => ?_) (fun c7 => ?_)
  · have hf := g_t hf c7
    refine lv_aload_n hx hb dX8_restOf_16 rfl (lv_at hl 1 rfl) ?_
    refine lv_iload_n hx hb dX8_restOf_17 rfl (lv_at hl 2 rfl) ?_
    obtain ⟨q18, e18, hf⟩ := g_be hf
    refine g_calli X (g_runV (As := [.int a1]) (rest := []) C X (cR_on l E A o ad q2.2 q18.2 q18.1 a1 e18) kX8_on m_760 0 6 rfl rfl hl.1 rfl ⟨Nat.le_of_ble_eq_true rfl, Nat.le_of_ble_eq_true rfl⟩ rfl (Nat.le_of_ble_eq_true rfl) dX8_restOf_18 ⟨Nat.le_of_ble_eq_true rfl, Nat.le_of_ble_eq_true rfl⟩) rfl rfl (fun H locs X => ?_)
    refine lv_istore_n (lv' := [(3, .int q18.1), (2, .int q2.1), (0, .ref o), (1, .int a1)]) hx hb dX8_restOf_21 rfl hl (by decide) rfl (fun ls hl => ?_)
    refine lv_aload_n hx hb dX8_restOf_22 rfl (lv_at hl 2 rfl) ?_
    refine lv_aload_n hx hb dX8_restOf_23 rfl (lv_at hl 2 rfl) ?_
    refine lv_iload_n hx hb dX8_restOf_24 rfl (lv_at hl 0 rfl) ?_
    obtain ⟨q25, e25, hf⟩ := g_be hf
    refine g_calli X (g_runV (As := [.int q18.1]) (rest := [.ref o]) C X (cR_kindOf l E A o ad q18.2 q25.2 q25.1 q18.1 e25) kX8_kindOf m_764 0 6 rfl rfl hl.1 rfl ⟨Nat.le_of_ble_eq_true rfl, Nat.le_of_ble_eq_true rfl⟩ rfl (Nat.le_of_ble_eq_true rfl) dX8_restOf_25 ⟨Nat.le_of_ble_eq_true rfl, Nat.le_of_ble_eq_true rfl⟩) rfl rfl (fun H locs X => ?_)
    obtain ⟨q28, e28, hf⟩ := g_be hf
    refine g_calli X (g_runV (As := [.int q25.1]) (rest := []) C X (cR_isPart l E A o ad q25.2 q28.2 q28.1 q25.1 e28) kX8_isPart m_726 0 6 rfl rfl hl.1 rfl ⟨Nat.le_of_ble_eq_true rfl, Nat.le_of_ble_eq_true rfl⟩ rfl (Nat.le_of_ble_eq_true rfl) dX8_restOf_28 ⟨Nat.le_of_ble_eq_true rfl, Nat.le_of_ble_eq_true rfl⟩) rfl rfl (fun H locs X => ?_)
    refine lv_if_eq (tgt := 41) hx hb dX8_restOf_31 (by decide) (fun c31 => ?_) (fun c31 => ?_)
    · have hf := g_t hf c31
      refine lv_aload_n hx hb dX8_restOf_41 rfl (lv_at hl 2 rfl) ?_
      refine lv_iload_n hx hb dX8_restOf_42 rfl (lv_at hl 0 rfl) ?_
      obtain ⟨q43, e43, hf⟩ := g_be hf
      refine g_calli X (g_runV (As := [.int q18.1]) (rest := []) C X (cR_kindOf l E A o ad q28.2 q43.2 q43.1 q18.1 e43) kX8_kindOf m_764 0 6 rfl rfl hl.1 rfl ⟨Nat.le_of_ble_eq_true rfl, Nat.le_of_ble_eq_true rfl⟩ rfl (Nat.le_of_ble_eq_true rfl) dX8_restOf_43 ⟨Nat.le_of_ble_eq_true rfl, Nat.le_of_ble_eq_true rfl⟩) rfl rfl (fun H locs X => ?_)
      obtain ⟨q46, e46, hf⟩ := g_be hf
      refine g_calli X (g_runS (As := [.int q43.1]) (rest := []) C X (cR_isBoard l E A o ad q43.2 q46.2 q46.1 q43.1 e46) kX8_isBoard m_741 hl.1 rfl ⟨Nat.le_of_ble_eq_true rfl, Nat.le_of_ble_eq_true rfl⟩ rfl (Nat.le_of_ble_eq_true rfl) dX8_restOf_46 ⟨Nat.le_of_ble_eq_true rfl, Nat.le_of_ble_eq_true rfl⟩) rfl rfl (fun H locs X => ?_)
      refine lv_if_ne (tgt := 58) hx hb dX8_restOf_49 (by decide) (fun c49 => ?_) (fun c49 => ?_)
      · have hf := g_f hf c49
        refine lv_iconst (v := 0) hx hb dX8_restOf_58 (by decide) ?_
        refine lv_istore (lv' := [(4, .int (0 : Int32)), (3, .int q18.1), (2, .int q2.1), (0, .ref o), (1, .int a1)]) hx hb dX8_restOf_59 hl (by decide) rfl (fun ls hl => ?_)
        refine lv_iconst (v := 0) hx hb dX8_restOf_61 (by decide) ?_
        refine lv_istore (lv' := [(5, .int (0 : Int32)), (4, .int (0 : Int32)), (3, .int q18.1), (2, .int q2.1), (0, .ref o), (1, .int a1)]) hx hb dX8_restOf_62 hl (by decide) rfl (fun ls hl => ?_)
        exact j64 g_fuel q46.2 q18.1 (0 : Int32) (0 : Int32) ls H locs hf (lv_sub hl [4, 2, 1, 0] rfl) X
      · have hf := g_t hf c49
        refine lv_aload_n hx hb dX8_restOf_52 rfl (lv_at hl 2 rfl) ?_
        refine lv_iload_n hx hb dX8_restOf_53 rfl (lv_at hl 0 rfl) ?_
        obtain ⟨q54, e54, hf⟩ := g_be hf
        refine g_calli X (g_runV (As := [.int q18.1]) (rest := []) C X (cR_calmRow l E A o ad q46.2 q54.2 q54.1 q18.1 e54) kX8_calmRow m_861 0 6 rfl rfl hl.1 rfl ⟨Nat.le_of_ble_eq_true rfl, Nat.le_of_ble_eq_true rfl⟩ rfl (Nat.le_of_ble_eq_true rfl) dX8_restOf_54 ⟨Nat.le_of_ble_eq_true rfl, Nat.le_of_ble_eq_true rfl⟩) rfl rfl (fun H locs X => ?_)
        exact g_iret (wsR E o ad) C hr hk X hf dX8_restOf_57
    · have hf := g_f hf c31
      refine lv_aload_n hx hb dX8_restOf_34 rfl (lv_at hl 2 rfl) ?_
      refine lv_iload_n hx hb dX8_restOf_35 rfl (lv_at hl 0 rfl) ?_
      obtain ⟨q36, e36, hf⟩ := g_be hf
      refine g_callv X (g_runV (As := [.int q18.1]) (rest := []) C X (cR_calm l E A o ad q28.2 q36  q18.1 e36) kX8_calm m_857 0 6 rfl rfl hl.1 rfl ⟨Nat.le_of_ble_eq_true rfl, Nat.le_of_ble_eq_true rfl⟩ rfl (Nat.le_of_ble_eq_true rfl) dX8_restOf_36 ⟨Nat.le_of_ble_eq_true rfl, Nat.le_of_ble_eq_true rfl⟩) rfl rfl (fun H locs X => ?_)
      refine lv_iconst (v := 1) hx hb dX8_restOf_39 (by decide) ?_
      exact g_iret (wsR E o ad) C hr hk X hf dX8_restOf_40
  · have hf := g_f hf c7
    refine lv_aload_n hx hb dX8_restOf_10 rfl (lv_at hl 1 rfl) ?_
    refine lv_iload_n hx hb dX8_restOf_11 rfl (lv_at hl 0 rfl) ?_
    obtain ⟨q12, e12, hf⟩ := g_be hf
    refine g_calli X (g_runV (As := [.int q2.1]) (rest := []) C X (cR_refuse l E A o ad q2.2 q12.2 q12.1 q2.1 e12) kX8_refuse m_708 0 6 rfl rfl hl.1 rfl ⟨Nat.le_of_ble_eq_true rfl, Nat.le_of_ble_eq_true rfl⟩ rfl (Nat.le_of_ble_eq_true rfl) dX8_restOf_12 ⟨Nat.le_of_ble_eq_true rfl, Nat.le_of_ble_eq_true rfl⟩) rfl rfl (fun H locs X => ?_)
    exact g_iret (wsR E o ad) C hr hk X hf dX8_restOf_15
set_option maxRecDepth 100000 in
set_option maxHeartbeats 4000000 in
theorem cR_whenUnder (l : Launch) (E : g_Env) (A : Nat → Prop) (o : Nat) (ad : Nat → Nat) (w : RS) (w' : RS) (r : Int32) (a1 : Int32) (a2 : Int32) (hf : fR_whenUnder w a1 a2 = some (r, w')) : g_Mi l yX8_whenUnder cX8_whenUnder 3 ((some .int)) ({ frames := 2, cells := 0, slots := 0, locals := 46 }) E A [.ref o, .int a1, .int a2] (wsR E o ad w) r (wsR E o ad w') := by
  refine g_start (by decide) (Nat.le_of_ble_eq_true rfl) ?_
  intro p e s m below meth c C hr hk hnm ls hl H locs X
  have hx := C.1.1
  have hb := C.1.2.1
  have hl : lv_has ls 3 [(0, .ref o), (1, .int a1), (2, .int a2)] := hl
  unfold fR_whenUnder at hf
  refine lv_iload_n hx hb dX8_whenUnder_0 rfl (lv_at hl 1 rfl) ?_
  obtain ⟨q1, e1, hf⟩ := g_be hf
  refine g_calli X (g_runS (As := [.int a1]) (rest := []) C X (cR_isShelf l E A o ad w q1.2 q1.1 a1 e1) kX8_isShelf m_723 hl.1 rfl ⟨Nat.le_of_ble_eq_true rfl, Nat.le_of_ble_eq_true rfl⟩ rfl (Nat.le_of_ble_eq_true rfl) dX8_whenUnder_1 ⟨Nat.le_of_ble_eq_true rfl, Nat.le_of_ble_eq_true rfl⟩) rfl rfl (fun H locs X => ?_)
  refine lv_if_eq (tgt := 17) hx hb dX8_whenUnder_4 (by decide) (fun c4 => ?_) (fun c4 => ?_)
  · have hf := g_t hf c4
    refine lv_aload_n hx hb dX8_whenUnder_17 rfl (lv_at hl 0 rfl) ?_
    refine lv_iconst (v := 1) hx hb dX8_whenUnder_18 (by decide) ?_
    obtain ⟨q19, e19, hf⟩ := g_be hf
    refine g_calli X (g_runV (As := [.int (1 : Int32)]) (rest := []) C X (cR_refuse l E A o ad q1.2 q19.2 q19.1 (1 : Int32) e19) kX8_refuse m_708 0 6 rfl rfl hl.1 rfl ⟨Nat.le_of_ble_eq_true rfl, Nat.le_of_ble_eq_true rfl⟩ rfl (Nat.le_of_ble_eq_true rfl) dX8_whenUnder_19 ⟨Nat.le_of_ble_eq_true rfl, Nat.le_of_ble_eq_true rfl⟩) rfl rfl (fun H locs X => ?_)
    exact g_iret (wsR E o ad) C hr hk X hf dX8_whenUnder_22
  · have hf := g_f hf c4
    refine lv_iload_n hx hb dX8_whenUnder_7 rfl (lv_at hl 2 rfl) ?_
    refine lv_if_lt (tgt := 17) hx hb dX8_whenUnder_8 (by decide) (fun c8 => ?_) (fun c8 => ?_)
    · have hf := g_t hf c8
      refine lv_aload_n hx hb dX8_whenUnder_17 rfl (lv_at hl 0 rfl) ?_
      refine lv_iconst (v := 1) hx hb dX8_whenUnder_18 (by decide) ?_
      obtain ⟨q19, e19, hf⟩ := g_be hf
      refine g_calli X (g_runV (As := [.int (1 : Int32)]) (rest := []) C X (cR_refuse l E A o ad q1.2 q19.2 q19.1 (1 : Int32) e19) kX8_refuse m_708 0 6 rfl rfl hl.1 rfl ⟨Nat.le_of_ble_eq_true rfl, Nat.le_of_ble_eq_true rfl⟩ rfl (Nat.le_of_ble_eq_true rfl) dX8_whenUnder_19 ⟨Nat.le_of_ble_eq_true rfl, Nat.le_of_ble_eq_true rfl⟩) rfl rfl (fun H locs X => ?_)
      exact g_iret (wsR E o ad) C hr hk X hf dX8_whenUnder_22
    · have hf := g_f hf c8
      refine lv_iload_n hx hb dX8_whenUnder_11 rfl (lv_at hl 2 rfl) ?_
      refine lv_bipush (v := 24) hx hb dX8_whenUnder_12 (by decide) ?_
      refine lv_icmp_le (tgt := 23) hx hb dX8_whenUnder_14 (by decide) (fun c14 => ?_) (fun c14 => ?_)
      · have hf := g_t hf c14
        refine lv_aload_n hx hb dX8_whenUnder_23 rfl (lv_at hl 0 rfl) ?_
        refine lv_iload_n hx hb dX8_whenUnder_24 rfl (lv_at hl 1 rfl) ?_
        obtain ⟨q25, e25, hf⟩ := g_be hf
        refine g_calli X (g_runV (As := [.int a1]) (rest := []) C X (cR_on l E A o ad q1.2 q25.2 q25.1 a1 e25) kX8_on m_760 0 6 rfl rfl hl.1 rfl ⟨Nat.le_of_ble_eq_true rfl, Nat.le_of_ble_eq_true rfl⟩ rfl (Nat.le_of_ble_eq_true rfl) dX8_whenUnder_25 ⟨Nat.le_of_ble_eq_true rfl, Nat.le_of_ble_eq_true rfl⟩) rfl rfl (fun H locs X => ?_)
        refine lv_if_lt (tgt := 52) hx hb dX8_whenUnder_28 (by decide) (fun c28 => ?_) (fun c28 => ?_)
        · have hf := g_t hf c28
          refine lv_iconst (v := 0) hx hb dX8_whenUnder_52 (by decide) ?_
          exact g_iret (wsR E o ad) C hr hk X hf dX8_whenUnder_53
        · have hf := g_f hf c28
          refine lv_aload_n hx hb dX8_whenUnder_31 rfl (lv_at hl 0 rfl) ?_
          refine lv_aload_n hx hb dX8_whenUnder_32 rfl (lv_at hl 0 rfl) ?_
          refine lv_aload_n hx hb dX8_whenUnder_33 rfl (lv_at hl 0 rfl) ?_
          refine lv_iload_n hx hb dX8_whenUnder_34 rfl (lv_at hl 1 rfl) ?_
          obtain ⟨q35, e35, hf⟩ := g_be hf
          refine g_calli X (g_runV (As := [.int a1]) (rest := [.ref o, .ref o]) C X (cR_on l E A o ad q25.2 q35.2 q35.1 a1 e35) kX8_on m_760 0 6 rfl rfl hl.1 rfl ⟨Nat.le_of_ble_eq_true rfl, Nat.le_of_ble_eq_true rfl⟩ rfl (Nat.le_of_ble_eq_true rfl) dX8_whenUnder_35 ⟨Nat.le_of_ble_eq_true rfl, Nat.le_of_ble_eq_true rfl⟩) rfl rfl (fun H locs X => ?_)
          obtain ⟨q38, e38, hf⟩ := g_be hf
          refine g_calli X (g_runV (As := [.int q35.1]) (rest := [.ref o]) C X (cR_kindOf l E A o ad q35.2 q38.2 q38.1 q35.1 e38) kX8_kindOf m_764 0 6 rfl rfl hl.1 rfl ⟨Nat.le_of_ble_eq_true rfl, Nat.le_of_ble_eq_true rfl⟩ rfl (Nat.le_of_ble_eq_true rfl) dX8_whenUnder_38 ⟨Nat.le_of_ble_eq_true rfl, Nat.le_of_ble_eq_true rfl⟩) rfl rfl (fun H locs X => ?_)
          refine lv_iload_n hx hb dX8_whenUnder_41 rfl (lv_at hl 2 rfl) ?_
          obtain ⟨q42, e42, hf⟩ := g_be hf
          refine g_calli X (g_runV (As := [.int q38.1, .int a2]) (rest := []) C X (cR_isUnder l E A o ad q38.2 q42.2 q42.1 q38.1 a2 e42) kX8_isUnder m_730 0 6 rfl rfl hl.1 rfl ⟨Nat.le_of_ble_eq_true rfl, Nat.le_of_ble_eq_true rfl⟩ rfl (Nat.le_of_ble_eq_true rfl) dX8_whenUnder_42 ⟨Nat.le_of_ble_eq_true rfl, Nat.le_of_ble_eq_true rfl⟩) rfl rfl (fun H locs X => ?_)
          refine lv_if_eq (tgt := 52) hx hb dX8_whenUnder_45 (by decide) (fun c45 => ?_) (fun c45 => ?_)
          · have hf := g_t hf c45
            refine lv_iconst (v := 0) hx hb dX8_whenUnder_52 (by decide) ?_
            exact g_iret (wsR E o ad) C hr hk X hf dX8_whenUnder_53
          · have hf := g_f hf c45
            refine lv_iconst (v := 1) hx hb dX8_whenUnder_48 (by decide) ?_
            refine lv_goto (tgt := 53) hx hb dX8_whenUnder_49 (by decide) ?_
            exact g_iret (wsR E o ad) C hr hk X hf dX8_whenUnder_53
      · have hf := g_f hf c14
        refine lv_aload_n hx hb dX8_whenUnder_17 rfl (lv_at hl 0 rfl) ?_
        refine lv_iconst (v := 1) hx hb dX8_whenUnder_18 (by decide) ?_
        obtain ⟨q19, e19, hf⟩ := g_be hf
        refine g_calli X (g_runV (As := [.int (1 : Int32)]) (rest := []) C X (cR_refuse l E A o ad q1.2 q19.2 q19.1 (1 : Int32) e19) kX8_refuse m_708 0 6 rfl rfl hl.1 rfl ⟨Nat.le_of_ble_eq_true rfl, Nat.le_of_ble_eq_true rfl⟩ rfl (Nat.le_of_ble_eq_true rfl) dX8_whenUnder_19 ⟨Nat.le_of_ble_eq_true rfl, Nat.le_of_ble_eq_true rfl⟩) rfl rfl (fun H locs X => ?_)
        exact g_iret (wsR E o ad) C hr hk X hf dX8_whenUnder_22
set_option maxRecDepth 100000 in
set_option maxHeartbeats 4000000 in
theorem cR_done_call (l : Launch) (E : g_Env) (A : Nat → Prop) (o : Nat) (ad : Nat → Nat) (w : RS) (w' : RS) (r : Int32) (a2 : Int32) (a3 : Int64) (hf : fR_done_call w a2 a3 = some (r, w')) : g_Mi l yX8_done cX8_done 8 ((some .int)) ({ frames := 6, cells := 0, slots := 0, locals := 141 }) E A [.ref o, .ref (ad 17), .int a2, .long a3] (wsR E o ad w) r (wsR E o ad w') := by
  refine g_start (by decide) (Nat.le_of_ble_eq_true rfl) ?_
  intro p e s m below meth c C hr hk hnm ls hl H locs X
  have hx := C.1.1
  have hb := C.1.2.1
  have hl : lv_has ls 8 [(0, .ref o), (1, .ref (ad 17)), (2, .int a2), (3, .long a3)] := hl
  unfold fR_done_call at hf
  refine lv_aload_n hx hb dX8_done_0 rfl (lv_at hl 1 rfl) ?_
  refine lv_iload_n hx hb dX8_done_1 rfl (lv_at hl 2 rfl) ?_
  refine lv_iconst (v := 1) hx hb dX8_done_2 (by decide) ?_
  refine lv_iadd hx hb dX8_done_3 ?_
  obtain ⟨h4, hf⟩ := g_cke hf
  obtain ⟨v4, e4, hf⟩ := g_le hf
  refine g_iald C X 12 rfl h4 e4 dX8_done_4 ?_
  refine lv_istore (lv' := [(5, .int v4), (0, .ref o), (1, .ref (ad 17)), (2, .int a2), (3, .long a3)]) hx hb dX8_done_5 hl (by decide) rfl (fun ls hl => ?_)
  refine lv_aload_n hx hb dX8_done_7 rfl (lv_at hl 2 rfl) ?_
  refine lv_iload_n hx hb dX8_done_8 rfl (lv_at hl 3 rfl) ?_
  refine lv_iconst (v := 2) hx hb dX8_done_9 (by decide) ?_
  refine lv_iadd hx hb dX8_done_10 ?_
  obtain ⟨h11, hf⟩ := g_cke hf
  obtain ⟨v11, e11, hf⟩ := g_le hf
  refine g_iald C X 12 rfl h11 e11 dX8_done_11 ?_
  refine lv_istore (lv' := [(6, .int v11), (5, .int v4), (0, .ref o), (1, .ref (ad 17)), (2, .int a2), (3, .long a3)]) hx hb dX8_done_12 hl (by decide) rfl (fun ls hl => ?_)
  refine lv_aload_n hx hb dX8_done_14 rfl (lv_at hl 3 rfl) ?_
  refine lv_iload_n hx hb dX8_done_15 rfl (lv_at hl 4 rfl) ?_
  refine lv_iconst (v := 3) hx hb dX8_done_16 (by decide) ?_
  refine lv_iadd hx hb dX8_done_17 ?_
  obtain ⟨h18, hf⟩ := g_cke hf
  obtain ⟨v18, e18, hf⟩ := g_le hf
  refine g_iald C X 12 rfl h18 e18 dX8_done_18 ?_
  refine lv_istore (lv' := [(7, .int v18), (6, .int v11), (5, .int v4), (0, .ref o), (1, .ref (ad 17)), (2, .int a2), (3, .long a3)]) hx hb dX8_done_19 hl (by decide) rfl (fun ls hl => ?_)
  refine lv_aload_n hx hb dX8_done_21 rfl (lv_at hl 3 rfl) ?_
  refine lv_iconst (v := 0) hx hb dX8_done_22 (by decide) ?_
  obtain ⟨w23, e23, hf⟩ := g_le hf
  refine g_put C X g_iX8 tyX8_ok nmX8 0 rfl rfl 15 (by decide) rfl m_656 rfl rfl rfl (Nat.le_of_ble_eq_true rfl) dX8_done_23 (ws2 := wsR E o ad w23) (by subst e23; rfl) (fun H locs X => ?_)
  refine lv_aload_n hx hb dX8_done_26 rfl (lv_at hl 4 rfl) ?_
  refine lv_iload_n hx hb dX8_done_27 rfl (lv_at hl 5 rfl) ?_
  obtain ⟨h28, hf⟩ := g_cke hf
  obtain ⟨v28, e28, hf⟩ := g_le hf
  refine g_iald C X 12 rfl h28 e28 dX8_done_28 ?_
  by_cases s29_0 : v28 = (1 : Int32)
  · have hf := g_t hf s29_0
    refine g_tabIn (tgt := 88) hx hb s29_0 dX8_done_29 (by decide) (by decide) rfl (by decide) ?_
    refine lv_aload_n hx hb dX8_done_88 rfl (lv_at hl 3 rfl) ?_
    refine lv_iload hx hb dX8_done_89 (lv_at hl 2 rfl) ?_
    refine lv_iload hx hb dX8_done_91 (lv_at hl 1 rfl) ?_
    refine lv_iload hx hb dX8_done_93 (lv_at hl 0 rfl) ?_
    obtain ⟨q95, e95, hf⟩ := g_be hf
    refine g_calli X (g_runV (As := [.int v4, .int v11, .int v18]) (rest := []) C X (cR_makeNew l E A o ad w23 q95.2 q95.1 v4 v11 v18 e95) kX8_makeNew m_719 0 6 rfl rfl hl.1 rfl ⟨Nat.le_of_ble_eq_true rfl, Nat.le_of_ble_eq_true rfl⟩ rfl (Nat.le_of_ble_eq_true rfl) dX8_done_95 ⟨Nat.le_of_ble_eq_true rfl, Nat.le_of_ble_eq_true rfl⟩) rfl rfl (fun H locs X => ?_)
    exact g_iret (wsR E o ad) C hr hk X hf dX8_done_98
  have hf := g_f hf s29_0
  by_cases s29_1 : v28 = (2 : Int32)
  · have hf := g_t hf s29_1
    refine g_tabIn (tgt := 99) hx hb s29_1 dX8_done_29 (by decide) (by decide) rfl (by decide) ?_
    refine lv_aload_n hx hb dX8_done_99 rfl (lv_at hl 3 rfl) ?_
    refine lv_iload hx hb dX8_done_100 (lv_at hl 2 rfl) ?_
    refine lv_iload hx hb dX8_done_102 (lv_at hl 1 rfl) ?_
    obtain ⟨q104, e104, hf⟩ := g_be hf
    refine g_calli X (g_runV (As := [.int v4, .int v11]) (rest := []) C X (cR_layOn l E A o ad w23 q104.2 q104.1 v4 v11 e104) kX8_layOn m_748 0 6 rfl rfl hl.1 rfl ⟨Nat.le_of_ble_eq_true rfl, Nat.le_of_ble_eq_true rfl⟩ rfl (Nat.le_of_ble_eq_true rfl) dX8_done_104 ⟨Nat.le_of_ble_eq_true rfl, Nat.le_of_ble_eq_true rfl⟩) rfl rfl (fun H locs X => ?_)
    exact g_iret (wsR E o ad) C hr hk X hf dX8_done_107
  have hf := g_f hf s29_1
  by_cases s29_2 : v28 = (3 : Int32)
  · have hf := g_t hf s29_2
    refine g_tabIn (tgt := 108) hx hb s29_2 dX8_done_29 (by decide) (by decide) rfl (by decide) ?_
    refine lv_aload_n hx hb dX8_done_108 rfl (lv_at hl 3 rfl) ?_
    refine lv_iload hx hb dX8_done_109 (lv_at hl 2 rfl) ?_
    refine lv_iload hx hb dX8_done_111 (lv_at hl 1 rfl) ?_
    refine lv_iload hx hb dX8_done_113 (lv_at hl 0 rfl) ?_
    obtain ⟨q115, e115, hf⟩ := g_be hf
    refine g_calli X (g_runV (As := [.int v4, .int v11, .int v18]) (rest := []) C X (cR_plugIn l E A o ad w23 q115.2 q115.1 v4 v11 v18 e115) kX8_plugIn m_752 0 6 rfl rfl hl.1 rfl ⟨Nat.le_of_ble_eq_true rfl, Nat.le_of_ble_eq_true rfl⟩ rfl (Nat.le_of_ble_eq_true rfl) dX8_done_115 ⟨Nat.le_of_ble_eq_true rfl, Nat.le_of_ble_eq_true rfl⟩) rfl rfl (fun H locs X => ?_)
    exact g_iret (wsR E o ad) C hr hk X hf dX8_done_118
  have hf := g_f hf s29_2
  by_cases s29_3 : v28 = (4 : Int32)
  · have hf := g_t hf s29_3
    refine g_tabIn (tgt := 119) hx hb s29_3 dX8_done_29 (by decide) (by decide) rfl (by decide) ?_
    refine lv_aload_n hx hb dX8_done_119 rfl (lv_at hl 3 rfl) ?_
    refine lv_iload hx hb dX8_done_120 (lv_at hl 2 rfl) ?_
    refine lv_iload hx hb dX8_done_122 (lv_at hl 1 rfl) ?_
    refine lv_iload hx hb dX8_done_124 (lv_at hl 0 rfl) ?_
    obtain ⟨q126, e126, hf⟩ := g_be hf
    refine g_calli X (g_runV (As := [.int v4, .int v11, .int v18]) (rest := []) C X (cR_pullOut l E A o ad w23 q126.2 q126.1 v4 v11 v18 e126) kX8_pullOut m_787 0 6 rfl rfl hl.1 rfl ⟨Nat.le_of_ble_eq_true rfl, Nat.le_of_ble_eq_true rfl⟩ rfl (Nat.le_of_ble_eq_true rfl) dX8_done_126 ⟨Nat.le_of_ble_eq_true rfl, Nat.le_of_ble_eq_true rfl⟩) rfl rfl (fun H locs X => ?_)
    exact g_iret (wsR E o ad) C hr hk X hf dX8_done_129
  have hf := g_f hf s29_3
  by_cases s29_4 : v28 = (5 : Int32)
  · have hf := g_t hf s29_4
    refine g_tabIn (tgt := 130) hx hb s29_4 dX8_done_29 (by decide) (by decide) rfl (by decide) ?_
    refine lv_aload_n hx hb dX8_done_130 rfl (lv_at hl 3 rfl) ?_
    refine lv_iload hx hb dX8_done_131 (lv_at hl 2 rfl) ?_
    refine lv_iload hx hb dX8_done_133 (lv_at hl 1 rfl) ?_
    refine lv_iload hx hb dX8_done_135 (lv_at hl 0 rfl) ?_
    refine lv_aload_n hx hb dX8_done_137 rfl (lv_at hl 4 rfl) ?_
    refine lv_iload_n hx hb dX8_done_138 rfl (lv_at hl 5 rfl) ?_
    refine lv_iconst (v := 4) hx hb dX8_done_139 (by decide) ?_
    refine lv_iadd hx hb dX8_done_140 ?_
    obtain ⟨h141, hf⟩ := g_cke hf
    obtain ⟨v141, e141, hf⟩ := g_le hf
    refine g_iald C X 12 rfl h141 e141 dX8_done_141 ?_
    refine lv_aload_n hx hb dX8_done_142 rfl (lv_at hl 4 rfl) ?_
    refine lv_iload_n hx hb dX8_done_143 rfl (lv_at hl 5 rfl) ?_
    refine lv_iconst (v := 5) hx hb dX8_done_144 (by decide) ?_
    refine lv_iadd hx hb dX8_done_145 ?_
    obtain ⟨h146, hf⟩ := g_cke hf
    obtain ⟨v146, e146, hf⟩ := g_le hf
    refine g_iald C X 12 rfl h146 e146 dX8_done_146 ?_
    obtain ⟨q147, e147, hf⟩ := g_be hf
    refine g_calli X (g_runV (As := [.int v4, .int v11, .int v18, .int v141, .int v146]) (rest := []) C X (cR_copyOver l E A o ad w23 q147.2 q147.1 v4 v11 v18 v141 v146 e147) kX8_copyOver m_791 0 6 rfl rfl hl.1 rfl ⟨Nat.le_of_ble_eq_true rfl, Nat.le_of_ble_eq_true rfl⟩ rfl (Nat.le_of_ble_eq_true rfl) dX8_done_147 ⟨Nat.le_of_ble_eq_true rfl, Nat.le_of_ble_eq_true rfl⟩) rfl rfl (fun H locs X => ?_)
    exact g_iret (wsR E o ad) C hr hk X hf dX8_done_150
  have hf := g_f hf s29_4
  by_cases s29_5 : v28 = (6 : Int32)
  · have hf := g_t hf s29_5
    refine g_tabIn (tgt := 151) hx hb s29_5 dX8_done_29 (by decide) (by decide) rfl (by decide) ?_
    refine lv_aload_n hx hb dX8_done_151 rfl (lv_at hl 3 rfl) ?_
    refine lv_iload hx hb dX8_done_152 (lv_at hl 2 rfl) ?_
    refine lv_iload hx hb dX8_done_154 (lv_at hl 1 rfl) ?_
    refine lv_lload_n hx hb dX8_done_156 rfl (lv_at hl 6 rfl) ?_
    obtain ⟨q157, e157, hf⟩ := g_be hf
    refine g_calli X (g_runV (As := [.int v4, .int v11, .long a3]) (rest := []) C X (cR_writeIn l E A o ad w23 q157.2 q157.1 v4 v11 a3 e157) kX8_writeIn m_802 0 6 rfl rfl hl.1 rfl ⟨Nat.le_of_ble_eq_true rfl, Nat.le_of_ble_eq_true rfl⟩ rfl (Nat.le_of_ble_eq_true rfl) dX8_done_157 ⟨Nat.le_of_ble_eq_true rfl, Nat.le_of_ble_eq_true rfl⟩) rfl rfl (fun H locs X => ?_)
    exact g_iret (wsR E o ad) C hr hk X hf dX8_done_160
  have hf := g_f hf s29_5
  by_cases s29_6 : v28 = (7 : Int32)
  · have hf := g_t hf s29_6
    refine g_tabIn (tgt := 161) hx hb s29_6 dX8_done_29 (by decide) (by decide) rfl (by decide) ?_
    refine lv_aload_n hx hb dX8_done_161 rfl (lv_at hl 3 rfl) ?_
    refine lv_iload hx hb dX8_done_162 (lv_at hl 2 rfl) ?_
    refine lv_iload hx hb dX8_done_164 (lv_at hl 1 rfl) ?_
    obtain ⟨q166, e166, hf⟩ := g_be hf
    refine g_calli X (g_runV (As := [.int v4, .int v11]) (rest := []) C X (cR_knobTo l E A o ad w23 q166.2 q166.1 v4 v11 e166) kX8_knobTo m_806 0 6 rfl rfl hl.1 rfl ⟨Nat.le_of_ble_eq_true rfl, Nat.le_of_ble_eq_true rfl⟩ rfl (Nat.le_of_ble_eq_true rfl) dX8_done_166 ⟨Nat.le_of_ble_eq_true rfl, Nat.le_of_ble_eq_true rfl⟩) rfl rfl (fun H locs X => ?_)
    exact g_iret (wsR E o ad) C hr hk X hf dX8_done_169
  have hf := g_f hf s29_6
  by_cases s29_7 : v28 = (8 : Int32)
  · have hf := g_t hf s29_7
    refine g_tabIn (tgt := 170) hx hb s29_7 dX8_done_29 (by decide) (by decide) rfl (by decide) ?_
    refine lv_aload_n hx hb dX8_done_170 rfl (lv_at hl 3 rfl) ?_
    refine lv_iload hx hb dX8_done_171 (lv_at hl 2 rfl) ?_
    refine lv_iload hx hb dX8_done_173 (lv_at hl 1 rfl) ?_
    obtain ⟨q175, e175, hf⟩ := g_be hf
    refine g_calli X (g_runV (As := [.int v4, .int v11]) (rest := []) C X (cR_playBy l E A o ad w23 q175.2 q175.1 v4 v11 e175) kX8_playBy m_810 0 6 rfl rfl hl.1 rfl ⟨Nat.le_of_ble_eq_true rfl, Nat.le_of_ble_eq_true rfl⟩ rfl (Nat.le_of_ble_eq_true rfl) dX8_done_175 ⟨Nat.le_of_ble_eq_true rfl, Nat.le_of_ble_eq_true rfl⟩) rfl rfl (fun H locs X => ?_)
    exact g_iret (wsR E o ad) C hr hk X hf dX8_done_178
  have hf := g_f hf s29_7
  by_cases s29_8 : v28 = (9 : Int32)
  · have hf := g_t hf s29_8
    refine g_tabIn (tgt := 179) hx hb s29_8 dX8_done_29 (by decide) (by decide) rfl (by decide) ?_
    refine lv_aload_n hx hb dX8_done_179 rfl (lv_at hl 3 rfl) ?_
    refine lv_iload hx hb dX8_done_180 (lv_at hl 2 rfl) ?_
    refine lv_iload hx hb dX8_done_182 (lv_at hl 1 rfl) ?_
    obtain ⟨q184, e184, hf⟩ := g_be hf
    refine g_calli X (g_runV (As := [.int v4, .int v11]) (rest := []) C X (cR_runOver l E A o ad w23 q184.2 q184.1 v4 v11 e184) kX8_runOver m_841 0 6 rfl rfl hl.1 rfl ⟨Nat.le_of_ble_eq_true rfl, Nat.le_of_ble_eq_true rfl⟩ rfl (Nat.le_of_ble_eq_true rfl) dX8_done_184 ⟨Nat.le_of_ble_eq_true rfl, Nat.le_of_ble_eq_true rfl⟩) rfl rfl (fun H locs X => ?_)
    exact g_iret (wsR E o ad) C hr hk X hf dX8_done_187
  have hf := g_f hf s29_8
  by_cases s29_9 : v28 = (10 : Int32)
  · have hf := g_t hf s29_9
    refine g_tabIn (tgt := 188) hx hb s29_9 dX8_done_29 (by decide) (by decide) rfl (by decide) ?_
    refine lv_aload_n hx hb dX8_done_188 rfl (lv_at hl 3 rfl) ?_
    refine lv_iload hx hb dX8_done_189 (lv_at hl 2 rfl) ?_
    refine lv_iload hx hb dX8_done_191 (lv_at hl 1 rfl) ?_
    obtain ⟨q193, e193, hf⟩ := g_be hf
    refine g_calli X (g_runV (As := [.int v4, .int v11]) (rest := []) C X (cR_ticksBy l E A o ad w23 q193.2 q193.1 v4 v11 e193) kX8_ticksBy m_845 0 6 rfl rfl hl.1 rfl ⟨Nat.le_of_ble_eq_true rfl, Nat.le_of_ble_eq_true rfl⟩ rfl (Nat.le_of_ble_eq_true rfl) dX8_done_193 ⟨Nat.le_of_ble_eq_true rfl, Nat.le_of_ble_eq_true rfl⟩) rfl rfl (fun H locs X => ?_)
    exact g_iret (wsR E o ad) C hr hk X hf dX8_done_196
  have hf := g_f hf s29_9
  by_cases s29_10 : v28 = (11 : Int32)
  · have hf := g_t hf s29_10
    refine g_tabIn (tgt := 197) hx hb s29_10 dX8_done_29 (by decide) (by decide) rfl (by decide) ?_
    refine lv_aload_n hx hb dX8_done_197 rfl (lv_at hl 3 rfl) ?_
    refine lv_iload hx hb dX8_done_198 (lv_at hl 2 rfl) ?_
    obtain ⟨q200, e200, hf⟩ := g_be hf
    refine g_calli X (g_runV (As := [.int v4]) (rest := []) C X (cR_restOf l E A o ad w23 q200.2 q200.1 v4 e200) kX8_restOf m_853 0 6 rfl rfl hl.1 rfl ⟨Nat.le_of_ble_eq_true rfl, Nat.le_of_ble_eq_true rfl⟩ rfl (Nat.le_of_ble_eq_true rfl) dX8_done_200 ⟨Nat.le_of_ble_eq_true rfl, Nat.le_of_ble_eq_true rfl⟩) rfl rfl (fun H locs X => ?_)
    exact g_iret (wsR E o ad) C hr hk X hf dX8_done_203
  have hf := g_f hf s29_10
  refine lv_tableOut (tgt := 204) hx hb dX8_done_29 (by have z0 := g_ne (1) s29_0 (by decide); have z1 := g_ne (2) s29_1 (by decide); have z2 := g_ne (3) s29_2 (by decide); have z3 := g_ne (4) s29_3 (by decide); have z4 := g_ne (5) s29_4 (by decide); have z5 := g_ne (6) s29_5 (by decide); have z6 := g_ne (7) s29_6 (by decide); have z7 := g_ne (8) s29_7 (by decide); have z8 := g_ne (9) s29_8 (by decide); have z9 := g_ne (10) s29_9 (by decide); have z10 := g_ne (11) s29_10 (by decide); omega) (by decide) ?_
  refine lv_aload_n hx hb dX8_done_204 rfl (lv_at hl 3 rfl) ?_
  refine lv_iload hx hb dX8_done_205 (lv_at hl 2 rfl) ?_
  refine lv_iload hx hb dX8_done_207 (lv_at hl 1 rfl) ?_
  obtain ⟨q209, e209, hf⟩ := g_be hf
  refine g_calli X (g_runV (As := [.int v4, .int v11]) (rest := []) C X (cR_whenUnder l E A o ad w23 q209.2 q209.1 v4 v11 e209) kX8_whenUnder m_865 0 6 rfl rfl hl.1 rfl ⟨Nat.le_of_ble_eq_true rfl, Nat.le_of_ble_eq_true rfl⟩ rfl (Nat.le_of_ble_eq_true rfl) dX8_done_209 ⟨Nat.le_of_ble_eq_true rfl, Nat.le_of_ble_eq_true rfl⟩) rfl rfl (fun H locs X => ?_)
  exact g_iret (wsR E o ad) C hr hk X hf dX8_done_212
set_option maxRecDepth 100000 in
set_option maxHeartbeats 4000000 in
theorem cR_done_lines (l : Launch) (E : g_Env) (A : Nat → Prop) (o : Nat) (ad : Nat → Nat) (w : RS) (w' : RS) (r : Int32) (a2 : Int32) (a3 : Int64) (hf : fR_done_lines w a2 a3 = some (r, w')) : g_Mi l yX8_done cX8_done 8 ((some .int)) ({ frames := 6, cells := 0, slots := 0, locals := 141 }) E A [.ref o, .ref (ad 9), .int a2, .long a3] (wsR E o ad w) r (wsR E o ad w') := by
  refine g_start (by decide) (Nat.le_of_ble_eq_true rfl) ?_
  intro p e s m below meth c C hr hk hnm ls hl H locs X
  have hx := C.1.1
  have hb := C.1.2.1
  have hl : lv_has ls 8 [(0, .ref o), (1, .ref (ad 9)), (2, .int a2), (3, .long a3)] := hl
  unfold fR_done_lines at hf
  refine lv_aload_n hx hb dX8_done_0 rfl (lv_at hl 1 rfl) ?_
  refine lv_iload_n hx hb dX8_done_1 rfl (lv_at hl 2 rfl) ?_
  refine lv_iconst (v := 1) hx hb dX8_done_2 (by decide) ?_
  refine lv_iadd hx hb dX8_done_3 ?_
  obtain ⟨h4, hf⟩ := g_cke hf
  obtain ⟨v4, e4, hf⟩ := g_le hf
  refine g_iald C X 9 rfl h4 e4 dX8_done_4 ?_
  refine lv_istore (lv' := [(5, .int v4), (0, .ref o), (1, .ref (ad 9)), (2, .int a2), (3, .long a3)]) hx hb dX8_done_5 hl (by decide) rfl (fun ls hl => ?_)
  refine lv_aload_n hx hb dX8_done_7 rfl (lv_at hl 2 rfl) ?_
  refine lv_iload_n hx hb dX8_done_8 rfl (lv_at hl 3 rfl) ?_
  refine lv_iconst (v := 2) hx hb dX8_done_9 (by decide) ?_
  refine lv_iadd hx hb dX8_done_10 ?_
  obtain ⟨h11, hf⟩ := g_cke hf
  obtain ⟨v11, e11, hf⟩ := g_le hf
  refine g_iald C X 9 rfl h11 e11 dX8_done_11 ?_
  refine lv_istore (lv' := [(6, .int v11), (5, .int v4), (0, .ref o), (1, .ref (ad 9)), (2, .int a2), (3, .long a3)]) hx hb dX8_done_12 hl (by decide) rfl (fun ls hl => ?_)
  refine lv_aload_n hx hb dX8_done_14 rfl (lv_at hl 3 rfl) ?_
  refine lv_iload_n hx hb dX8_done_15 rfl (lv_at hl 4 rfl) ?_
  refine lv_iconst (v := 3) hx hb dX8_done_16 (by decide) ?_
  refine lv_iadd hx hb dX8_done_17 ?_
  obtain ⟨h18, hf⟩ := g_cke hf
  obtain ⟨v18, e18, hf⟩ := g_le hf
  refine g_iald C X 9 rfl h18 e18 dX8_done_18 ?_
  refine lv_istore (lv' := [(7, .int v18), (6, .int v11), (5, .int v4), (0, .ref o), (1, .ref (ad 9)), (2, .int a2), (3, .long a3)]) hx hb dX8_done_19 hl (by decide) rfl (fun ls hl => ?_)
  refine lv_aload_n hx hb dX8_done_21 rfl (lv_at hl 3 rfl) ?_
  refine lv_iconst (v := 0) hx hb dX8_done_22 (by decide) ?_
  obtain ⟨w23, e23, hf⟩ := g_le hf
  refine g_put C X g_iX8 tyX8_ok nmX8 0 rfl rfl 15 (by decide) rfl m_656 rfl rfl rfl (Nat.le_of_ble_eq_true rfl) dX8_done_23 (ws2 := wsR E o ad w23) (by subst e23; rfl) (fun H locs X => ?_)
  refine lv_aload_n hx hb dX8_done_26 rfl (lv_at hl 4 rfl) ?_
  refine lv_iload_n hx hb dX8_done_27 rfl (lv_at hl 5 rfl) ?_
  obtain ⟨h28, hf⟩ := g_cke hf
  obtain ⟨v28, e28, hf⟩ := g_le hf
  refine g_iald C X 9 rfl h28 e28 dX8_done_28 ?_
  by_cases s29_0 : v28 = (1 : Int32)
  · have hf := g_t hf s29_0
    refine g_tabIn (tgt := 88) hx hb s29_0 dX8_done_29 (by decide) (by decide) rfl (by decide) ?_
    refine lv_aload_n hx hb dX8_done_88 rfl (lv_at hl 3 rfl) ?_
    refine lv_iload hx hb dX8_done_89 (lv_at hl 2 rfl) ?_
    refine lv_iload hx hb dX8_done_91 (lv_at hl 1 rfl) ?_
    refine lv_iload hx hb dX8_done_93 (lv_at hl 0 rfl) ?_
    obtain ⟨q95, e95, hf⟩ := g_be hf
    refine g_calli X (g_runV (As := [.int v4, .int v11, .int v18]) (rest := []) C X (cR_makeNew l E A o ad w23 q95.2 q95.1 v4 v11 v18 e95) kX8_makeNew m_719 0 6 rfl rfl hl.1 rfl ⟨Nat.le_of_ble_eq_true rfl, Nat.le_of_ble_eq_true rfl⟩ rfl (Nat.le_of_ble_eq_true rfl) dX8_done_95 ⟨Nat.le_of_ble_eq_true rfl, Nat.le_of_ble_eq_true rfl⟩) rfl rfl (fun H locs X => ?_)
    exact g_iret (wsR E o ad) C hr hk X hf dX8_done_98
  have hf := g_f hf s29_0
  by_cases s29_1 : v28 = (2 : Int32)
  · have hf := g_t hf s29_1
    refine g_tabIn (tgt := 99) hx hb s29_1 dX8_done_29 (by decide) (by decide) rfl (by decide) ?_
    refine lv_aload_n hx hb dX8_done_99 rfl (lv_at hl 3 rfl) ?_
    refine lv_iload hx hb dX8_done_100 (lv_at hl 2 rfl) ?_
    refine lv_iload hx hb dX8_done_102 (lv_at hl 1 rfl) ?_
    obtain ⟨q104, e104, hf⟩ := g_be hf
    refine g_calli X (g_runV (As := [.int v4, .int v11]) (rest := []) C X (cR_layOn l E A o ad w23 q104.2 q104.1 v4 v11 e104) kX8_layOn m_748 0 6 rfl rfl hl.1 rfl ⟨Nat.le_of_ble_eq_true rfl, Nat.le_of_ble_eq_true rfl⟩ rfl (Nat.le_of_ble_eq_true rfl) dX8_done_104 ⟨Nat.le_of_ble_eq_true rfl, Nat.le_of_ble_eq_true rfl⟩) rfl rfl (fun H locs X => ?_)
    exact g_iret (wsR E o ad) C hr hk X hf dX8_done_107
  have hf := g_f hf s29_1
  by_cases s29_2 : v28 = (3 : Int32)
  · have hf := g_t hf s29_2
    refine g_tabIn (tgt := 108) hx hb s29_2 dX8_done_29 (by decide) (by decide) rfl (by decide) ?_
    refine lv_aload_n hx hb dX8_done_108 rfl (lv_at hl 3 rfl) ?_
    refine lv_iload hx hb dX8_done_109 (lv_at hl 2 rfl) ?_
    refine lv_iload hx hb dX8_done_111 (lv_at hl 1 rfl) ?_
    refine lv_iload hx hb dX8_done_113 (lv_at hl 0 rfl) ?_
    obtain ⟨q115, e115, hf⟩ := g_be hf
    refine g_calli X (g_runV (As := [.int v4, .int v11, .int v18]) (rest := []) C X (cR_plugIn l E A o ad w23 q115.2 q115.1 v4 v11 v18 e115) kX8_plugIn m_752 0 6 rfl rfl hl.1 rfl ⟨Nat.le_of_ble_eq_true rfl, Nat.le_of_ble_eq_true rfl⟩ rfl (Nat.le_of_ble_eq_true rfl) dX8_done_115 ⟨Nat.le_of_ble_eq_true rfl, Nat.le_of_ble_eq_true rfl⟩) rfl rfl (fun H locs X => ?_)
    exact g_iret (wsR E o ad) C hr hk X hf dX8_done_118
  have hf := g_f hf s29_2
  by_cases s29_3 : v28 = (4 : Int32)
  · have hf := g_t hf s29_3
    refine g_tabIn (tgt := 119) hx hb s29_3 dX8_done_29 (by decide) (by decide) rfl (by decide) ?_
    refine lv_aload_n hx hb dX8_done_119 rfl (lv_at hl 3 rfl) ?_
    refine lv_iload hx hb dX8_done_120 (lv_at hl 2 rfl) ?_
    refine lv_iload hx hb dX8_done_122 (lv_at hl 1 rfl) ?_
    refine lv_iload hx hb dX8_done_124 (lv_at hl 0 rfl) ?_
    obtain ⟨q126, e126, hf⟩ := g_be hf
    refine g_calli X (g_runV (As := [.int v4, .int v11, .int v18]) (rest := []) C X (cR_pullOut l E A o ad w23 q126.2 q126.1 v4 v11 v18 e126) kX8_pullOut m_787 0 6 rfl rfl hl.1 rfl ⟨Nat.le_of_ble_eq_true rfl, Nat.le_of_ble_eq_true rfl⟩ rfl (Nat.le_of_ble_eq_true rfl) dX8_done_126 ⟨Nat.le_of_ble_eq_true rfl, Nat.le_of_ble_eq_true rfl⟩) rfl rfl (fun H locs X => ?_)
    exact g_iret (wsR E o ad) C hr hk X hf dX8_done_129
  have hf := g_f hf s29_3
  by_cases s29_4 : v28 = (5 : Int32)
  · have hf := g_t hf s29_4
    refine g_tabIn (tgt := 130) hx hb s29_4 dX8_done_29 (by decide) (by decide) rfl (by decide) ?_
    refine lv_aload_n hx hb dX8_done_130 rfl (lv_at hl 3 rfl) ?_
    refine lv_iload hx hb dX8_done_131 (lv_at hl 2 rfl) ?_
    refine lv_iload hx hb dX8_done_133 (lv_at hl 1 rfl) ?_
    refine lv_iload hx hb dX8_done_135 (lv_at hl 0 rfl) ?_
    refine lv_aload_n hx hb dX8_done_137 rfl (lv_at hl 4 rfl) ?_
    refine lv_iload_n hx hb dX8_done_138 rfl (lv_at hl 5 rfl) ?_
    refine lv_iconst (v := 4) hx hb dX8_done_139 (by decide) ?_
    refine lv_iadd hx hb dX8_done_140 ?_
    obtain ⟨h141, hf⟩ := g_cke hf
    obtain ⟨v141, e141, hf⟩ := g_le hf
    refine g_iald C X 9 rfl h141 e141 dX8_done_141 ?_
    refine lv_aload_n hx hb dX8_done_142 rfl (lv_at hl 4 rfl) ?_
    refine lv_iload_n hx hb dX8_done_143 rfl (lv_at hl 5 rfl) ?_
    refine lv_iconst (v := 5) hx hb dX8_done_144 (by decide) ?_
    refine lv_iadd hx hb dX8_done_145 ?_
    obtain ⟨h146, hf⟩ := g_cke hf
    obtain ⟨v146, e146, hf⟩ := g_le hf
    refine g_iald C X 9 rfl h146 e146 dX8_done_146 ?_
    obtain ⟨q147, e147, hf⟩ := g_be hf
    refine g_calli X (g_runV (As := [.int v4, .int v11, .int v18, .int v141, .int v146]) (rest := []) C X (cR_copyOver l E A o ad w23 q147.2 q147.1 v4 v11 v18 v141 v146 e147) kX8_copyOver m_791 0 6 rfl rfl hl.1 rfl ⟨Nat.le_of_ble_eq_true rfl, Nat.le_of_ble_eq_true rfl⟩ rfl (Nat.le_of_ble_eq_true rfl) dX8_done_147 ⟨Nat.le_of_ble_eq_true rfl, Nat.le_of_ble_eq_true rfl⟩) rfl rfl (fun H locs X => ?_)
    exact g_iret (wsR E o ad) C hr hk X hf dX8_done_150
  have hf := g_f hf s29_4
  by_cases s29_5 : v28 = (6 : Int32)
  · have hf := g_t hf s29_5
    refine g_tabIn (tgt := 151) hx hb s29_5 dX8_done_29 (by decide) (by decide) rfl (by decide) ?_
    refine lv_aload_n hx hb dX8_done_151 rfl (lv_at hl 3 rfl) ?_
    refine lv_iload hx hb dX8_done_152 (lv_at hl 2 rfl) ?_
    refine lv_iload hx hb dX8_done_154 (lv_at hl 1 rfl) ?_
    refine lv_lload_n hx hb dX8_done_156 rfl (lv_at hl 6 rfl) ?_
    obtain ⟨q157, e157, hf⟩ := g_be hf
    refine g_calli X (g_runV (As := [.int v4, .int v11, .long a3]) (rest := []) C X (cR_writeIn l E A o ad w23 q157.2 q157.1 v4 v11 a3 e157) kX8_writeIn m_802 0 6 rfl rfl hl.1 rfl ⟨Nat.le_of_ble_eq_true rfl, Nat.le_of_ble_eq_true rfl⟩ rfl (Nat.le_of_ble_eq_true rfl) dX8_done_157 ⟨Nat.le_of_ble_eq_true rfl, Nat.le_of_ble_eq_true rfl⟩) rfl rfl (fun H locs X => ?_)
    exact g_iret (wsR E o ad) C hr hk X hf dX8_done_160
  have hf := g_f hf s29_5
  by_cases s29_6 : v28 = (7 : Int32)
  · have hf := g_t hf s29_6
    refine g_tabIn (tgt := 161) hx hb s29_6 dX8_done_29 (by decide) (by decide) rfl (by decide) ?_
    refine lv_aload_n hx hb dX8_done_161 rfl (lv_at hl 3 rfl) ?_
    refine lv_iload hx hb dX8_done_162 (lv_at hl 2 rfl) ?_
    refine lv_iload hx hb dX8_done_164 (lv_at hl 1 rfl) ?_
    obtain ⟨q166, e166, hf⟩ := g_be hf
    refine g_calli X (g_runV (As := [.int v4, .int v11]) (rest := []) C X (cR_knobTo l E A o ad w23 q166.2 q166.1 v4 v11 e166) kX8_knobTo m_806 0 6 rfl rfl hl.1 rfl ⟨Nat.le_of_ble_eq_true rfl, Nat.le_of_ble_eq_true rfl⟩ rfl (Nat.le_of_ble_eq_true rfl) dX8_done_166 ⟨Nat.le_of_ble_eq_true rfl, Nat.le_of_ble_eq_true rfl⟩) rfl rfl (fun H locs X => ?_)
    exact g_iret (wsR E o ad) C hr hk X hf dX8_done_169
  have hf := g_f hf s29_6
  by_cases s29_7 : v28 = (8 : Int32)
  · have hf := g_t hf s29_7
    refine g_tabIn (tgt := 170) hx hb s29_7 dX8_done_29 (by decide) (by decide) rfl (by decide) ?_
    refine lv_aload_n hx hb dX8_done_170 rfl (lv_at hl 3 rfl) ?_
    refine lv_iload hx hb dX8_done_171 (lv_at hl 2 rfl) ?_
    refine lv_iload hx hb dX8_done_173 (lv_at hl 1 rfl) ?_
    obtain ⟨q175, e175, hf⟩ := g_be hf
    refine g_calli X (g_runV (As := [.int v4, .int v11]) (rest := []) C X (cR_playBy l E A o ad w23 q175.2 q175.1 v4 v11 e175) kX8_playBy m_810 0 6 rfl rfl hl.1 rfl ⟨Nat.le_of_ble_eq_true rfl, Nat.le_of_ble_eq_true rfl⟩ rfl (Nat.le_of_ble_eq_true rfl) dX8_done_175 ⟨Nat.le_of_ble_eq_true rfl, Nat.le_of_ble_eq_true rfl⟩) rfl rfl (fun H locs X => ?_)
    exact g_iret (wsR E o ad) C hr hk X hf dX8_done_178
  have hf := g_f hf s29_7
  by_cases s29_8 : v28 = (9 : Int32)
  · have hf := g_t hf s29_8
    refine g_tabIn (tgt := 179) hx hb s29_8 dX8_done_29 (by decide) (by decide) rfl (by decide) ?_
    refine lv_aload_n hx hb dX8_done_179 rfl (lv_at hl 3 rfl) ?_
    refine lv_iload hx hb dX8_done_180 (lv_at hl 2 rfl) ?_
    refine lv_iload hx hb dX8_done_182 (lv_at hl 1 rfl) ?_
    obtain ⟨q184, e184, hf⟩ := g_be hf
    refine g_calli X (g_runV (As := [.int v4, .int v11]) (rest := []) C X (cR_runOver l E A o ad w23 q184.2 q184.1 v4 v11 e184) kX8_runOver m_841 0 6 rfl rfl hl.1 rfl ⟨Nat.le_of_ble_eq_true rfl, Nat.le_of_ble_eq_true rfl⟩ rfl (Nat.le_of_ble_eq_true rfl) dX8_done_184 ⟨Nat.le_of_ble_eq_true rfl, Nat.le_of_ble_eq_true rfl⟩) rfl rfl (fun H locs X => ?_)
    exact g_iret (wsR E o ad) C hr hk X hf dX8_done_187
  have hf := g_f hf s29_8
  by_cases s29_9 : v28 = (10 : Int32)
  · have hf := g_t hf s29_9
    refine g_tabIn (tgt := 188) hx hb s29_9 dX8_done_29 (by decide) (by decide) rfl (by decide) ?_
    refine lv_aload_n hx hb dX8_done_188 rfl (lv_at hl 3 rfl) ?_
    refine lv_iload hx hb dX8_done_189 (lv_at hl 2 rfl) ?_
    refine lv_iload hx hb dX8_done_191 (lv_at hl 1 rfl) ?_
    obtain ⟨q193, e193, hf⟩ := g_be hf
    refine g_calli X (g_runV (As := [.int v4, .int v11]) (rest := []) C X (cR_ticksBy l E A o ad w23 q193.2 q193.1 v4 v11 e193) kX8_ticksBy m_845 0 6 rfl rfl hl.1 rfl ⟨Nat.le_of_ble_eq_true rfl, Nat.le_of_ble_eq_true rfl⟩ rfl (Nat.le_of_ble_eq_true rfl) dX8_done_193 ⟨Nat.le_of_ble_eq_true rfl, Nat.le_of_ble_eq_true rfl⟩) rfl rfl (fun H locs X => ?_)
    exact g_iret (wsR E o ad) C hr hk X hf dX8_done_196
  have hf := g_f hf s29_9
  by_cases s29_10 : v28 = (11 : Int32)
  · have hf := g_t hf s29_10
    refine g_tabIn (tgt := 197) hx hb s29_10 dX8_done_29 (by decide) (by decide) rfl (by decide) ?_
    refine lv_aload_n hx hb dX8_done_197 rfl (lv_at hl 3 rfl) ?_
    refine lv_iload hx hb dX8_done_198 (lv_at hl 2 rfl) ?_
    obtain ⟨q200, e200, hf⟩ := g_be hf
    refine g_calli X (g_runV (As := [.int v4]) (rest := []) C X (cR_restOf l E A o ad w23 q200.2 q200.1 v4 e200) kX8_restOf m_853 0 6 rfl rfl hl.1 rfl ⟨Nat.le_of_ble_eq_true rfl, Nat.le_of_ble_eq_true rfl⟩ rfl (Nat.le_of_ble_eq_true rfl) dX8_done_200 ⟨Nat.le_of_ble_eq_true rfl, Nat.le_of_ble_eq_true rfl⟩) rfl rfl (fun H locs X => ?_)
    exact g_iret (wsR E o ad) C hr hk X hf dX8_done_203
  have hf := g_f hf s29_10
  refine lv_tableOut (tgt := 204) hx hb dX8_done_29 (by have z0 := g_ne (1) s29_0 (by decide); have z1 := g_ne (2) s29_1 (by decide); have z2 := g_ne (3) s29_2 (by decide); have z3 := g_ne (4) s29_3 (by decide); have z4 := g_ne (5) s29_4 (by decide); have z5 := g_ne (6) s29_5 (by decide); have z6 := g_ne (7) s29_6 (by decide); have z7 := g_ne (8) s29_7 (by decide); have z8 := g_ne (9) s29_8 (by decide); have z9 := g_ne (10) s29_9 (by decide); have z10 := g_ne (11) s29_10 (by decide); omega) (by decide) ?_
  refine lv_aload_n hx hb dX8_done_204 rfl (lv_at hl 3 rfl) ?_
  refine lv_iload hx hb dX8_done_205 (lv_at hl 2 rfl) ?_
  refine lv_iload hx hb dX8_done_207 (lv_at hl 1 rfl) ?_
  obtain ⟨q209, e209, hf⟩ := g_be hf
  refine g_calli X (g_runV (As := [.int v4, .int v11]) (rest := []) C X (cR_whenUnder l E A o ad w23 q209.2 q209.1 v4 v11 e209) kX8_whenUnder m_865 0 6 rfl rfl hl.1 rfl ⟨Nat.le_of_ble_eq_true rfl, Nat.le_of_ble_eq_true rfl⟩ rfl (Nat.le_of_ble_eq_true rfl) dX8_done_209 ⟨Nat.le_of_ble_eq_true rfl, Nat.le_of_ble_eq_true rfl⟩) rfl rfl (fun H locs X => ?_)
  exact g_iret (wsR E o ad) C hr hk X hf dX8_done_212
set_option maxRecDepth 100000 in
set_option maxHeartbeats 4000000 in
theorem cR_done_acts (l : Launch) (E : g_Env) (A : Nat → Prop) (o : Nat) (ad : Nat → Nat) (w : RS) (w' : RS) (r : Int32) (a2 : Int32) (a3 : Int64) (hf : fR_done_acts w a2 a3 = some (r, w')) : g_Mi l yX8_done cX8_done 8 ((some .int)) ({ frames := 6, cells := 0, slots := 0, locals := 141 }) E A [.ref o, .ref (ad 6), .int a2, .long a3] (wsR E o ad w) r (wsR E o ad w') := by
  refine g_start (by decide) (Nat.le_of_ble_eq_true rfl) ?_
  intro p e s m below meth c C hr hk hnm ls hl H locs X
  have hx := C.1.1
  have hb := C.1.2.1
  have hl : lv_has ls 8 [(0, .ref o), (1, .ref (ad 6)), (2, .int a2), (3, .long a3)] := hl
  unfold fR_done_acts at hf
  refine lv_aload_n hx hb dX8_done_0 rfl (lv_at hl 1 rfl) ?_
  refine lv_iload_n hx hb dX8_done_1 rfl (lv_at hl 2 rfl) ?_
  refine lv_iconst (v := 1) hx hb dX8_done_2 (by decide) ?_
  refine lv_iadd hx hb dX8_done_3 ?_
  obtain ⟨h4, hf⟩ := g_cke hf
  obtain ⟨v4, e4, hf⟩ := g_le hf
  refine g_iald C X 7 rfl h4 e4 dX8_done_4 ?_
  refine lv_istore (lv' := [(5, .int v4), (0, .ref o), (1, .ref (ad 6)), (2, .int a2), (3, .long a3)]) hx hb dX8_done_5 hl (by decide) rfl (fun ls hl => ?_)
  refine lv_aload_n hx hb dX8_done_7 rfl (lv_at hl 2 rfl) ?_
  refine lv_iload_n hx hb dX8_done_8 rfl (lv_at hl 3 rfl) ?_
  refine lv_iconst (v := 2) hx hb dX8_done_9 (by decide) ?_
  refine lv_iadd hx hb dX8_done_10 ?_
  obtain ⟨h11, hf⟩ := g_cke hf
  obtain ⟨v11, e11, hf⟩ := g_le hf
  refine g_iald C X 7 rfl h11 e11 dX8_done_11 ?_
  refine lv_istore (lv' := [(6, .int v11), (5, .int v4), (0, .ref o), (1, .ref (ad 6)), (2, .int a2), (3, .long a3)]) hx hb dX8_done_12 hl (by decide) rfl (fun ls hl => ?_)
  refine lv_aload_n hx hb dX8_done_14 rfl (lv_at hl 3 rfl) ?_
  refine lv_iload_n hx hb dX8_done_15 rfl (lv_at hl 4 rfl) ?_
  refine lv_iconst (v := 3) hx hb dX8_done_16 (by decide) ?_
  refine lv_iadd hx hb dX8_done_17 ?_
  obtain ⟨h18, hf⟩ := g_cke hf
  obtain ⟨v18, e18, hf⟩ := g_le hf
  refine g_iald C X 7 rfl h18 e18 dX8_done_18 ?_
  refine lv_istore (lv' := [(7, .int v18), (6, .int v11), (5, .int v4), (0, .ref o), (1, .ref (ad 6)), (2, .int a2), (3, .long a3)]) hx hb dX8_done_19 hl (by decide) rfl (fun ls hl => ?_)
  refine lv_aload_n hx hb dX8_done_21 rfl (lv_at hl 3 rfl) ?_
  refine lv_iconst (v := 0) hx hb dX8_done_22 (by decide) ?_
  obtain ⟨w23, e23, hf⟩ := g_le hf
  refine g_put C X g_iX8 tyX8_ok nmX8 0 rfl rfl 15 (by decide) rfl m_656 rfl rfl rfl (Nat.le_of_ble_eq_true rfl) dX8_done_23 (ws2 := wsR E o ad w23) (by subst e23; rfl) (fun H locs X => ?_)
  refine lv_aload_n hx hb dX8_done_26 rfl (lv_at hl 4 rfl) ?_
  refine lv_iload_n hx hb dX8_done_27 rfl (lv_at hl 5 rfl) ?_
  obtain ⟨h28, hf⟩ := g_cke hf
  obtain ⟨v28, e28, hf⟩ := g_le hf
  refine g_iald C X 7 rfl h28 e28 dX8_done_28 ?_
  by_cases s29_0 : v28 = (1 : Int32)
  · have hf := g_t hf s29_0
    refine g_tabIn (tgt := 88) hx hb s29_0 dX8_done_29 (by decide) (by decide) rfl (by decide) ?_
    refine lv_aload_n hx hb dX8_done_88 rfl (lv_at hl 3 rfl) ?_
    refine lv_iload hx hb dX8_done_89 (lv_at hl 2 rfl) ?_
    refine lv_iload hx hb dX8_done_91 (lv_at hl 1 rfl) ?_
    refine lv_iload hx hb dX8_done_93 (lv_at hl 0 rfl) ?_
    obtain ⟨q95, e95, hf⟩ := g_be hf
    refine g_calli X (g_runV (As := [.int v4, .int v11, .int v18]) (rest := []) C X (cR_makeNew l E A o ad w23 q95.2 q95.1 v4 v11 v18 e95) kX8_makeNew m_719 0 6 rfl rfl hl.1 rfl ⟨Nat.le_of_ble_eq_true rfl, Nat.le_of_ble_eq_true rfl⟩ rfl (Nat.le_of_ble_eq_true rfl) dX8_done_95 ⟨Nat.le_of_ble_eq_true rfl, Nat.le_of_ble_eq_true rfl⟩) rfl rfl (fun H locs X => ?_)
    exact g_iret (wsR E o ad) C hr hk X hf dX8_done_98
  have hf := g_f hf s29_0
  by_cases s29_1 : v28 = (2 : Int32)
  · have hf := g_t hf s29_1
    refine g_tabIn (tgt := 99) hx hb s29_1 dX8_done_29 (by decide) (by decide) rfl (by decide) ?_
    refine lv_aload_n hx hb dX8_done_99 rfl (lv_at hl 3 rfl) ?_
    refine lv_iload hx hb dX8_done_100 (lv_at hl 2 rfl) ?_
    refine lv_iload hx hb dX8_done_102 (lv_at hl 1 rfl) ?_
    obtain ⟨q104, e104, hf⟩ := g_be hf
    refine g_calli X (g_runV (As := [.int v4, .int v11]) (rest := []) C X (cR_layOn l E A o ad w23 q104.2 q104.1 v4 v11 e104) kX8_layOn m_748 0 6 rfl rfl hl.1 rfl ⟨Nat.le_of_ble_eq_true rfl, Nat.le_of_ble_eq_true rfl⟩ rfl (Nat.le_of_ble_eq_true rfl) dX8_done_104 ⟨Nat.le_of_ble_eq_true rfl, Nat.le_of_ble_eq_true rfl⟩) rfl rfl (fun H locs X => ?_)
    exact g_iret (wsR E o ad) C hr hk X hf dX8_done_107
  have hf := g_f hf s29_1
  by_cases s29_2 : v28 = (3 : Int32)
  · have hf := g_t hf s29_2
    refine g_tabIn (tgt := 108) hx hb s29_2 dX8_done_29 (by decide) (by decide) rfl (by decide) ?_
    refine lv_aload_n hx hb dX8_done_108 rfl (lv_at hl 3 rfl) ?_
    refine lv_iload hx hb dX8_done_109 (lv_at hl 2 rfl) ?_
    refine lv_iload hx hb dX8_done_111 (lv_at hl 1 rfl) ?_
    refine lv_iload hx hb dX8_done_113 (lv_at hl 0 rfl) ?_
    obtain ⟨q115, e115, hf⟩ := g_be hf
    refine g_calli X (g_runV (As := [.int v4, .int v11, .int v18]) (rest := []) C X (cR_plugIn l E A o ad w23 q115.2 q115.1 v4 v11 v18 e115) kX8_plugIn m_752 0 6 rfl rfl hl.1 rfl ⟨Nat.le_of_ble_eq_true rfl, Nat.le_of_ble_eq_true rfl⟩ rfl (Nat.le_of_ble_eq_true rfl) dX8_done_115 ⟨Nat.le_of_ble_eq_true rfl, Nat.le_of_ble_eq_true rfl⟩) rfl rfl (fun H locs X => ?_)
    exact g_iret (wsR E o ad) C hr hk X hf dX8_done_118
  have hf := g_f hf s29_2
  by_cases s29_3 : v28 = (4 : Int32)
  · have hf := g_t hf s29_3
    refine g_tabIn (tgt := 119) hx hb s29_3 dX8_done_29 (by decide) (by decide) rfl (by decide) ?_
    refine lv_aload_n hx hb dX8_done_119 rfl (lv_at hl 3 rfl) ?_
    refine lv_iload hx hb dX8_done_120 (lv_at hl 2 rfl) ?_
    refine lv_iload hx hb dX8_done_122 (lv_at hl 1 rfl) ?_
    refine lv_iload hx hb dX8_done_124 (lv_at hl 0 rfl) ?_
    obtain ⟨q126, e126, hf⟩ := g_be hf
    refine g_calli X (g_runV (As := [.int v4, .int v11, .int v18]) (rest := []) C X (cR_pullOut l E A o ad w23 q126.2 q126.1 v4 v11 v18 e126) kX8_pullOut m_787 0 6 rfl rfl hl.1 rfl ⟨Nat.le_of_ble_eq_true rfl, Nat.le_of_ble_eq_true rfl⟩ rfl (Nat.le_of_ble_eq_true rfl) dX8_done_126 ⟨Nat.le_of_ble_eq_true rfl, Nat.le_of_ble_eq_true rfl⟩) rfl rfl (fun H locs X => ?_)
    exact g_iret (wsR E o ad) C hr hk X hf dX8_done_129
  have hf := g_f hf s29_3
  by_cases s29_4 : v28 = (5 : Int32)
  · have hf := g_t hf s29_4
    refine g_tabIn (tgt := 130) hx hb s29_4 dX8_done_29 (by decide) (by decide) rfl (by decide) ?_
    refine lv_aload_n hx hb dX8_done_130 rfl (lv_at hl 3 rfl) ?_
    refine lv_iload hx hb dX8_done_131 (lv_at hl 2 rfl) ?_
    refine lv_iload hx hb dX8_done_133 (lv_at hl 1 rfl) ?_
    refine lv_iload hx hb dX8_done_135 (lv_at hl 0 rfl) ?_
    refine lv_aload_n hx hb dX8_done_137 rfl (lv_at hl 4 rfl) ?_
    refine lv_iload_n hx hb dX8_done_138 rfl (lv_at hl 5 rfl) ?_
    refine lv_iconst (v := 4) hx hb dX8_done_139 (by decide) ?_
    refine lv_iadd hx hb dX8_done_140 ?_
    obtain ⟨h141, hf⟩ := g_cke hf
    obtain ⟨v141, e141, hf⟩ := g_le hf
    refine g_iald C X 7 rfl h141 e141 dX8_done_141 ?_
    refine lv_aload_n hx hb dX8_done_142 rfl (lv_at hl 4 rfl) ?_
    refine lv_iload_n hx hb dX8_done_143 rfl (lv_at hl 5 rfl) ?_
    refine lv_iconst (v := 5) hx hb dX8_done_144 (by decide) ?_
    refine lv_iadd hx hb dX8_done_145 ?_
    obtain ⟨h146, hf⟩ := g_cke hf
    obtain ⟨v146, e146, hf⟩ := g_le hf
    refine g_iald C X 7 rfl h146 e146 dX8_done_146 ?_
    obtain ⟨q147, e147, hf⟩ := g_be hf
    refine g_calli X (g_runV (As := [.int v4, .int v11, .int v18, .int v141, .int v146]) (rest := []) C X (cR_copyOver l E A o ad w23 q147.2 q147.1 v4 v11 v18 v141 v146 e147) kX8_copyOver m_791 0 6 rfl rfl hl.1 rfl ⟨Nat.le_of_ble_eq_true rfl, Nat.le_of_ble_eq_true rfl⟩ rfl (Nat.le_of_ble_eq_true rfl) dX8_done_147 ⟨Nat.le_of_ble_eq_true rfl, Nat.le_of_ble_eq_true rfl⟩) rfl rfl (fun H locs X => ?_)
    exact g_iret (wsR E o ad) C hr hk X hf dX8_done_150
  have hf := g_f hf s29_4
  by_cases s29_5 : v28 = (6 : Int32)
  · have hf := g_t hf s29_5
    refine g_tabIn (tgt := 151) hx hb s29_5 dX8_done_29 (by decide) (by decide) rfl (by decide) ?_
    refine lv_aload_n hx hb dX8_done_151 rfl (lv_at hl 3 rfl) ?_
    refine lv_iload hx hb dX8_done_152 (lv_at hl 2 rfl) ?_
    refine lv_iload hx hb dX8_done_154 (lv_at hl 1 rfl) ?_
    refine lv_lload_n hx hb dX8_done_156 rfl (lv_at hl 6 rfl) ?_
    obtain ⟨q157, e157, hf⟩ := g_be hf
    refine g_calli X (g_runV (As := [.int v4, .int v11, .long a3]) (rest := []) C X (cR_writeIn l E A o ad w23 q157.2 q157.1 v4 v11 a3 e157) kX8_writeIn m_802 0 6 rfl rfl hl.1 rfl ⟨Nat.le_of_ble_eq_true rfl, Nat.le_of_ble_eq_true rfl⟩ rfl (Nat.le_of_ble_eq_true rfl) dX8_done_157 ⟨Nat.le_of_ble_eq_true rfl, Nat.le_of_ble_eq_true rfl⟩) rfl rfl (fun H locs X => ?_)
    exact g_iret (wsR E o ad) C hr hk X hf dX8_done_160
  have hf := g_f hf s29_5
  by_cases s29_6 : v28 = (7 : Int32)
  · have hf := g_t hf s29_6
    refine g_tabIn (tgt := 161) hx hb s29_6 dX8_done_29 (by decide) (by decide) rfl (by decide) ?_
    refine lv_aload_n hx hb dX8_done_161 rfl (lv_at hl 3 rfl) ?_
    refine lv_iload hx hb dX8_done_162 (lv_at hl 2 rfl) ?_
    refine lv_iload hx hb dX8_done_164 (lv_at hl 1 rfl) ?_
    obtain ⟨q166, e166, hf⟩ := g_be hf
    refine g_calli X (g_runV (As := [.int v4, .int v11]) (rest := []) C X (cR_knobTo l E A o ad w23 q166.2 q166.1 v4 v11 e166) kX8_knobTo m_806 0 6 rfl rfl hl.1 rfl ⟨Nat.le_of_ble_eq_true rfl, Nat.le_of_ble_eq_true rfl⟩ rfl (Nat.le_of_ble_eq_true rfl) dX8_done_166 ⟨Nat.le_of_ble_eq_true rfl, Nat.le_of_ble_eq_true rfl⟩) rfl rfl (fun H locs X => ?_)
    exact g_iret (wsR E o ad) C hr hk X hf dX8_done_169
  have hf := g_f hf s29_6
  by_cases s29_7 : v28 = (8 : Int32)
  · have hf := g_t hf s29_7
    refine g_tabIn (tgt := 170) hx hb s29_7 dX8_done_29 (by decide) (by decide) rfl (by decide) ?_
    refine lv_aload_n hx hb dX8_done_170 rfl (lv_at hl 3 rfl) ?_
    refine lv_iload hx hb dX8_done_171 (lv_at hl 2 rfl) ?_
    refine lv_iload hx hb dX8_done_173 (lv_at hl 1 rfl) ?_
    obtain ⟨q175, e175, hf⟩ := g_be hf
    refine g_calli X (g_runV (As := [.int v4, .int v11]) (rest := []) C X (cR_playBy l E A o ad w23 q175.2 q175.1 v4 v11 e175) kX8_playBy m_810 0 6 rfl rfl hl.1 rfl ⟨Nat.le_of_ble_eq_true rfl, Nat.le_of_ble_eq_true rfl⟩ rfl (Nat.le_of_ble_eq_true rfl) dX8_done_175 ⟨Nat.le_of_ble_eq_true rfl, Nat.le_of_ble_eq_true rfl⟩) rfl rfl (fun H locs X => ?_)
    exact g_iret (wsR E o ad) C hr hk X hf dX8_done_178
  have hf := g_f hf s29_7
  by_cases s29_8 : v28 = (9 : Int32)
  · have hf := g_t hf s29_8
    refine g_tabIn (tgt := 179) hx hb s29_8 dX8_done_29 (by decide) (by decide) rfl (by decide) ?_
    refine lv_aload_n hx hb dX8_done_179 rfl (lv_at hl 3 rfl) ?_
    refine lv_iload hx hb dX8_done_180 (lv_at hl 2 rfl) ?_
    refine lv_iload hx hb dX8_done_182 (lv_at hl 1 rfl) ?_
    obtain ⟨q184, e184, hf⟩ := g_be hf
    refine g_calli X (g_runV (As := [.int v4, .int v11]) (rest := []) C X (cR_runOver l E A o ad w23 q184.2 q184.1 v4 v11 e184) kX8_runOver m_841 0 6 rfl rfl hl.1 rfl ⟨Nat.le_of_ble_eq_true rfl, Nat.le_of_ble_eq_true rfl⟩ rfl (Nat.le_of_ble_eq_true rfl) dX8_done_184 ⟨Nat.le_of_ble_eq_true rfl, Nat.le_of_ble_eq_true rfl⟩) rfl rfl (fun H locs X => ?_)
    exact g_iret (wsR E o ad) C hr hk X hf dX8_done_187
  have hf := g_f hf s29_8
  by_cases s29_9 : v28 = (10 : Int32)
  · have hf := g_t hf s29_9
    refine g_tabIn (tgt := 188) hx hb s29_9 dX8_done_29 (by decide) (by decide) rfl (by decide) ?_
    refine lv_aload_n hx hb dX8_done_188 rfl (lv_at hl 3 rfl) ?_
    refine lv_iload hx hb dX8_done_189 (lv_at hl 2 rfl) ?_
    refine lv_iload hx hb dX8_done_191 (lv_at hl 1 rfl) ?_
    obtain ⟨q193, e193, hf⟩ := g_be hf
    refine g_calli X (g_runV (As := [.int v4, .int v11]) (rest := []) C X (cR_ticksBy l E A o ad w23 q193.2 q193.1 v4 v11 e193) kX8_ticksBy m_845 0 6 rfl rfl hl.1 rfl ⟨Nat.le_of_ble_eq_true rfl, Nat.le_of_ble_eq_true rfl⟩ rfl (Nat.le_of_ble_eq_true rfl) dX8_done_193 ⟨Nat.le_of_ble_eq_true rfl, Nat.le_of_ble_eq_true rfl⟩) rfl rfl (fun H locs X => ?_)
    exact g_iret (wsR E o ad) C hr hk X hf dX8_done_196
  have hf := g_f hf s29_9
  by_cases s29_10 : v28 = (11 : Int32)
  · have hf := g_t hf s29_10
    refine g_tabIn (tgt := 197) hx hb s29_10 dX8_done_29 (by decide) (by decide) rfl (by decide) ?_
    refine lv_aload_n hx hb dX8_done_197 rfl (lv_at hl 3 rfl) ?_
    refine lv_iload hx hb dX8_done_198 (lv_at hl 2 rfl) ?_
    obtain ⟨q200, e200, hf⟩ := g_be hf
    refine g_calli X (g_runV (As := [.int v4]) (rest := []) C X (cR_restOf l E A o ad w23 q200.2 q200.1 v4 e200) kX8_restOf m_853 0 6 rfl rfl hl.1 rfl ⟨Nat.le_of_ble_eq_true rfl, Nat.le_of_ble_eq_true rfl⟩ rfl (Nat.le_of_ble_eq_true rfl) dX8_done_200 ⟨Nat.le_of_ble_eq_true rfl, Nat.le_of_ble_eq_true rfl⟩) rfl rfl (fun H locs X => ?_)
    exact g_iret (wsR E o ad) C hr hk X hf dX8_done_203
  have hf := g_f hf s29_10
  refine lv_tableOut (tgt := 204) hx hb dX8_done_29 (by have z0 := g_ne (1) s29_0 (by decide); have z1 := g_ne (2) s29_1 (by decide); have z2 := g_ne (3) s29_2 (by decide); have z3 := g_ne (4) s29_3 (by decide); have z4 := g_ne (5) s29_4 (by decide); have z5 := g_ne (6) s29_5 (by decide); have z6 := g_ne (7) s29_6 (by decide); have z7 := g_ne (8) s29_7 (by decide); have z8 := g_ne (9) s29_8 (by decide); have z9 := g_ne (10) s29_9 (by decide); have z10 := g_ne (11) s29_10 (by decide); omega) (by decide) ?_
  refine lv_aload_n hx hb dX8_done_204 rfl (lv_at hl 3 rfl) ?_
  refine lv_iload hx hb dX8_done_205 (lv_at hl 2 rfl) ?_
  refine lv_iload hx hb dX8_done_207 (lv_at hl 1 rfl) ?_
  obtain ⟨q209, e209, hf⟩ := g_be hf
  refine g_calli X (g_runV (As := [.int v4, .int v11]) (rest := []) C X (cR_whenUnder l E A o ad w23 q209.2 q209.1 v4 v11 e209) kX8_whenUnder m_865 0 6 rfl rfl hl.1 rfl ⟨Nat.le_of_ble_eq_true rfl, Nat.le_of_ble_eq_true rfl⟩ rfl (Nat.le_of_ble_eq_true rfl) dX8_done_209 ⟨Nat.le_of_ble_eq_true rfl, Nat.le_of_ble_eq_true rfl⟩) rfl rfl (fun H locs X => ?_)
  exact g_iret (wsR E o ad) C hr hk X hf dX8_done_212
set_option maxRecDepth 100000 in
set_option maxHeartbeats 4000000 in
theorem cR_carried (l : Launch) (E : g_Env) (A : Nat → Prop) (o : Nat) (ad : Nat → Nat) (w : RS) (w' : RS) (r : Int32) (a1 : Int32) (a2 : Int32) (a3 : Int32) (hf : fR_carried w a1 a2 a3 = some (r, w')) : g_Mi l yX8_carried cX8_carried 9 ((some .int)) ({ frames := 7, cells := 0, slots := 0, locals := 168 }) E A [.ref o, .int a1, .int a2, .int a3] (wsR E o ad w) r (wsR E o ad w') := by
  refine g_start (by decide) (Nat.le_of_ble_eq_true rfl) ?_
  intro p e s m below meth c C hr hk hnm ls hl H locs X
  have hx := C.1.1
  have hb := C.1.2.1
  have hl : lv_has ls 9 [(0, .ref o), (1, .int a1), (2, .int a2), (3, .int a3)] := hl
  have j6 : ∀ (n : Nat) (w : RS) (x1 : Int32) (x2 : Int32) (x3 : Int32) (x4 : Int32) (x5 : Int32) (ls : Array Slot) (H : Heap) (locs : List Loc), fR_carried_6 n w x1 x2 x3 x4 x5 = some (r, w') → lv_has ls 9 [(0, .ref o), (1, .int x1), (2, .int x2), (3, .int x3), (4, .int x4), (5, .int x5)] → g_W E A s H locs (wsR E o ad w) → W p l e ({ frames := 7, cells := 0, slots := 0, locals := 168 }) s m ([.ref o, .int a1, .int a2, .int a3] : List Value).toArray below meth c H locs 0 0 (MQ below (va_Qi (fun (r' : Int32) (u' : va_W) => r' = r ∧ u' = wsR E o ad w') (g_B E A) A) ([.ref o, .int a1, .int a2, .int a3] : List Value).toArray s 0 0 A) (F0 m 6 ls []) := by
    intro n
    induction n with
    | zero => intro w x1 x2 x3 x4 x5 ls H locs hf; exact absurd hf (by simp [fR_carried_6])
    | succ n6 ih6 =>
      intro w x1 x2 x3 x4 x5 ls H locs hf hl X
      have j18 : ∀ (n : Nat) (w : RS) (x1 : Int32) (x2 : Int32) (x3 : Int32) (x4 : Int32) (x5 : Int32) (x6 : Int32) (x7 : Int32) (ls : Array Slot) (H : Heap) (locs : List Loc), fR_carried_18 (fR_carried_6 n6) n w x1 x2 x3 x4 x5 x6 x7 = some (r, w') → lv_has ls 9 [(0, .ref o), (1, .int x1), (2, .int x2), (3, .int x3), (4, .int x4), (5, .int x5), (6, .int x6), (7, .int x7)] → g_W E A s H locs (wsR E o ad w) → W p l e ({ frames := 7, cells := 0, slots := 0, locals := 168 }) s m ([.ref o, .int a1, .int a2, .int a3] : List Value).toArray below meth c H locs 0 0 (MQ below (va_Qi (fun (r' : Int32) (u' : va_W) => r' = r ∧ u' = wsR E o ad w') (g_B E A) A) ([.ref o, .int a1, .int a2, .int a3] : List Value).toArray s 0 0 A) (F0 m 18 ls []) := by
        intro n
        induction n with
        | zero => intro w x1 x2 x3 x4 x5 x6 x7 ls H locs hf; exact absurd hf (by simp [fR_carried_18])
        | succ n18 ih18 =>
          intro w x1 x2 x3 x4 x5 x6 x7 ls H locs hf hl X
          have j109 : ∀ (w : RS) (x1 : Int32) (x2 : Int32) (x3 : Int32) (x4 : Int32) (x5 : Int32) (x6 : Int32) (x7 : Int32) (ls : Array Slot) (H : Heap) (locs : List Loc), fR_carried_109 (fR_carried_6 n6) (fR_carried_18 (fR_carried_6 n6) n18) w x1 x2 x3 x4 x5 x6 x7 = some (r, w') → lv_has ls 9 [(0, .ref o), (1, .int x1), (2, .int x2), (3, .int x3), (4, .int x4), (5, .int x5), (6, .int x6), (7, .int x7)] → g_W E A s H locs (wsR E o ad w) → W p l e ({ frames := 7, cells := 0, slots := 0, locals := 168 }) s m ([.ref o, .int a1, .int a2, .int a3] : List Value).toArray below meth c H locs 0 0 (MQ below (va_Qi (fun (r' : Int32) (u' : va_W) => r' = r ∧ u' = wsR E o ad w') (g_B E A) A) ([.ref o, .int a1, .int a2, .int a3] : List Value).toArray s 0 0 A) (F0 m 109 ls []) := by
            intro w x1 x2 x3 x4 x5 x6 x7 ls H locs hf hl X
            unfold fR_carried_109 at hf
            refine lv_iinc (v := x7 + (1 : Int32)) (lv' := [(7, .int (x7 + (1 : Int32))), (0, .ref o), (1, .int x1), (2, .int x2), (3, .int x3), (4, .int x4), (5, .int x5), (6, .int x6)]) hx hb dX8_carried_109 hl (k := 7) rfl rfl (by decide) rfl (fun ls hl => ?_)
            refine lv_goto (tgt := 18) hx hb dX8_carried_112 (by decide) ?_
            exact ih18 w x1 x2 x3 x4 x5 x6 (x7 + (1 : Int32)) ls H locs hf (lv_sub hl [1, 2, 3, 4, 5, 6, 7, 0] rfl) X
          have j100 : ∀ (w : RS) (x1 : Int32) (x2 : Int32) (x3 : Int32) (x4 : Int32) (x5 : Int32) (x7 : Int32) (x8 : Int32) (t0 : Int32) (ls : Array Slot) (H : Heap) (locs : List Loc), fR_carried_100 (fR_carried_6 n6) (fR_carried_18 (fR_carried_6 n6) n18) w x1 x2 x3 x4 x5 x7 x8 t0 = some (r, w') → lv_has ls 9 [(0, .ref o), (1, .int x1), (2, .int x2), (3, .int x3), (4, .int x4), (5, .int x5), (7, .int x7), (8, .int x8)] → g_W E A s H locs (wsR E o ad w) → W p l e ({ frames := 7, cells := 0, slots := 0, locals := 168 }) s m ([.ref o, .int a1, .int a2, .int a3] : List Value).toArray below meth c H locs 0 0 (MQ below (va_Qi (fun (r' : Int32) (u' : va_W) => r' = r ∧ u' = wsR E o ad w') (g_B E A) A) ([.ref o, .int a1, .int a2, .int a3] : List Value).toArray s 0 0 A) (F0 m 100 ls [.int t0]) := by
            intro w x1 x2 x3 x4 x5 x7 x8 t0 ls H locs hf hl X
            unfold fR_carried_100 at hf
            refine lv_istore (lv' := [(6, .int t0), (0, .ref o), (1, .int x1), (2, .int x2), (3, .int x3), (4, .int x4), (5, .int x5), (7, .int x7), (8, .int x8)]) hx hb dX8_carried_100 hl (by decide) rfl (fun ls hl => ?_)
            refine lv_iload hx hb dX8_carried_102 (lv_at hl 5 rfl) ?_
            refine lv_iload hx hb dX8_carried_104 (lv_at hl 8 rfl) ?_
            refine lv_iadd hx hb dX8_carried_106 ?_
            refine lv_istore (lv' := [(4, .int (x4 + x8)), (6, .int t0), (0, .ref o), (1, .int x1), (2, .int x2), (3, .int x3), (5, .int x5), (7, .int x7), (8, .int x8)]) hx hb dX8_carried_107 hl (by decide) rfl (fun ls hl => ?_)
            exact j109 w x1 x2 x3 (x4 + x8) x5 t0 x7 ls H locs hf (lv_sub hl [2, 3, 4, 5, 0, 6, 1, 7] rfl) X
          have j99 : ∀ (w : RS) (x1 : Int32) (x2 : Int32) (x3 : Int32) (x4 : Int32) (x5 : Int32) (x7 : Int32) (x8 : Int32) (ls : Array Slot) (H : Heap) (locs : List Loc), fR_carried_99 (fR_carried_6 n6) (fR_carried_18 (fR_carried_6 n6) n18) w x1 x2 x3 x4 x5 x7 x8 = some (r, w') → lv_has ls 9 [(0, .ref o), (1, .int x1), (2, .int x2), (3, .int x3), (4, .int x4), (5, .int x5), (7, .int x7), (8, .int x8)] → g_W E A s H locs (wsR E o ad w) → W p l e ({ frames := 7, cells := 0, slots := 0, locals := 168 }) s m ([.ref o, .int a1, .int a2, .int a3] : List Value).toArray below meth c H locs 0 0 (MQ below (va_Qi (fun (r' : Int32) (u' : va_W) => r' = r ∧ u' = wsR E o ad w') (g_B E A) A) ([.ref o, .int a1, .int a2, .int a3] : List Value).toArray s 0 0 A) (F0 m 99 ls []) := by
            intro w x1 x2 x3 x4 x5 x7 x8 ls H locs hf hl X
            unfold fR_carried_99 at hf
            refine lv_iconst (v := 0) hx hb dX8_carried_99 (by decide) ?_
            exact j100 w x1 x2 x3 x4 x5 x7 x8 (0 : Int32) ls H locs hf (lv_sub hl [0, 1, 2, 3, 4, 5, 6, 7] rfl) X
          unfold fR_carried_18 at hf
          refine lv_iload hx hb dX8_carried_18 (lv_at hl 7 rfl) ?_
          refine lv_iload_n hx hb dX8_carried_20 rfl (lv_at hl 3 rfl) ?_
          refine lv_icmp_ge (tgt := 115) hx hb dX8_carried_21 (by decide) (fun c21 => ?_) (fun c21 => ?_)
          · have hf := g_t hf c21
            refine lv_iinc (v := x5 + (1 : Int32)) (lv' := [(5, .int (x5 + (1 : Int32))), (0, .ref o), (1, .int x1), (2, .int x2), (3, .int x3), (4, .int x4), (6, .int x6), (7, .int x7)]) hx hb dX8_carried_115 hl (k := 5) rfl rfl (by decide) rfl (fun ls hl => ?_)
            refine lv_goto (tgt := 6) hx hb dX8_carried_118 (by decide) ?_
            exact ih6 w x1 x2 x3 x4 (x5 + (1 : Int32)) ls H locs hf (lv_sub hl [1, 2, 3, 4, 5, 0] rfl) X
          · have hf := g_f hf c21
            refine lv_iload hx hb dX8_carried_24 (lv_at hl 6 rfl) ?_
            refine lv_if_eq (tgt := 35) hx hb dX8_carried_26 (by decide) (fun c26 => ?_) (fun c26 => ?_)
            · have hf := g_t hf c26
              refine lv_aload_n hx hb dX8_carried_35 rfl (lv_at hl 0 rfl) ?_
              refine lv_aload_n hx hb dX8_carried_36 rfl (lv_at hl 0 rfl) ?_
              refine g_get C X g_iX8 0 rfl rfl 9 (by decide) rfl m_650 rfl dX8_carried_37 ?_
              refine lv_bipush (v := 6) hx hb dX8_carried_40 (by decide) ?_
              refine lv_iload_n hx hb dX8_carried_42 rfl (lv_at hl 2 rfl) ?_
              refine lv_iload hx hb dX8_carried_43 (lv_at hl 7 rfl) ?_
              refine lv_iadd hx hb dX8_carried_45 ?_
              refine lv_imul hx hb dX8_carried_46 ?_
              refine lv_aload_n hx hb dX8_carried_47 rfl (lv_at hl 0 rfl) ?_
              refine g_get C X g_iX8 0 rfl rfl 10 (by decide) rfl m_651 rfl dX8_carried_48 ?_
              refine lv_iload_n hx hb dX8_carried_51 rfl (lv_at hl 2 rfl) ?_
              refine lv_iload hx hb dX8_carried_52 (lv_at hl 7 rfl) ?_
              refine lv_iadd hx hb dX8_carried_54 ?_
              obtain ⟨h55, hf⟩ := g_cke hf
              obtain ⟨v55, e55, hf⟩ := g_le hf
              refine g_lald C X 10 rfl h55 e55 dX8_carried_55 ?_
              obtain ⟨q56, e56, hf⟩ := g_be hf
              refine g_calli X (g_runV (As := [.ref (ad 9), .int ((6 : Int32) * (x2 + x7)), .long v55]) (rest := []) C X (cR_done_lines l E A o ad w q56.2 q56.1 ((6 : Int32) * (x2 + x7)) v55 e56) kX8_done m_715 0 6 rfl rfl hl.1 rfl ⟨Nat.le_of_ble_eq_true rfl, Nat.le_of_ble_eq_true rfl⟩ rfl (Nat.le_of_ble_eq_true rfl) dX8_carried_56 ⟨Nat.le_of_ble_eq_true rfl, Nat.le_of_ble_eq_true rfl⟩) rfl rfl (fun H locs X => ?_)
              refine lv_istore (lv' := [(8, .int q56.1), (0, .ref o), (1, .int x1), (2, .int x2), (3, .int x3), (4, .int x4), (5, .int x5), (6, .int x6), (7, .int x7)]) hx hb dX8_carried_59 hl (by decide) rfl (fun ls hl => ?_)
              refine lv_aload_n hx hb dX8_carried_61 rfl (lv_at hl 1 rfl) ?_
              refine g_get C X g_iX8 0 rfl rfl 15 (by decide) rfl m_656 rfl dX8_carried_62 ?_
              refine lv_if_le (tgt := 73) hx hb dX8_carried_65 (by decide) (fun c65 => ?_) (fun c65 => ?_)
              · have hf := g_t hf c65
                refine lv_aload_n hx hb dX8_carried_73 rfl (lv_at hl 1 rfl) ?_
                refine g_get C X g_iX8 0 rfl rfl 9 (by decide) rfl m_650 rfl dX8_carried_74 ?_
                refine lv_bipush (v := 6) hx hb dX8_carried_77 (by decide) ?_
                refine lv_iload_n hx hb dX8_carried_79 rfl (lv_at hl 3 rfl) ?_
                refine lv_iload hx hb dX8_carried_80 (lv_at hl 8 rfl) ?_
                refine lv_iadd hx hb dX8_carried_82 ?_
                refine lv_imul hx hb dX8_carried_83 ?_
                obtain ⟨h84, hf⟩ := g_cke hf
                obtain ⟨v84, e84, hf⟩ := g_le hf
                refine g_iald C X 9 rfl h84 e84 dX8_carried_84 ?_
                refine lv_bipush (v := 12) hx hb dX8_carried_85 (by decide) ?_
                refine lv_icmp_ne (tgt := 99) hx hb dX8_carried_87 (by decide) (fun c87 => ?_) (fun c87 => ?_)
                · have hf := g_f hf c87
                  exact j99 q56.2 x1 x2 x3 x4 x5 x7 q56.1 ls H locs hf (lv_sub hl [1, 2, 3, 4, 5, 6, 8, 0] rfl) X
                · have hf := g_t hf c87
                  refine lv_iload hx hb dX8_carried_90 (lv_at hl 0 rfl) ?_
                  refine lv_if_ne (tgt := 99) hx hb dX8_carried_92 (by decide) (fun c92 => ?_) (fun c92 => ?_)
                  · have hf := g_f hf c92
                    exact j99 q56.2 x1 x2 x3 x4 x5 x7 q56.1 ls H locs hf (lv_sub hl [1, 2, 3, 4, 5, 6, 8, 0] rfl) X
                  · have hf := g_t hf c92
                    refine lv_iconst (v := 1) hx hb dX8_carried_95 (by decide) ?_
                    refine lv_goto (tgt := 100) hx hb dX8_carried_96 (by decide) ?_
                    exact j100 q56.2 x1 x2 x3 x4 x5 x7 q56.1 (1 : Int32) ls H locs hf (lv_sub hl [1, 2, 3, 4, 5, 6, 8, 0] rfl) X
              · have hf := g_f hf c65
                refine lv_iload hx hb dX8_carried_68 (lv_at hl 8 rfl) ?_
                refine lv_iconst (v := 1) hx hb dX8_carried_70 (by decide) ?_
                refine lv_iadd hx hb dX8_carried_71 ?_
                exact g_iret (wsR E o ad) C hr hk X hf dX8_carried_72
            · have hf := g_f hf c26
              refine lv_iconst (v := 0) hx hb dX8_carried_29 (by decide) ?_
              refine lv_istore (lv' := [(6, .int (0 : Int32)), (0, .ref o), (1, .int x1), (2, .int x2), (3, .int x3), (4, .int x4), (5, .int x5), (7, .int x7)]) hx hb dX8_carried_30 hl (by decide) rfl (fun ls hl => ?_)
              refine lv_goto (tgt := 109) hx hb dX8_carried_32 (by decide) ?_
              exact j109 w x1 x2 x3 x4 x5 (0 : Int32) x7 ls H locs hf (lv_sub hl [1, 2, 3, 4, 5, 6, 0, 7] rfl) X
      unfold fR_carried_6 at hf
      refine lv_iload hx hb dX8_carried_6 (lv_at hl 5 rfl) ?_
      refine lv_iload_n hx hb dX8_carried_8 rfl (lv_at hl 1 rfl) ?_
      refine lv_icmp_ge (tgt := 121) hx hb dX8_carried_9 (by decide) (fun c9 => ?_) (fun c9 => ?_)
      · have hf := g_t hf c9
        refine lv_iload hx hb dX8_carried_121 (lv_at hl 4 rfl) ?_
        exact g_iret (wsR E o ad) C hr hk X hf dX8_carried_123
      · have hf := g_f hf c9
        refine lv_iconst (v := 0) hx hb dX8_carried_12 (by decide) ?_
        refine lv_istore (lv' := [(6, .int (0 : Int32)), (0, .ref o), (1, .int x1), (2, .int x2), (3, .int x3), (4, .int x4), (5, .int x5)]) hx hb dX8_carried_13 hl (by decide) rfl (fun ls hl => ?_)
        refine lv_iconst (v := 0) hx hb dX8_carried_15 (by decide) ?_
        refine lv_istore (lv' := [(7, .int (0 : Int32)), (6, .int (0 : Int32)), (0, .ref o), (1, .int x1), (2, .int x2), (3, .int x3), (4, .int x4), (5, .int x5)]) hx hb dX8_carried_16 hl (by decide) rfl (fun ls hl => ?_)
        exact j18 g_fuel w x1 x2 x3 x4 x5 (0 : Int32) (0 : Int32) ls H locs hf (lv_sub hl [2, 3, 4, 5, 6, 7, 1, 0] rfl) X
  unfold fR_carried at hf
  refine lv_iconst (v := 0) hx hb dX8_carried_0 (by decide) ?_
  refine lv_istore (lv' := [(4, .int (0 : Int32)), (0, .ref o), (1, .int a1), (2, .int a2), (3, .int a3)]) hx hb dX8_carried_1 hl (by decide) rfl (fun ls hl => ?_)
  refine lv_iconst (v := 0) hx hb dX8_carried_3 (by decide) ?_
  refine lv_istore (lv' := [(5, .int (0 : Int32)), (4, .int (0 : Int32)), (0, .ref o), (1, .int a1), (2, .int a2), (3, .int a3)]) hx hb dX8_carried_4 hl (by decide) rfl (fun ls hl => ?_)
  exact j6 g_fuel w a1 a2 a3 (0 : Int32) (0 : Int32) ls H locs hf (lv_sub hl [2, 3, 4, 5, 1, 0] rfl) X
set_option maxRecDepth 100000 in
set_option maxHeartbeats 4000000 in
theorem cR_copyInts_call_acts (l : Launch) (E : g_Env) (A : Nat → Prop) (o : Nat) (ad : Nat → Nat) (w : RS) (w' : RS) (a1 : Int32) (a3 : Int32) (a4 : Int32) (hf : fR_copyInts_call_acts w a1 a3 a4 = some w') : g_Mv l yX8_copyInts cX8_copyInts 6 ({ frames := 0, cells := 0, slots := 0, locals := 0 }) E A [.ref (ad 17), .int a1, .ref (ad 6), .int a3, .int a4] (wsR E o ad w) (wsR E o ad w') := by
  refine g_start (by decide) (Nat.le_of_ble_eq_true rfl) ?_
  intro p e s m below meth c C hr hk hnm ls hl H locs X
  have hx := C.1.1
  have hb := C.1.2.1
  have hl : lv_has ls 6 [(0, .ref (ad 17)), (1, .int a1), (2, .ref (ad 6)), (3, .int a3), (4, .int a4)] := hl
  have j3 : ∀ (n : Nat) (w : RS) (x1 : Int32) (x3 : Int32) (x4 : Int32) (x5 : Int32) (ls : Array Slot) (H : Heap) (locs : List Loc), fR_copyInts_call_acts_3 n w x1 x3 x4 x5 = some w' → lv_has ls 6 [(0, .ref (ad 17)), (1, .int x1), (2, .ref (ad 6)), (3, .int x3), (4, .int x4), (5, .int x5)] → g_W E A s H locs (wsR E o ad w) → W p l e ({ frames := 0, cells := 0, slots := 0, locals := 0 }) s m ([.ref (ad 17), .int a1, .ref (ad 6), .int a3, .int a4] : List Value).toArray below meth c H locs 0 0 (MQ below (va_Qv (fun (u' : va_W) => u' = wsR E o ad w') (g_B E A) A) ([.ref (ad 17), .int a1, .ref (ad 6), .int a3, .int a4] : List Value).toArray s 0 0 A) (F0 m 3 ls []) := by
    intro n
    induction n with
    | zero => intro w x1 x3 x4 x5 ls H locs hf; exact absurd hf (by simp [fR_copyInts_call_acts_3])
    | succ n3 ih3 =>
      intro w x1 x3 x4 x5 ls H locs hf hl X
      unfold fR_copyInts_call_acts_3 at hf
      refine lv_iload hx hb dX8_copyInts_3 (lv_at hl 5 rfl) ?_
      refine lv_iload hx hb dX8_copyInts_5 (lv_at hl 4 rfl) ?_
      refine lv_icmp_ge (tgt := 28) hx hb dX8_copyInts_7 (by decide) (fun c7 => ?_) (fun c7 => ?_)
      · have hf := g_t hf c7
        exact g_vret (wsR E o ad) C hr hk X hf dX8_copyInts_28
      · have hf := g_f hf c7
        refine lv_aload_n hx hb dX8_copyInts_10 rfl (lv_at hl 2 rfl) ?_
        refine lv_iload_n hx hb dX8_copyInts_11 rfl (lv_at hl 3 rfl) ?_
        refine lv_iload hx hb dX8_copyInts_12 (lv_at hl 5 rfl) ?_
        refine lv_iadd hx hb dX8_copyInts_14 ?_
        refine lv_aload_n hx hb dX8_copyInts_15 rfl (lv_at hl 0 rfl) ?_
        refine lv_iload_n hx hb dX8_copyInts_16 rfl (lv_at hl 1 rfl) ?_
        refine lv_iload hx hb dX8_copyInts_17 (lv_at hl 5 rfl) ?_
        refine lv_iadd hx hb dX8_copyInts_19 ?_
        obtain ⟨h20, hf⟩ := g_cke hf
        obtain ⟨v20, e20, hf⟩ := g_le hf
        refine g_iald C X 12 rfl h20 e20 dX8_copyInts_20 ?_
        obtain ⟨h21, hf⟩ := g_cke hf
        obtain ⟨w21, e21, hf⟩ := g_le hf
        refine g_iast C X 7 rfl h21 dX8_copyInts_21 (ws2 := wsR E o ad w21) (by subst e21; rfl) (fun H locs X => ?_)
        refine lv_iinc (v := x5 + (1 : Int32)) (lv' := [(5, .int (x5 + (1 : Int32))), (0, .ref (ad 17)), (1, .int x1), (2, .ref (ad 6)), (3, .int x3), (4, .int x4)]) hx hb dX8_copyInts_22 hl (k := 5) rfl rfl (by decide) rfl (fun ls hl => ?_)
        refine lv_goto (tgt := 3) hx hb dX8_copyInts_25 (by decide) ?_
        exact ih3 w21 x1 x3 x4 (x5 + (1 : Int32)) ls H locs hf (lv_sub hl [1, 2, 3, 4, 5, 0] rfl) X
  unfold fR_copyInts_call_acts at hf
  refine lv_iconst (v := 0) hx hb dX8_copyInts_0 (by decide) ?_
  refine lv_istore (lv' := [(5, .int (0 : Int32)), (0, .ref (ad 17)), (1, .int a1), (2, .ref (ad 6)), (3, .int a3), (4, .int a4)]) hx hb dX8_copyInts_1 hl (by decide) rfl (fun ls hl => ?_)
  exact j3 g_fuel w a1 a3 a4 (0 : Int32) ls H locs hf (lv_sub hl [1, 2, 3, 4, 5, 0] rfl) X
set_option maxRecDepth 100000 in
set_option maxHeartbeats 4000000 in
theorem cR_copyInts_call_lines (l : Launch) (E : g_Env) (A : Nat → Prop) (o : Nat) (ad : Nat → Nat) (w : RS) (w' : RS) (a1 : Int32) (a3 : Int32) (a4 : Int32) (hf : fR_copyInts_call_lines w a1 a3 a4 = some w') : g_Mv l yX8_copyInts cX8_copyInts 6 ({ frames := 0, cells := 0, slots := 0, locals := 0 }) E A [.ref (ad 17), .int a1, .ref (ad 9), .int a3, .int a4] (wsR E o ad w) (wsR E o ad w') := by
  refine g_start (by decide) (Nat.le_of_ble_eq_true rfl) ?_
  intro p e s m below meth c C hr hk hnm ls hl H locs X
  have hx := C.1.1
  have hb := C.1.2.1
  have hl : lv_has ls 6 [(0, .ref (ad 17)), (1, .int a1), (2, .ref (ad 9)), (3, .int a3), (4, .int a4)] := hl
  have j3 : ∀ (n : Nat) (w : RS) (x1 : Int32) (x3 : Int32) (x4 : Int32) (x5 : Int32) (ls : Array Slot) (H : Heap) (locs : List Loc), fR_copyInts_call_lines_3 n w x1 x3 x4 x5 = some w' → lv_has ls 6 [(0, .ref (ad 17)), (1, .int x1), (2, .ref (ad 9)), (3, .int x3), (4, .int x4), (5, .int x5)] → g_W E A s H locs (wsR E o ad w) → W p l e ({ frames := 0, cells := 0, slots := 0, locals := 0 }) s m ([.ref (ad 17), .int a1, .ref (ad 9), .int a3, .int a4] : List Value).toArray below meth c H locs 0 0 (MQ below (va_Qv (fun (u' : va_W) => u' = wsR E o ad w') (g_B E A) A) ([.ref (ad 17), .int a1, .ref (ad 9), .int a3, .int a4] : List Value).toArray s 0 0 A) (F0 m 3 ls []) := by
    intro n
    induction n with
    | zero => intro w x1 x3 x4 x5 ls H locs hf; exact absurd hf (by simp [fR_copyInts_call_lines_3])
    | succ n3 ih3 =>
      intro w x1 x3 x4 x5 ls H locs hf hl X
      unfold fR_copyInts_call_lines_3 at hf
      refine lv_iload hx hb dX8_copyInts_3 (lv_at hl 5 rfl) ?_
      refine lv_iload hx hb dX8_copyInts_5 (lv_at hl 4 rfl) ?_
      refine lv_icmp_ge (tgt := 28) hx hb dX8_copyInts_7 (by decide) (fun c7 => ?_) (fun c7 => ?_)
      · have hf := g_t hf c7
        exact g_vret (wsR E o ad) C hr hk X hf dX8_copyInts_28
      · have hf := g_f hf c7
        refine lv_aload_n hx hb dX8_copyInts_10 rfl (lv_at hl 2 rfl) ?_
        refine lv_iload_n hx hb dX8_copyInts_11 rfl (lv_at hl 3 rfl) ?_
        refine lv_iload hx hb dX8_copyInts_12 (lv_at hl 5 rfl) ?_
        refine lv_iadd hx hb dX8_copyInts_14 ?_
        refine lv_aload_n hx hb dX8_copyInts_15 rfl (lv_at hl 0 rfl) ?_
        refine lv_iload_n hx hb dX8_copyInts_16 rfl (lv_at hl 1 rfl) ?_
        refine lv_iload hx hb dX8_copyInts_17 (lv_at hl 5 rfl) ?_
        refine lv_iadd hx hb dX8_copyInts_19 ?_
        obtain ⟨h20, hf⟩ := g_cke hf
        obtain ⟨v20, e20, hf⟩ := g_le hf
        refine g_iald C X 12 rfl h20 e20 dX8_copyInts_20 ?_
        obtain ⟨h21, hf⟩ := g_cke hf
        obtain ⟨w21, e21, hf⟩ := g_le hf
        refine g_iast C X 9 rfl h21 dX8_copyInts_21 (ws2 := wsR E o ad w21) (by subst e21; rfl) (fun H locs X => ?_)
        refine lv_iinc (v := x5 + (1 : Int32)) (lv' := [(5, .int (x5 + (1 : Int32))), (0, .ref (ad 17)), (1, .int x1), (2, .ref (ad 9)), (3, .int x3), (4, .int x4)]) hx hb dX8_copyInts_22 hl (k := 5) rfl rfl (by decide) rfl (fun ls hl => ?_)
        refine lv_goto (tgt := 3) hx hb dX8_copyInts_25 (by decide) ?_
        exact ih3 w21 x1 x3 x4 (x5 + (1 : Int32)) ls H locs hf (lv_sub hl [1, 2, 3, 4, 5, 0] rfl) X
  unfold fR_copyInts_call_lines at hf
  refine lv_iconst (v := 0) hx hb dX8_copyInts_0 (by decide) ?_
  refine lv_istore (lv' := [(5, .int (0 : Int32)), (0, .ref (ad 17)), (1, .int a1), (2, .ref (ad 9)), (3, .int a3), (4, .int a4)]) hx hb dX8_copyInts_1 hl (by decide) rfl (fun ls hl => ?_)
  exact j3 g_fuel w a1 a3 a4 (0 : Int32) ls H locs hf (lv_sub hl [1, 2, 3, 4, 5, 0] rfl) X
set_option maxRecDepth 100000 in
set_option maxHeartbeats 4000000 in
theorem cR_copyInts_state_before (l : Launch) (E : g_Env) (A : Nat → Prop) (o : Nat) (ad : Nat → Nat) (w : RS) (w' : RS) (a1 : Int32) (a3 : Int32) (a4 : Int32) (hf : fR_copyInts_state_before w a1 a3 a4 = some w') : g_Mv l yX8_copyInts cX8_copyInts 6 ({ frames := 0, cells := 0, slots := 0, locals := 0 }) E A [.ref (ad 2), .int a1, .ref (ad 4), .int a3, .int a4] (wsR E o ad w) (wsR E o ad w') := by
  refine g_start (by decide) (Nat.le_of_ble_eq_true rfl) ?_
  intro p e s m below meth c C hr hk hnm ls hl H locs X
  have hx := C.1.1
  have hb := C.1.2.1
  have hl : lv_has ls 6 [(0, .ref (ad 2)), (1, .int a1), (2, .ref (ad 4)), (3, .int a3), (4, .int a4)] := hl
  have j3 : ∀ (n : Nat) (w : RS) (x1 : Int32) (x3 : Int32) (x4 : Int32) (x5 : Int32) (ls : Array Slot) (H : Heap) (locs : List Loc), fR_copyInts_state_before_3 n w x1 x3 x4 x5 = some w' → lv_has ls 6 [(0, .ref (ad 2)), (1, .int x1), (2, .ref (ad 4)), (3, .int x3), (4, .int x4), (5, .int x5)] → g_W E A s H locs (wsR E o ad w) → W p l e ({ frames := 0, cells := 0, slots := 0, locals := 0 }) s m ([.ref (ad 2), .int a1, .ref (ad 4), .int a3, .int a4] : List Value).toArray below meth c H locs 0 0 (MQ below (va_Qv (fun (u' : va_W) => u' = wsR E o ad w') (g_B E A) A) ([.ref (ad 2), .int a1, .ref (ad 4), .int a3, .int a4] : List Value).toArray s 0 0 A) (F0 m 3 ls []) := by
    intro n
    induction n with
    | zero => intro w x1 x3 x4 x5 ls H locs hf; exact absurd hf (by simp [fR_copyInts_state_before_3])
    | succ n3 ih3 =>
      intro w x1 x3 x4 x5 ls H locs hf hl X
      unfold fR_copyInts_state_before_3 at hf
      refine lv_iload hx hb dX8_copyInts_3 (lv_at hl 5 rfl) ?_
      refine lv_iload hx hb dX8_copyInts_5 (lv_at hl 4 rfl) ?_
      refine lv_icmp_ge (tgt := 28) hx hb dX8_copyInts_7 (by decide) (fun c7 => ?_) (fun c7 => ?_)
      · have hf := g_t hf c7
        exact g_vret (wsR E o ad) C hr hk X hf dX8_copyInts_28
      · have hf := g_f hf c7
        refine lv_aload_n hx hb dX8_copyInts_10 rfl (lv_at hl 2 rfl) ?_
        refine lv_iload_n hx hb dX8_copyInts_11 rfl (lv_at hl 3 rfl) ?_
        refine lv_iload hx hb dX8_copyInts_12 (lv_at hl 5 rfl) ?_
        refine lv_iadd hx hb dX8_copyInts_14 ?_
        refine lv_aload_n hx hb dX8_copyInts_15 rfl (lv_at hl 0 rfl) ?_
        refine lv_iload_n hx hb dX8_copyInts_16 rfl (lv_at hl 1 rfl) ?_
        refine lv_iload hx hb dX8_copyInts_17 (lv_at hl 5 rfl) ?_
        refine lv_iadd hx hb dX8_copyInts_19 ?_
        obtain ⟨h20, hf⟩ := g_cke hf
        obtain ⟨v20, e20, hf⟩ := g_le hf
        refine g_iald C X 3 rfl h20 e20 dX8_copyInts_20 ?_
        obtain ⟨h21, hf⟩ := g_cke hf
        obtain ⟨w21, e21, hf⟩ := g_le hf
        refine g_iast C X 5 rfl h21 dX8_copyInts_21 (ws2 := wsR E o ad w21) (by subst e21; rfl) (fun H locs X => ?_)
        refine lv_iinc (v := x5 + (1 : Int32)) (lv' := [(5, .int (x5 + (1 : Int32))), (0, .ref (ad 2)), (1, .int x1), (2, .ref (ad 4)), (3, .int x3), (4, .int x4)]) hx hb dX8_copyInts_22 hl (k := 5) rfl rfl (by decide) rfl (fun ls hl => ?_)
        refine lv_goto (tgt := 3) hx hb dX8_copyInts_25 (by decide) ?_
        exact ih3 w21 x1 x3 x4 (x5 + (1 : Int32)) ls H locs hf (lv_sub hl [1, 2, 3, 4, 5, 0] rfl) X
  unfold fR_copyInts_state_before at hf
  refine lv_iconst (v := 0) hx hb dX8_copyInts_0 (by decide) ?_
  refine lv_istore (lv' := [(5, .int (0 : Int32)), (0, .ref (ad 2)), (1, .int a1), (2, .ref (ad 4)), (3, .int a3), (4, .int a4)]) hx hb dX8_copyInts_1 hl (by decide) rfl (fun ls hl => ?_)
  exact j3 g_fuel w a1 a3 a4 (0 : Int32) ls H locs hf (lv_sub hl [1, 2, 3, 4, 5, 0] rfl) X
