set_option maxRecDepth 100000 in
set_option maxHeartbeats 4000000 in
theorem cC__isWhen (l : Launch) (E : g_Env) (A : Nat → Prop) (ad : Nat → Nat) (w : CS) (w' : CS) (r : Int32)  (b0 b1 b2 : Int32) (b3 : Int64) (b4 b5 : Int32) (q k : Nat) (hq : w.2.2.2.2.2[k]? = some (q, .inr (2, [.int b0, .int b1, .int b2, .long b3, .int b4, .int b5]))) (hf : fC__isWhen w b0 b1 b2 b3 b4 b5 = some (r, w')) : g_Mi l yX7_isWhen cX7_isWhen 1 ((some .boolean)) ({ frames := 0, cells := 0, slots := 0, locals := 0 }) E A [.ref q] (wsC E ad w) r (wsC E ad w') := by
  refine g_start (by decide) (Nat.le_of_ble_eq_true rfl) ?_
  intro p e s m below meth c C hr hk hnm ls hl H locs X
  have hx := C.1.1
  have hb := C.1.2.1
  have hl : lv_has ls 1 [(0, .ref q)] := hl
  unfold fC__isWhen at hf
  refine lv_aload_n hx hb dX7_isWhen_0 rfl (lv_at hl 0 rfl) ?_
  refine lv_ifnull hx hb dX7_isWhen_1 ?_
  refine lv_aload_n hx hb dX7_isWhen_4 rfl (lv_at hl 0 rfl) ?_
  refine g_getN C X g_iX3 (k + 8) hq rfl 0 (by decide) rfl n_6 rfl dX7_isWhen_5 ?_
  refine lv_bipush (v := 11) hx hb dX7_isWhen_8 (by decide) ?_
  refine lv_icmp_ne (tgt := 17) hx hb dX7_isWhen_10 (by decide) (fun c10 => ?_) (fun c10 => ?_)
  · have hf := g_f hf c10
    refine lv_iconst (v := 0) hx hb dX7_isWhen_17 (by decide) ?_
    exact g_zret (wsC E ad) C hr hk rfl X hf dX7_isWhen_18
  · have hf := g_t hf c10
    refine lv_iconst (v := 1) hx hb dX7_isWhen_13 (by decide) ?_
    refine lv_goto (tgt := 18) hx hb dX7_isWhen_14 (by decide) ?_
    exact g_zret (wsC E ad) C hr hk rfl X hf dX7_isWhen_18
set_option maxRecDepth 100000 in
set_option maxHeartbeats 4000000 in
theorem cC__perform (l : Launch) (E : g_Env) (A : Nat → Prop) (ad : Nat → Nat) (w : CS) (w' : CS) (r : Int32)  (b0 b1 b2 : Int32) (b3 : Int64) (b4 b5 : Int32) (q k : Nat) (hq : w.2.2.2.2.2[k]? = some (q, .inr (2, [.int b0, .int b1, .int b2, .long b3, .int b4, .int b5]))) (hf : fC__perform w b0 b1 b2 b3 b4 b5 = some (r, w')) : g_Mi l yX7_perform cX7_perform 2 ((some .int)) ({ frames := 5, cells := 0, slots := 0, locals := 124 }) E A [.ref (ad 0), .ref q] (wsC E ad w) r (wsC E ad w') := by
  refine g_start (by decide) (Nat.le_of_ble_eq_true rfl) ?_
  intro p e s m below meth c C hr hk hnm ls hl H locs X
  have hx := C.1.1
  have hb := C.1.2.1
  have hl : lv_has ls 2 [(0, .ref (ad 0)), (1, .ref q)] := hl
  unfold fC__perform at hf
  refine lv_aload_n hx hb dX7_perform_0 rfl (lv_at hl 1 rfl) ?_
  refine lv_ifnonnull (tgt := 6) hx hb dX7_perform_1 (by decide) ?_
  refine lv_aload_n hx hb dX7_perform_6 rfl (lv_at hl 1 rfl) ?_
  refine g_getN C X g_iX3 (k + 8) hq rfl 0 (by decide) rfl n_6 rfl dX7_perform_7 ?_
  by_cases s10_0 : b0 = (0 : Int32)
  · have hf := g_t hf s10_0
    refine g_tabIn (tgt := 68) hx hb s10_0 dX7_perform_10 (by decide) (by decide) rfl (by decide) ?_
    refine lv_aload_n hx hb dX7_perform_68 rfl (lv_at hl 0 rfl) ?_
    refine lv_aload_n hx hb dX7_perform_69 rfl (lv_at hl 1 rfl) ?_
    refine g_getN C X g_iX3 (k + 8) hq rfl 1 (by decide) rfl n_7 rfl dX7_perform_70 ?_
    refine lv_aload_n hx hb dX7_perform_73 rfl (lv_at hl 1 rfl) ?_
    refine g_getN C X g_iX3 (k + 8) hq rfl 2 (by decide) rfl n_8 rfl dX7_perform_74 ?_
    refine lv_aload_n hx hb dX7_perform_77 rfl (lv_at hl 1 rfl) ?_
    refine g_getN C X g_iX3 (k + 8) hq rfl 3 (by decide) rfl n_9 rfl dX7_perform_78 ?_
    refine lv_l2i hx hb dX7_perform_81 rfl ?_
    obtain ⟨q82, e82, hf⟩ := g_be hf
    refine g_calli X (g_runV (As := [.int b1, .int b2, .int b3.toInt32]) (rest := []) C X (cC__makeThing l E A ad w q82.2 q82.1 b1 b2 b3.toInt32 e82) kX7_makeThing m_212 0 5 rfl rfl hl.1 rfl ⟨Nat.le_of_ble_eq_true rfl, Nat.le_of_ble_eq_true rfl⟩ rfl (Nat.le_of_ble_eq_true rfl) dX7_perform_82 ⟨Nat.le_of_ble_eq_true rfl, Nat.le_of_ble_eq_true rfl⟩) rfl rfl (fun H locs X => ?_)
    exact g_iret (wsC E ad) C hr hk X hf dX7_perform_85
  have hf := g_f hf s10_0
  by_cases s10_1 : b0 = (1 : Int32)
  · have hf := g_t hf s10_1
    refine g_tabIn (tgt := 86) hx hb s10_1 dX7_perform_10 (by decide) (by decide) rfl (by decide) ?_
    refine lv_aload_n hx hb dX7_perform_86 rfl (lv_at hl 0 rfl) ?_
    refine lv_aload_n hx hb dX7_perform_87 rfl (lv_at hl 1 rfl) ?_
    refine g_getN C X g_iX3 (k + 8) hq rfl 1 (by decide) rfl n_7 rfl dX7_perform_88 ?_
    refine lv_aload_n hx hb dX7_perform_91 rfl (lv_at hl 1 rfl) ?_
    refine g_getN C X g_iX3 (k + 8) hq rfl 2 (by decide) rfl n_8 rfl dX7_perform_92 ?_
    obtain ⟨q95, e95, hf⟩ := g_be hf
    refine g_calli X (g_runV (As := [.int b1, .int b2]) (rest := []) C X (cC__layOver l E A ad w q95.2 q95.1 b1 b2 e95) kX7_layOver m_329 0 5 rfl rfl hl.1 rfl ⟨Nat.le_of_ble_eq_true rfl, Nat.le_of_ble_eq_true rfl⟩ rfl (Nat.le_of_ble_eq_true rfl) dX7_perform_95 ⟨Nat.le_of_ble_eq_true rfl, Nat.le_of_ble_eq_true rfl⟩) rfl rfl (fun H locs X => ?_)
    exact g_iret (wsC E ad) C hr hk X hf dX7_perform_98
  have hf := g_f hf s10_1
  by_cases s10_2 : b0 = (2 : Int32)
  · have hf := g_t hf s10_2
    refine g_tabIn (tgt := 99) hx hb s10_2 dX7_perform_10 (by decide) (by decide) rfl (by decide) ?_
    refine lv_aload_n hx hb dX7_perform_99 rfl (lv_at hl 0 rfl) ?_
    refine lv_aload_n hx hb dX7_perform_100 rfl (lv_at hl 1 rfl) ?_
    refine g_getN C X g_iX3 (k + 8) hq rfl 1 (by decide) rfl n_7 rfl dX7_perform_101 ?_
    refine lv_aload_n hx hb dX7_perform_104 rfl (lv_at hl 1 rfl) ?_
    refine g_getN C X g_iX3 (k + 8) hq rfl 2 (by decide) rfl n_8 rfl dX7_perform_105 ?_
    refine lv_aload_n hx hb dX7_perform_108 rfl (lv_at hl 1 rfl) ?_
    refine g_getN C X g_iX3 (k + 8) hq rfl 3 (by decide) rfl n_9 rfl dX7_perform_109 ?_
    refine lv_l2i hx hb dX7_perform_112 rfl ?_
    obtain ⟨q113, e113, hf⟩ := g_be hf
    refine g_calli X (g_runV (As := [.int b1, .int b2, .int b3.toInt32]) (rest := []) C X (cC__plugIn l E A ad w q113.2 q113.1 b1 b2 b3.toInt32 e113) kX7_plugIn m_345 0 5 rfl rfl hl.1 rfl ⟨Nat.le_of_ble_eq_true rfl, Nat.le_of_ble_eq_true rfl⟩ rfl (Nat.le_of_ble_eq_true rfl) dX7_perform_113 ⟨Nat.le_of_ble_eq_true rfl, Nat.le_of_ble_eq_true rfl⟩) rfl rfl (fun H locs X => ?_)
    exact g_iret (wsC E ad) C hr hk X hf dX7_perform_116
  have hf := g_f hf s10_2
  by_cases s10_3 : b0 = (3 : Int32)
  · have hf := g_t hf s10_3
    refine g_tabIn (tgt := 117) hx hb s10_3 dX7_perform_10 (by decide) (by decide) rfl (by decide) ?_
    refine lv_aload_n hx hb dX7_perform_117 rfl (lv_at hl 0 rfl) ?_
    refine lv_aload_n hx hb dX7_perform_118 rfl (lv_at hl 1 rfl) ?_
    refine g_getN C X g_iX3 (k + 8) hq rfl 1 (by decide) rfl n_7 rfl dX7_perform_119 ?_
    refine lv_aload_n hx hb dX7_perform_122 rfl (lv_at hl 1 rfl) ?_
    refine g_getN C X g_iX3 (k + 8) hq rfl 2 (by decide) rfl n_8 rfl dX7_perform_123 ?_
    refine lv_aload_n hx hb dX7_perform_126 rfl (lv_at hl 1 rfl) ?_
    refine g_getN C X g_iX3 (k + 8) hq rfl 3 (by decide) rfl n_9 rfl dX7_perform_127 ?_
    refine lv_l2i hx hb dX7_perform_130 rfl ?_
    obtain ⟨q131, e131, hf⟩ := g_be hf
    refine g_calli X (g_runV (As := [.int b1, .int b2, .int b3.toInt32]) (rest := []) C X (cC__pullOut l E A ad w q131.2 q131.1 b1 b2 b3.toInt32 e131) kX7_pullOut m_383 0 5 rfl rfl hl.1 rfl ⟨Nat.le_of_ble_eq_true rfl, Nat.le_of_ble_eq_true rfl⟩ rfl (Nat.le_of_ble_eq_true rfl) dX7_perform_131 ⟨Nat.le_of_ble_eq_true rfl, Nat.le_of_ble_eq_true rfl⟩) rfl rfl (fun H locs X => ?_)
    exact g_iret (wsC E ad) C hr hk X hf dX7_perform_134
  have hf := g_f hf s10_3
  by_cases s10_4 : b0 = (4 : Int32)
  · have hf := g_t hf s10_4
    refine g_tabIn (tgt := 135) hx hb s10_4 dX7_perform_10 (by decide) (by decide) rfl (by decide) ?_
    refine lv_aload_n hx hb dX7_perform_135 rfl (lv_at hl 0 rfl) ?_
    refine lv_aload_n hx hb dX7_perform_136 rfl (lv_at hl 1 rfl) ?_
    refine g_getN C X g_iX3 (k + 8) hq rfl 1 (by decide) rfl n_7 rfl dX7_perform_137 ?_
    refine lv_aload_n hx hb dX7_perform_140 rfl (lv_at hl 1 rfl) ?_
    refine g_getN C X g_iX3 (k + 8) hq rfl 2 (by decide) rfl n_8 rfl dX7_perform_141 ?_
    refine lv_aload_n hx hb dX7_perform_144 rfl (lv_at hl 1 rfl) ?_
    refine g_getN C X g_iX3 (k + 8) hq rfl 3 (by decide) rfl n_9 rfl dX7_perform_145 ?_
    refine lv_l2i hx hb dX7_perform_148 rfl ?_
    refine lv_aload_n hx hb dX7_perform_149 rfl (lv_at hl 1 rfl) ?_
    refine g_getN C X g_iX3 (k + 8) hq rfl 4 (by decide) rfl n_10 rfl dX7_perform_150 ?_
    refine lv_aload_n hx hb dX7_perform_153 rfl (lv_at hl 1 rfl) ?_
    refine g_getN C X g_iX3 (k + 8) hq rfl 5 (by decide) rfl n_11 rfl dX7_perform_154 ?_
    obtain ⟨q157, e157, hf⟩ := g_be hf
    refine g_calli X (g_runV (As := [.int b1, .int b2, .int b3.toInt32, .int b4, .int b5]) (rest := []) C X (cC__copyPlaces l E A ad w q157.2 q157.1 b1 b2 b3.toInt32 b4 b5 e157) kX7_copyPlaces m_391 0 5 rfl rfl hl.1 rfl ⟨Nat.le_of_ble_eq_true rfl, Nat.le_of_ble_eq_true rfl⟩ rfl (Nat.le_of_ble_eq_true rfl) dX7_perform_157 ⟨Nat.le_of_ble_eq_true rfl, Nat.le_of_ble_eq_true rfl⟩) rfl rfl (fun H locs X => ?_)
    exact g_iret (wsC E ad) C hr hk X hf dX7_perform_160
  have hf := g_f hf s10_4
  by_cases s10_5 : b0 = (5 : Int32)
  · have hf := g_t hf s10_5
    refine g_tabIn (tgt := 161) hx hb s10_5 dX7_perform_10 (by decide) (by decide) rfl (by decide) ?_
    refine lv_aload_n hx hb dX7_perform_161 rfl (lv_at hl 0 rfl) ?_
    refine lv_aload_n hx hb dX7_perform_162 rfl (lv_at hl 1 rfl) ?_
    refine g_getN C X g_iX3 (k + 8) hq rfl 1 (by decide) rfl n_7 rfl dX7_perform_163 ?_
    refine lv_aload_n hx hb dX7_perform_166 rfl (lv_at hl 1 rfl) ?_
    refine g_getN C X g_iX3 (k + 8) hq rfl 2 (by decide) rfl n_8 rfl dX7_perform_167 ?_
    refine lv_aload_n hx hb dX7_perform_170 rfl (lv_at hl 1 rfl) ?_
    refine g_getN C X g_iX3 (k + 8) hq rfl 3 (by decide) rfl n_9 rfl dX7_perform_171 ?_
    obtain ⟨q174, e174, hf⟩ := g_be hf
    refine g_calli X (g_runV (As := [.int b1, .int b2, .long b3]) (rest := []) C X (cC__writeNumber l E A ad w q174.2 q174.1 b1 b2 b3 e174) kX7_writeNumber m_426 0 5 rfl rfl hl.1 rfl ⟨Nat.le_of_ble_eq_true rfl, Nat.le_of_ble_eq_true rfl⟩ rfl (Nat.le_of_ble_eq_true rfl) dX7_perform_174 ⟨Nat.le_of_ble_eq_true rfl, Nat.le_of_ble_eq_true rfl⟩) rfl rfl (fun H locs X => ?_)
    exact g_iret (wsC E ad) C hr hk X hf dX7_perform_177
  have hf := g_f hf s10_5
  by_cases s10_6 : b0 = (6 : Int32)
  · have hf := g_t hf s10_6
    refine g_tabIn (tgt := 178) hx hb s10_6 dX7_perform_10 (by decide) (by decide) rfl (by decide) ?_
    refine lv_aload_n hx hb dX7_perform_178 rfl (lv_at hl 0 rfl) ?_
    refine lv_aload_n hx hb dX7_perform_179 rfl (lv_at hl 1 rfl) ?_
    refine g_getN C X g_iX3 (k + 8) hq rfl 1 (by decide) rfl n_7 rfl dX7_perform_180 ?_
    refine lv_aload_n hx hb dX7_perform_183 rfl (lv_at hl 1 rfl) ?_
    refine g_getN C X g_iX3 (k + 8) hq rfl 2 (by decide) rfl n_8 rfl dX7_perform_184 ?_
    obtain ⟨q187, e187, hf⟩ := g_be hf
    refine g_calli X (g_runV (As := [.int b1, .int b2]) (rest := []) C X (cC__setKnob l E A ad w q187.2 q187.1 b1 b2 e187) kX7_setKnob m_438 0 5 rfl rfl hl.1 rfl ⟨Nat.le_of_ble_eq_true rfl, Nat.le_of_ble_eq_true rfl⟩ rfl (Nat.le_of_ble_eq_true rfl) dX7_perform_187 ⟨Nat.le_of_ble_eq_true rfl, Nat.le_of_ble_eq_true rfl⟩) rfl rfl (fun H locs X => ?_)
    exact g_iret (wsC E ad) C hr hk X hf dX7_perform_190
  have hf := g_f hf s10_6
  by_cases s10_7 : b0 = (7 : Int32)
  · have hf := g_t hf s10_7
    refine g_tabIn (tgt := 191) hx hb s10_7 dX7_perform_10 (by decide) (by decide) rfl (by decide) ?_
    refine lv_aload_n hx hb dX7_perform_191 rfl (lv_at hl 0 rfl) ?_
    refine lv_aload_n hx hb dX7_perform_192 rfl (lv_at hl 1 rfl) ?_
    refine g_getN C X g_iX3 (k + 8) hq rfl 1 (by decide) rfl n_7 rfl dX7_perform_193 ?_
    refine lv_aload_n hx hb dX7_perform_196 rfl (lv_at hl 1 rfl) ?_
    refine g_getN C X g_iX3 (k + 8) hq rfl 2 (by decide) rfl n_8 rfl dX7_perform_197 ?_
    obtain ⟨q200, e200, hf⟩ := g_be hf
    refine g_calli X (g_runV (As := [.int b1, .int b2]) (rest := []) C X (cC__playOnce l E A ad w q200.2 q200.1 b1 b2 e200) kX7_playOnce m_447 0 5 rfl rfl hl.1 rfl ⟨Nat.le_of_ble_eq_true rfl, Nat.le_of_ble_eq_true rfl⟩ rfl (Nat.le_of_ble_eq_true rfl) dX7_perform_200 ⟨Nat.le_of_ble_eq_true rfl, Nat.le_of_ble_eq_true rfl⟩) rfl rfl (fun H locs X => ?_)
    exact g_iret (wsC E ad) C hr hk X hf dX7_perform_203
  have hf := g_f hf s10_7
  by_cases s10_8 : b0 = (8 : Int32)
  · have hf := g_t hf s10_8
    refine g_tabIn (tgt := 204) hx hb s10_8 dX7_perform_10 (by decide) (by decide) rfl (by decide) ?_
    refine lv_aload_n hx hb dX7_perform_204 rfl (lv_at hl 0 rfl) ?_
    refine lv_aload_n hx hb dX7_perform_205 rfl (lv_at hl 1 rfl) ?_
    refine g_getN C X g_iX3 (k + 8) hq rfl 1 (by decide) rfl n_7 rfl dX7_perform_206 ?_
    refine lv_aload_n hx hb dX7_perform_209 rfl (lv_at hl 1 rfl) ?_
    refine g_getN C X g_iX3 (k + 8) hq rfl 2 (by decide) rfl n_8 rfl dX7_perform_210 ?_
    obtain ⟨q213, e213, hf⟩ := g_be hf
    refine g_calli X (g_runV (As := [.int b1, .int b2]) (rest := []) C X (cC__runOver l E A ad w q213.2 q213.1 b1 b2 e213) kX7_runOver m_512 0 5 rfl rfl hl.1 rfl ⟨Nat.le_of_ble_eq_true rfl, Nat.le_of_ble_eq_true rfl⟩ rfl (Nat.le_of_ble_eq_true rfl) dX7_perform_213 ⟨Nat.le_of_ble_eq_true rfl, Nat.le_of_ble_eq_true rfl⟩) rfl rfl (fun H locs X => ?_)
    exact g_iret (wsC E ad) C hr hk X hf dX7_perform_216
  have hf := g_f hf s10_8
  by_cases s10_9 : b0 = (9 : Int32)
  · have hf := g_t hf s10_9
    refine g_tabIn (tgt := 217) hx hb s10_9 dX7_perform_10 (by decide) (by decide) rfl (by decide) ?_
    refine lv_aload_n hx hb dX7_perform_217 rfl (lv_at hl 0 rfl) ?_
    refine lv_aload_n hx hb dX7_perform_218 rfl (lv_at hl 1 rfl) ?_
    refine g_getN C X g_iX3 (k + 8) hq rfl 1 (by decide) rfl n_7 rfl dX7_perform_219 ?_
    refine lv_aload_n hx hb dX7_perform_222 rfl (lv_at hl 1 rfl) ?_
    refine g_getN C X g_iX3 (k + 8) hq rfl 2 (by decide) rfl n_8 rfl dX7_perform_223 ?_
    obtain ⟨q226, e226, hf⟩ := g_be hf
    refine g_calli X (g_runV (As := [.int b1, .int b2]) (rest := []) C X (cC__tickOn l E A ad w q226.2 q226.1 b1 b2 e226) kX7_tickOn m_521 0 5 rfl rfl hl.1 rfl ⟨Nat.le_of_ble_eq_true rfl, Nat.le_of_ble_eq_true rfl⟩ rfl (Nat.le_of_ble_eq_true rfl) dX7_perform_226 ⟨Nat.le_of_ble_eq_true rfl, Nat.le_of_ble_eq_true rfl⟩) rfl rfl (fun H locs X => ?_)
    exact g_iret (wsC E ad) C hr hk X hf dX7_perform_229
  have hf := g_f hf s10_9
  by_cases s10_10 : b0 = (10 : Int32)
  · have hf := g_t hf s10_10
    refine g_tabIn (tgt := 230) hx hb s10_10 dX7_perform_10 (by decide) (by decide) rfl (by decide) ?_
    refine lv_aload_n hx hb dX7_perform_230 rfl (lv_at hl 0 rfl) ?_
    refine lv_aload_n hx hb dX7_perform_231 rfl (lv_at hl 1 rfl) ?_
    refine g_getN C X g_iX3 (k + 8) hq rfl 1 (by decide) rfl n_7 rfl dX7_perform_232 ?_
    obtain ⟨q235, e235, hf⟩ := g_be hf
    refine g_calli X (g_runV (As := [.int b1]) (rest := []) C X (cC__restAll l E A ad w q235.2 q235.1 b1 e235) kX7_restAll m_537 0 5 rfl rfl hl.1 rfl ⟨Nat.le_of_ble_eq_true rfl, Nat.le_of_ble_eq_true rfl⟩ rfl (Nat.le_of_ble_eq_true rfl) dX7_perform_235 ⟨Nat.le_of_ble_eq_true rfl, Nat.le_of_ble_eq_true rfl⟩) rfl rfl (fun H locs X => ?_)
    exact g_iret (wsC E ad) C hr hk X hf dX7_perform_238
  have hf := g_f hf s10_10
  refine lv_tableOut (tgt := 239) hx hb dX7_perform_10 (by have z0 := g_ne (0) s10_0 (by decide); have z1 := g_ne (1) s10_1 (by decide); have z2 := g_ne (2) s10_2 (by decide); have z3 := g_ne (3) s10_3 (by decide); have z4 := g_ne (4) s10_4 (by decide); have z5 := g_ne (5) s10_5 (by decide); have z6 := g_ne (6) s10_6 (by decide); have z7 := g_ne (7) s10_7 (by decide); have z8 := g_ne (8) s10_8 (by decide); have z9 := g_ne (9) s10_9 (by decide); have z10 := g_ne (10) s10_10 (by decide); omega) (by decide) ?_
  refine lv_aload_n hx hb dX7_perform_239 rfl (lv_at hl 0 rfl) ?_
  refine lv_aload_n hx hb dX7_perform_240 rfl (lv_at hl 1 rfl) ?_
  refine g_getN C X g_iX3 (k + 8) hq rfl 1 (by decide) rfl n_7 rfl dX7_perform_241 ?_
  refine lv_aload_n hx hb dX7_perform_244 rfl (lv_at hl 1 rfl) ?_
  refine g_getN C X g_iX3 (k + 8) hq rfl 2 (by decide) rfl n_8 rfl dX7_perform_245 ?_
  obtain ⟨q248, e248, hf⟩ := g_be hf
  refine g_calli X (g_runV (As := [.int b1, .int b2]) (rest := []) C X (cC__askWhether l E A ad w q248.2 q248.1 b1 b2 e248) kX7_askWhether m_572 0 5 rfl rfl hl.1 rfl ⟨Nat.le_of_ble_eq_true rfl, Nat.le_of_ble_eq_true rfl⟩ rfl (Nat.le_of_ble_eq_true rfl) dX7_perform_248 ⟨Nat.le_of_ble_eq_true rfl, Nat.le_of_ble_eq_true rfl⟩) rfl rfl (fun H locs X => ?_)
  exact g_iret (wsC E ad) C hr hk X hf dX7_perform_251
set_option maxRecDepth 100000 in
set_option maxHeartbeats 4000000 in
theorem cC_Sh_add (l : Launch) (E : g_Env) (A : Nat → Prop) (ad : Nat → Nat) (w : CS) (a1 : Nat) (Q : Int32 → CS → Prop) (hf : wC_Sh_add E Q w a1) : Met l yX5_add (.code yX5_add cX5_add 2 ((some .int)) :: g_tbl) ({ frames := 0, cells := 0, slots := 0, locals := 0 }) (va_Pc [.ref (ad 6), .ref a1] (g_at E A (wsC E ad w))) (va_Qi (fun (r' : Int32) (u' : va_W) => ∃ w' : CS, u' = wsC E ad w' ∧ Q r' w') (g_B E A) A) 0 0 A := by
  refine g_start (rm := { frames := 0, cells := 0, slots := 0, locals := 0 }) (by decide) (Nat.le_of_ble_eq_true rfl) ?_
  intro p e s m below meth c C hr hk hnm ls hl H locs X
  have hx := C.1.1
  have hb := C.1.2.1
  have hl : lv_has ls 2 [(0, .ref (ad 6)), (1, .ref a1)] := hl
  unfold wC_Sh_add at hf
  refine lv_aload_n hx hb dX5_add_0 rfl (lv_at hl 0 rfl) ?_
  refine g_get C X g_iX5 6 rfl rfl 1 (by decide) rfl m_137 rfl dX5_add_1 ?_
  refine lv_if_lt (tgt := 39) hx hb dX5_add_4 (by decide) (fun c4 => ?_) (fun c4 => ?_)
  · have hf := g_tP hf c4
    refine lv_aload_n hx hb dX5_add_39 rfl (lv_at hl 0 rfl) ?_
    refine g_get C X g_iX5 6 rfl rfl 1 (by decide) rfl m_137 rfl dX5_add_40 ?_
    refine W.widen (k := 0) (n := 0) (Nat.le_of_ble_eq_true rfl) (Nat.le_of_ble_eq_true rfl) ?_
    exact g_iretP (wsC E ad) C hr hk X hf dX5_add_43
  · have hf := g_fP hf c4
    refine lv_aload_n hx hb dX5_add_7 rfl (lv_at hl 0 rfl) ?_
    refine g_get C X g_iX5 6 rfl rfl 1 (by decide) rfl m_137 rfl dX5_add_8 ?_
    refine lv_aload_n hx hb dX5_add_11 rfl (lv_at hl 0 rfl) ?_
    refine g_get C X g_iX5 6 rfl rfl 0 (by decide) rfl m_136 rfl dX5_add_12 ?_
    refine g_rlen C X 7 rfl (v := 16) rfl dX5_add_15 ?_
    refine lv_icmp_ge (tgt := 39) hx hb dX5_add_16 (by decide) (fun c16 => ?_) (fun c16 => ?_)
    · have hf := g_tP hf c16
      refine lv_aload_n hx hb dX5_add_39 rfl (lv_at hl 0 rfl) ?_
      refine g_get C X g_iX5 6 rfl rfl 1 (by decide) rfl m_137 rfl dX5_add_40 ?_
      refine W.widen (k := 0) (n := 0) (Nat.le_of_ble_eq_true rfl) (Nat.le_of_ble_eq_true rfl) ?_
      exact g_iretP (wsC E ad) C hr hk X hf dX5_add_43
    · have hf := g_fP hf c16
      refine lv_aload_n hx hb dX5_add_19 rfl (lv_at hl 0 rfl) ?_
      refine g_get C X g_iX5 6 rfl rfl 0 (by decide) rfl m_136 rfl dX5_add_20 ?_
      refine lv_aload_n hx hb dX5_add_23 rfl (lv_at hl 0 rfl) ?_
      refine g_get C X g_iX5 6 rfl rfl 1 (by decide) rfl m_137 rfl dX5_add_24 ?_
      refine lv_aload_n hx hb dX5_add_27 rfl (lv_at hl 1 rfl) ?_
      obtain ⟨h28, hf⟩ := hf
      obtain ⟨k28, vs28, z28, hf⟩ := hf
      obtain ⟨w28, e28, hf⟩ := g_leP hf
      refine g_astq C X 7 (k28 + 8) rfl z28 h28 dX5_add_28 (ws2 := wsC E ad w28) (by subst e28; rfl) (fun H locs X => ?_)
      refine lv_aload_n hx hb dX5_add_29 rfl (lv_at hl 0 rfl) ?_
      refine lv_dup hx hb dX5_add_30 rfl ?_
      refine g_get C X g_iX5 6 rfl rfl 1 (by decide) rfl m_137 rfl dX5_add_31 ?_
      refine lv_iconst (v := 1) hx hb dX5_add_34 (by decide) ?_
      refine lv_iadd hx hb dX5_add_35 ?_
      obtain ⟨w36, e36, hf⟩ := g_leP hf
      refine g_put C X g_iX5 tyX5_ok nmX5 6 rfl rfl 1 (by decide) rfl m_137 rfl rfl rfl (Nat.le_of_ble_eq_true rfl) dX5_add_36 (ws2 := wsC E ad w36) (by subst e36; rfl) (fun H locs X => ?_)
      refine lv_aload_n hx hb dX5_add_39 rfl (lv_at hl 0 rfl) ?_
      refine g_get C X g_iX5 6 rfl rfl 1 (by decide) rfl m_137 rfl dX5_add_40 ?_
      refine W.widen (k := 0) (n := 0) (Nat.le_of_ble_eq_true rfl) (Nat.le_of_ble_eq_true rfl) ?_
      exact g_iretP (wsC E ad) C hr hk X hf dX5_add_43
set_option maxRecDepth 100000 in
set_option maxHeartbeats 4000000 in
theorem cC__noteDown (l : Launch) (E : g_Env) (A : Nat → Prop) (ad : Nat → Nat) (w : CS) (a1 : Nat) (Q : Int32 → CS → Prop) (hf : wC__noteDown E Q w a1) : Met l yX7_noteDown (.code yX7_noteDown cX7_noteDown 2 ((some .int)) :: g_tbl) ({ frames := 1, cells := 0, slots := 0, locals := 21 }) (va_Pc [.ref (ad 0), .ref a1] (g_at E A (wsC E ad w))) (va_Qi (fun (r' : Int32) (u' : va_W) => ∃ w' : CS, u' = wsC E ad w' ∧ Q r' w') (g_B E A) A) 0 0 A := by
  refine g_start (rm := { frames := 1, cells := 0, slots := 0, locals := 21 }) (by decide) (Nat.le_of_ble_eq_true rfl) ?_
  intro p e s m below meth c C hr hk hnm ls hl H locs X
  have hx := C.1.1
  have hb := C.1.2.1
  have hl : lv_has ls 2 [(0, .ref (ad 0)), (1, .ref a1)] := hl
  unfold wC__noteDown at hf
  refine lv_aload_n hx hb dX7_noteDown_0 rfl (lv_at hl 0 rfl) ?_
  refine g_get C X g_iX7 0 rfl rfl 2 (by decide) rfl m_150 rfl dX7_noteDown_1 ?_
  obtain ⟨q4, e4, hf⟩ := hf
  refine g_calli X (g_runV (As := []) (rest := []) C X (cC_Sh_isFull l E A ad w q4.2 q4.1  e4) kX5_isFull m_200 6 3 rfl rfl hl.1 rfl ⟨Nat.le_of_ble_eq_true rfl, Nat.le_of_ble_eq_true rfl⟩ rfl (Nat.le_of_ble_eq_true rfl) dX7_noteDown_4 ⟨Nat.le_of_ble_eq_true rfl, Nat.le_of_ble_eq_true rfl⟩) rfl rfl (fun H locs X => ?_)
  refine lv_if_eq (tgt := 17) hx hb dX7_noteDown_7 (by decide) (fun c7 => ?_) (fun c7 => ?_)
  · have hf := g_tP hf c7
    refine lv_aload_n hx hb dX7_noteDown_17 rfl (lv_at hl 0 rfl) ?_
    refine lv_iconst (v := 0) hx hb dX7_noteDown_18 (by decide) ?_
    obtain ⟨w19, e19, hf⟩ := g_leP hf
    refine g_put C X g_iX7 tyX7_ok nmX7 0 rfl rfl 3 (by decide) rfl m_151 rfl rfl rfl (Nat.le_of_ble_eq_true rfl) dX7_noteDown_19 (ws2 := wsC E ad w19) (by subst e19; rfl) (fun H locs X => ?_)
    refine lv_aload_n hx hb dX7_noteDown_22 rfl (lv_at hl 0 rfl) ?_
    refine g_get C X g_iX7 0 rfl rfl 2 (by decide) rfl m_150 rfl dX7_noteDown_23 ?_
    refine lv_aload_n hx hb dX7_noteDown_26 rfl (lv_at hl 1 rfl) ?_
    have hf := g_unc1 hf
    refine g_calliP (wsC E ad) X (g_runV (As := [.ref a1]) (rest := []) C X (cC_Sh_add l E A ad w19 a1 _ hf) kX5_add m_208 6 3 rfl rfl hl.1 rfl ⟨Nat.le_of_ble_eq_true rfl, Nat.le_of_ble_eq_true rfl⟩ rfl (Nat.le_of_ble_eq_true rfl) dX7_noteDown_27 ⟨Nat.le_of_ble_eq_true rfl, Nat.le_of_ble_eq_true rfl⟩) (fun H locs r27 w27 hf X => ?_)
    refine W.widen (k := 0) (n := 0) (Nat.le_of_ble_eq_true rfl) (Nat.le_of_ble_eq_true rfl) ?_
    refine W.widen (k := 0) (n := 0) (Nat.le_of_ble_eq_true rfl) (Nat.le_of_ble_eq_true rfl) ?_
    exact g_iretP (wsC E ad) C hr hk X hf dX7_noteDown_30
  · have hf := g_fP hf c7
    refine lv_aload_n hx hb dX7_noteDown_10 rfl (lv_at hl 0 rfl) ?_
    refine lv_bipush (v := 6) hx hb dX7_noteDown_11 (by decide) ?_
    obtain ⟨q13, e13, hf⟩ := hf
    refine g_calli X (g_runV (As := [.int (6 : Int32)]) (rest := []) C X (cC__refuse l E A ad q4.2 q13.2 q13.1 (6 : Int32) e13) kX7_refuse m_204 0 5 rfl rfl hl.1 rfl ⟨Nat.le_of_ble_eq_true rfl, Nat.le_of_ble_eq_true rfl⟩ rfl (Nat.le_of_ble_eq_true rfl) dX7_noteDown_13 ⟨Nat.le_of_ble_eq_true rfl, Nat.le_of_ble_eq_true rfl⟩) rfl rfl (fun H locs X => ?_)
    refine W.widen (k := 0) (n := 0) (Nat.le_of_ble_eq_true rfl) (Nat.le_of_ble_eq_true rfl) ?_
    exact g_iretP (wsC E ad) C hr hk X hf dX7_noteDown_16
set_option maxRecDepth 100000 in
set_option maxHeartbeats 4000000 in
theorem cC__keep (l : Launch) (E : g_Env) (A : Nat → Prop) (ad : Nat → Nat) (w : CS) (a1 : Int32) (Q : Int32 → CS → Prop) (hf : wC__keep E Q w a1) : Met l yX7_keep (.code yX7_keep cX7_keep 2 ((some .int)) :: g_tbl) ({ frames := 5, cells := 3, slots := 2798, locals := 134 }) (va_Pc [.ref (ad 0), .int a1] (g_at E A (wsC E ad w))) (va_Qi (fun (r' : Int32) (u' : va_W) => ∃ w' : CS, u' = wsC E ad w' ∧ Q r' w') (g_B E A) A) 3 2798 A := by
  refine g_start (rm := { frames := 5, cells := 3, slots := 2798, locals := 134 }) (by decide) (Nat.le_of_ble_eq_true rfl) ?_
  intro p e s m below meth c C hr hk hnm ls hl H locs X
  have hx := C.1.1
  have hb := C.1.2.1
  have hl : lv_has ls 2 [(0, .ref (ad 0)), (1, .int a1)] := hl
  unfold wC__keep at hf
  refine lv_aload_n hx hb dX7_keep_0 rfl (lv_at hl 0 rfl) ?_
  refine g_get C X g_iX7 0 rfl rfl 0 (by decide) rfl m_148 rfl dX7_keep_1 ?_
  obtain ⟨q4, e4, hf⟩ := hf
  refine g_calli X (g_runV (As := []) (rest := []) C X (cC_S_isHistoryFull l E A ad w q4.2 q4.1  e4) kX6_isHistoryFull m_273 1 4 rfl rfl hl.1 rfl ⟨Nat.le_of_ble_eq_true rfl, Nat.le_of_ble_eq_true rfl⟩ rfl (Nat.le_of_ble_eq_true rfl) dX7_keep_4 ⟨Nat.le_of_ble_eq_true rfl, Nat.le_of_ble_eq_true rfl⟩) rfl rfl (fun H locs X => ?_)
  refine lv_if_eq (tgt := 24) hx hb dX7_keep_7 (by decide) (fun c7 => ?_) (fun c7 => ?_)
  · have hf := g_tP hf c7
    refine lv_aload_n hx hb dX7_keep_24 rfl (lv_at hl 0 rfl) ?_
    refine g_get C X g_iX7 0 rfl rfl 0 (by decide) rfl m_148 rfl dX7_keep_25 ?_
    have hf := g_unc0 hf
    refine g_callvP (wsC E ad) X (g_runV (As := []) (rest := []) C X (cC_S_keepAct l E A ad q4.2  _ hf) kX6_keepAct m_284 1 4 rfl rfl hl.1 rfl ⟨Nat.le_of_ble_eq_true rfl, Nat.le_of_ble_eq_true rfl⟩ rfl (Nat.le_of_ble_eq_true rfl) dX7_keep_28 ⟨Nat.le_of_ble_eq_true rfl, Nat.le_of_ble_eq_true rfl⟩) (fun H locs w28 hf X => ?_)
    refine W.widen (k := 3) (n := 2798) (Nat.le_of_ble_eq_true rfl) (Nat.le_of_ble_eq_true rfl) ?_
    refine lv_iload_n hx hb dX7_keep_31 rfl (lv_at hl 1 rfl) ?_
    refine W.widen (k := 3) (n := 2798) (Nat.le_of_ble_eq_true rfl) (Nat.le_of_ble_eq_true rfl) ?_
    exact g_iretP (wsC E ad) C hr hk X hf dX7_keep_32
  · have hf := g_fP hf c7
    refine lv_aload_n hx hb dX7_keep_10 rfl (lv_at hl 0 rfl) ?_
    refine g_get C X g_iX7 0 rfl rfl 0 (by decide) rfl m_148 rfl dX7_keep_11 ?_
    obtain ⟨q14, e14, hf⟩ := hf
    refine g_callv X (g_runV (As := []) (rest := []) C X (cC_S_dropChanges l E A ad q4.2 q14   e14) kX6_dropChanges m_277 1 4 rfl rfl hl.1 rfl ⟨Nat.le_of_ble_eq_true rfl, Nat.le_of_ble_eq_true rfl⟩ rfl (Nat.le_of_ble_eq_true rfl) dX7_keep_14 ⟨Nat.le_of_ble_eq_true rfl, Nat.le_of_ble_eq_true rfl⟩) rfl rfl (fun H locs X => ?_)
    refine lv_aload_n hx hb dX7_keep_17 rfl (lv_at hl 0 rfl) ?_
    refine lv_bipush (v := 6) hx hb dX7_keep_18 (by decide) ?_
    obtain ⟨q20, e20, hf⟩ := hf
    refine g_calli X (g_runV (As := [.int (6 : Int32)]) (rest := []) C X (cC__refuse l E A ad q14 q20.2 q20.1 (6 : Int32) e20) kX7_refuse m_204 0 5 rfl rfl hl.1 rfl ⟨Nat.le_of_ble_eq_true rfl, Nat.le_of_ble_eq_true rfl⟩ rfl (Nat.le_of_ble_eq_true rfl) dX7_keep_20 ⟨Nat.le_of_ble_eq_true rfl, Nat.le_of_ble_eq_true rfl⟩) rfl rfl (fun H locs X => ?_)
    refine W.widen (k := 3) (n := 2798) (Nat.le_of_ble_eq_true rfl) (Nat.le_of_ble_eq_true rfl) ?_
    exact g_iretP (wsC E ad) C hr hk X hf dX7_keep_23
set_option maxRecDepth 100000 in
set_option maxHeartbeats 4000000 in
theorem cC__keepIfDone (l : Launch) (E : g_Env) (A : Nat → Prop) (ad : Nat → Nat) (w : CS) (a1 : Int32) (Q : Int32 → CS → Prop) (hf : wC__keepIfDone E Q w a1) : Met l yX7_keepIfDone (.code yX7_keepIfDone cX7_keepIfDone 2 ((some .int)) :: g_tbl) ({ frames := 6, cells := 3, slots := 2798, locals := 155 }) (va_Pc [.ref (ad 0), .int a1] (g_at E A (wsC E ad w))) (va_Qi (fun (r' : Int32) (u' : va_W) => ∃ w' : CS, u' = wsC E ad w' ∧ Q r' w') (g_B E A) A) 3 2798 A := by
  refine g_start (rm := { frames := 6, cells := 3, slots := 2798, locals := 155 }) (by decide) (Nat.le_of_ble_eq_true rfl) ?_
  intro p e s m below meth c C hr hk hnm ls hl H locs X
  have hx := C.1.1
  have hb := C.1.2.1
  have hl : lv_has ls 2 [(0, .ref (ad 0)), (1, .int a1)] := hl
  unfold wC__keepIfDone at hf
  refine lv_aload_n hx hb dX7_keepIfDone_0 rfl (lv_at hl 0 rfl) ?_
  refine g_get C X g_iX7 0 rfl rfl 3 (by decide) rfl m_151 rfl dX7_keepIfDone_1 ?_
  refine lv_if_ne (tgt := 15) hx hb dX7_keepIfDone_4 (by decide) (fun c4 => ?_) (fun c4 => ?_)
  · have hf := g_fP hf c4
    refine lv_iload_n hx hb dX7_keepIfDone_15 rfl (lv_at hl 1 rfl) ?_
    refine W.widen (k := 3) (n := 2798) (Nat.le_of_ble_eq_true rfl) (Nat.le_of_ble_eq_true rfl) ?_
    exact g_iretP (wsC E ad) C hr hk X hf dX7_keepIfDone_16
  · have hf := g_tP hf c4
    refine lv_aload_n hx hb dX7_keepIfDone_7 rfl (lv_at hl 0 rfl) ?_
    refine lv_iload_n hx hb dX7_keepIfDone_8 rfl (lv_at hl 1 rfl) ?_
    have hf := g_unc1 hf
    refine g_calliP (wsC E ad) X (g_runV (As := [.int a1]) (rest := []) C X (cC__keep l E A ad w a1 _ hf) kX7_keep m_269 0 5 rfl rfl hl.1 rfl ⟨Nat.le_of_ble_eq_true rfl, Nat.le_of_ble_eq_true rfl⟩ rfl (Nat.le_of_ble_eq_true rfl) dX7_keepIfDone_9 ⟨Nat.le_of_ble_eq_true rfl, Nat.le_of_ble_eq_true rfl⟩) (fun H locs r9 w9 hf X => ?_)
    refine W.widen (k := 3) (n := 2798) (Nat.le_of_ble_eq_true rfl) (Nat.le_of_ble_eq_true rfl) ?_
    refine lv_goto (tgt := 16) hx hb dX7_keepIfDone_12 (by decide) ?_
    refine W.widen (k := 3) (n := 2798) (Nat.le_of_ble_eq_true rfl) (Nat.le_of_ble_eq_true rfl) ?_
    exact g_iretP (wsC E ad) C hr hk X hf dX7_keepIfDone_16
set_option maxRecDepth 100000 in
set_option maxHeartbeats 4000000 in
theorem cC__make (l : Launch) (E : g_Env) (A : Nat → Prop) (ad : Nat → Nat) (w : CS) (a1 : Int32) (a2 : Int32) (a3 : Int32) (Q : Int32 → CS → Prop) (hf : wC__make E Q w a1 a2 a3) : Met l yX7_make (.code yX7_make cX7_make 4 ((some .int)) :: g_tbl) ({ frames := 7, cells := 3, slots := 2798, locals := 176 }) (va_Pc [.ref (ad 0), .int a1, .int a2, .int a3] (g_at E A (wsC E ad w))) (va_Qi (fun (r' : Int32) (u' : va_W) => ∃ w' : CS, u' = wsC E ad w' ∧ Q r' w') (g_B E A) A) 3 2798 A := by
  refine g_start (rm := { frames := 7, cells := 3, slots := 2798, locals := 176 }) (by decide) (Nat.le_of_ble_eq_true rfl) ?_
  intro p e s m below meth c C hr hk hnm ls hl H locs X
  have hx := C.1.1
  have hb := C.1.2.1
  have hl : lv_has ls 4 [(0, .ref (ad 0)), (1, .int a1), (2, .int a2), (3, .int a3)] := hl
  unfold wC__make at hf
  refine lv_aload_n hx hb dX7_make_0 rfl (lv_at hl 0 rfl) ?_
  refine g_get C X g_iX7 0 rfl rfl 2 (by decide) rfl m_150 rfl dX7_make_1 ?_
  refine g_getN C X g_iX5 6 rfl rfl 2 (by decide) rfl n_5 rfl dX7_make_4 ?_
  refine lv_if_eq (tgt := 31) hx hb dX7_make_7 (by decide) (fun c7 => ?_) (fun c7 => ?_)
  · have hf := g_tP hf c7
    refine lv_aload_n hx hb dX7_make_31 rfl (lv_at hl 0 rfl) ?_
    refine lv_aload_n hx hb dX7_make_32 rfl (lv_at hl 0 rfl) ?_
    refine lv_iload_n hx hb dX7_make_33 rfl (lv_at hl 1 rfl) ?_
    refine lv_iload_n hx hb dX7_make_34 rfl (lv_at hl 2 rfl) ?_
    refine lv_iload_n hx hb dX7_make_35 rfl (lv_at hl 3 rfl) ?_
    obtain ⟨q36, e36, hf⟩ := hf
    refine g_calli X (g_runV (As := [.int a1, .int a2, .int a3]) (rest := [.ref (ad 0)]) C X (cC__makeThing l E A ad w q36.2 q36.1 a1 a2 a3 e36) kX7_makeThing m_212 0 5 rfl rfl hl.1 rfl ⟨Nat.le_of_ble_eq_true rfl, Nat.le_of_ble_eq_true rfl⟩ rfl (Nat.le_of_ble_eq_true rfl) dX7_make_36 ⟨Nat.le_of_ble_eq_true rfl, Nat.le_of_ble_eq_true rfl⟩) rfl rfl (fun H locs X => ?_)
    have hf := g_unc1 hf
    refine g_calliP (wsC E ad) X (g_runV (As := [.int q36.1]) (rest := []) C X (cC__keepIfDone l E A ad q36.2 q36.1 _ hf) kX7_keepIfDone m_265 0 5 rfl rfl hl.1 rfl ⟨Nat.le_of_ble_eq_true rfl, Nat.le_of_ble_eq_true rfl⟩ rfl (Nat.le_of_ble_eq_true rfl) dX7_make_39 ⟨Nat.le_of_ble_eq_true rfl, Nat.le_of_ble_eq_true rfl⟩) (fun H locs r39 w39 hf X => ?_)
    refine W.widen (k := 3) (n := 2798) (Nat.le_of_ble_eq_true rfl) (Nat.le_of_ble_eq_true rfl) ?_
    refine W.widen (k := 3) (n := 2798) (Nat.le_of_ble_eq_true rfl) (Nat.le_of_ble_eq_true rfl) ?_
    exact g_iretP (wsC E ad) C hr hk X hf dX7_make_42
  · have hf := g_fP hf c7
    refine lv_aload_n hx hb dX7_make_10 rfl (lv_at hl 0 rfl) ?_
    refine g_newL C X m_165 m_166 m_77 (Nat.le_of_ble_eq_true rfl) (Nat.le_of_ble_eq_true rfl) dX7_make_11 (fun q11 H X => ?_)
    have hf := hf q11
    have X : g_W E A s H locs (wsC E ad (cN w (q11, .inr (2, [.int 0, .int 0, .int 0, .long 0, .int 0, .int 0])))) := X
    refine W.widen (k := 1) (n := 6) (Nat.le_of_ble_eq_true rfl) (Nat.le_of_ble_eq_true rfl) ?_
    refine lv_dup hx hb dX7_make_14 rfl ?_
    refine lv_iconst (v := 0) hx hb dX7_make_15 (by decide) ?_
    refine lv_iload_n hx hb dX7_make_16 rfl (lv_at hl 1 rfl) ?_
    refine lv_iload_n hx hb dX7_make_17 rfl (lv_at hl 2 rfl) ?_
    refine lv_iload_n hx hb dX7_make_18 rfl (lv_at hl 3 rfl) ?_
    refine lv_i2l hx hb dX7_make_19 rfl ?_
    refine lv_iconst (v := 0) hx hb dX7_make_20 (by decide) ?_
    refine lv_iconst (v := 0) hx hb dX7_make_21 (by decide) ?_
    obtain ⟨w22, e22, hf⟩ := g_leP hf
    refine g_callv X (g_runI (As := [.int (0 : Int32), .int a1, .int a2, .long a3.toInt64, .int (0 : Int32), .int (0 : Int32)]) (rest := [.ref q11, .ref (ad 0)]) C X (cC_Line_init l E A ad w q11 (0 : Int32) a1 a2 a3.toInt64 (0 : Int32) (0 : Int32)) kX3_init m_167 hl.1 rfl ⟨Nat.le_of_ble_eq_true rfl, Nat.le_of_ble_eq_true rfl⟩ rfl (Nat.le_of_ble_eq_true rfl) dX7_make_22 ⟨Nat.le_of_ble_eq_true rfl, Nat.le_of_ble_eq_true rfl⟩) rfl rfl (fun H locs X => ?_)
    have X : g_W E A s H locs (wsC E ad w22) := by subst e22; exact X
    have hf := g_unc1 hf
    refine g_calliP (wsC E ad) X (g_runV (As := [.ref q11]) (rest := []) C X (cC__noteDown l E A ad w22 q11 _ hf) kX7_noteDown m_196 0 5 rfl rfl hl.1 rfl ⟨Nat.le_of_ble_eq_true rfl, Nat.le_of_ble_eq_true rfl⟩ rfl (Nat.le_of_ble_eq_true rfl) dX7_make_25 ⟨Nat.le_of_ble_eq_true rfl, Nat.le_of_ble_eq_true rfl⟩) (fun H locs r25 w25 hf X => ?_)
    refine W.widen (k := 1) (n := 6) (Nat.le_of_ble_eq_true rfl) (Nat.le_of_ble_eq_true rfl) ?_
    refine lv_goto (tgt := 42) hx hb dX7_make_28 (by decide) ?_
    refine W.widen (k := 3) (n := 2798) (Nat.le_of_ble_eq_true rfl) (Nat.le_of_ble_eq_true rfl) ?_
    exact g_iretP (wsC E ad) C hr hk X hf dX7_make_42
set_option maxRecDepth 100000 in
set_option maxHeartbeats 4000000 in
theorem cC__lay (l : Launch) (E : g_Env) (A : Nat → Prop) (ad : Nat → Nat) (w : CS) (a1 : Int32) (a2 : Int32) (Q : Int32 → CS → Prop) (hf : wC__lay E Q w a1 a2) : Met l yX7_lay (.code yX7_lay cX7_lay 3 ((some .int)) :: g_tbl) ({ frames := 7, cells := 3, slots := 2798, locals := 176 }) (va_Pc [.ref (ad 0), .int a1, .int a2] (g_at E A (wsC E ad w))) (va_Qi (fun (r' : Int32) (u' : va_W) => ∃ w' : CS, u' = wsC E ad w' ∧ Q r' w') (g_B E A) A) 3 2798 A := by
  refine g_start (rm := { frames := 7, cells := 3, slots := 2798, locals := 176 }) (by decide) (Nat.le_of_ble_eq_true rfl) ?_
  intro p e s m below meth c C hr hk hnm ls hl H locs X
  have hx := C.1.1
  have hb := C.1.2.1
  have hl : lv_has ls 3 [(0, .ref (ad 0)), (1, .int a1), (2, .int a2)] := hl
  unfold wC__lay at hf
  refine lv_aload_n hx hb dX7_lay_0 rfl (lv_at hl 0 rfl) ?_
  refine g_get C X g_iX7 0 rfl rfl 2 (by decide) rfl m_150 rfl dX7_lay_1 ?_
  refine g_getN C X g_iX5 6 rfl rfl 2 (by decide) rfl n_5 rfl dX7_lay_4 ?_
  refine lv_if_eq (tgt := 30) hx hb dX7_lay_7 (by decide) (fun c7 => ?_) (fun c7 => ?_)
  · have hf := g_tP hf c7
    refine lv_aload_n hx hb dX7_lay_30 rfl (lv_at hl 0 rfl) ?_
    refine lv_aload_n hx hb dX7_lay_31 rfl (lv_at hl 0 rfl) ?_
    refine lv_iload_n hx hb dX7_lay_32 rfl (lv_at hl 1 rfl) ?_
    refine lv_iload_n hx hb dX7_lay_33 rfl (lv_at hl 2 rfl) ?_
    obtain ⟨q34, e34, hf⟩ := hf
    refine g_calli X (g_runV (As := [.int a1, .int a2]) (rest := [.ref (ad 0)]) C X (cC__layOver l E A ad w q34.2 q34.1 a1 a2 e34) kX7_layOver m_329 0 5 rfl rfl hl.1 rfl ⟨Nat.le_of_ble_eq_true rfl, Nat.le_of_ble_eq_true rfl⟩ rfl (Nat.le_of_ble_eq_true rfl) dX7_lay_34 ⟨Nat.le_of_ble_eq_true rfl, Nat.le_of_ble_eq_true rfl⟩) rfl rfl (fun H locs X => ?_)
    have hf := g_unc1 hf
    refine g_calliP (wsC E ad) X (g_runV (As := [.int q34.1]) (rest := []) C X (cC__keepIfDone l E A ad q34.2 q34.1 _ hf) kX7_keepIfDone m_265 0 5 rfl rfl hl.1 rfl ⟨Nat.le_of_ble_eq_true rfl, Nat.le_of_ble_eq_true rfl⟩ rfl (Nat.le_of_ble_eq_true rfl) dX7_lay_37 ⟨Nat.le_of_ble_eq_true rfl, Nat.le_of_ble_eq_true rfl⟩) (fun H locs r37 w37 hf X => ?_)
    refine W.widen (k := 3) (n := 2798) (Nat.le_of_ble_eq_true rfl) (Nat.le_of_ble_eq_true rfl) ?_
    refine W.widen (k := 3) (n := 2798) (Nat.le_of_ble_eq_true rfl) (Nat.le_of_ble_eq_true rfl) ?_
    exact g_iretP (wsC E ad) C hr hk X hf dX7_lay_40
  · have hf := g_fP hf c7
    refine lv_aload_n hx hb dX7_lay_10 rfl (lv_at hl 0 rfl) ?_
    refine g_newL C X m_165 m_166 m_77 (Nat.le_of_ble_eq_true rfl) (Nat.le_of_ble_eq_true rfl) dX7_lay_11 (fun q11 H X => ?_)
    have hf := hf q11
    have X : g_W E A s H locs (wsC E ad (cN w (q11, .inr (2, [.int 0, .int 0, .int 0, .long 0, .int 0, .int 0])))) := X
    refine W.widen (k := 1) (n := 6) (Nat.le_of_ble_eq_true rfl) (Nat.le_of_ble_eq_true rfl) ?_
    refine lv_dup hx hb dX7_lay_14 rfl ?_
    refine lv_iconst (v := 1) hx hb dX7_lay_15 (by decide) ?_
    refine lv_iload_n hx hb dX7_lay_16 rfl (lv_at hl 1 rfl) ?_
    refine lv_iload_n hx hb dX7_lay_17 rfl (lv_at hl 2 rfl) ?_
    refine lv_lconst (v := 0) hx hb dX7_lay_18 (by decide) ?_
    refine lv_iconst (v := 0) hx hb dX7_lay_19 (by decide) ?_
    refine lv_iconst (v := 0) hx hb dX7_lay_20 (by decide) ?_
    obtain ⟨w21, e21, hf⟩ := g_leP hf
    refine g_callv X (g_runI (As := [.int (1 : Int32), .int a1, .int a2, .long (0 : Int64), .int (0 : Int32), .int (0 : Int32)]) (rest := [.ref q11, .ref (ad 0)]) C X (cC_Line_init l E A ad w q11 (1 : Int32) a1 a2 (0 : Int64) (0 : Int32) (0 : Int32)) kX3_init m_167 hl.1 rfl ⟨Nat.le_of_ble_eq_true rfl, Nat.le_of_ble_eq_true rfl⟩ rfl (Nat.le_of_ble_eq_true rfl) dX7_lay_21 ⟨Nat.le_of_ble_eq_true rfl, Nat.le_of_ble_eq_true rfl⟩) rfl rfl (fun H locs X => ?_)
    have X : g_W E A s H locs (wsC E ad w21) := by subst e21; exact X
    have hf := g_unc1 hf
    refine g_calliP (wsC E ad) X (g_runV (As := [.ref q11]) (rest := []) C X (cC__noteDown l E A ad w21 q11 _ hf) kX7_noteDown m_196 0 5 rfl rfl hl.1 rfl ⟨Nat.le_of_ble_eq_true rfl, Nat.le_of_ble_eq_true rfl⟩ rfl (Nat.le_of_ble_eq_true rfl) dX7_lay_24 ⟨Nat.le_of_ble_eq_true rfl, Nat.le_of_ble_eq_true rfl⟩) (fun H locs r24 w24 hf X => ?_)
    refine W.widen (k := 1) (n := 6) (Nat.le_of_ble_eq_true rfl) (Nat.le_of_ble_eq_true rfl) ?_
    refine lv_goto (tgt := 40) hx hb dX7_lay_27 (by decide) ?_
    refine W.widen (k := 3) (n := 2798) (Nat.le_of_ble_eq_true rfl) (Nat.le_of_ble_eq_true rfl) ?_
    exact g_iretP (wsC E ad) C hr hk X hf dX7_lay_40
set_option maxRecDepth 100000 in
set_option maxHeartbeats 4000000 in
theorem cC__plug (l : Launch) (E : g_Env) (A : Nat → Prop) (ad : Nat → Nat) (w : CS) (a1 : Int32) (a2 : Int32) (a3 : Int32) (Q : Int32 → CS → Prop) (hf : wC__plug E Q w a1 a2 a3) : Met l yX7_plug (.code yX7_plug cX7_plug 4 ((some .int)) :: g_tbl) ({ frames := 7, cells := 3, slots := 2798, locals := 176 }) (va_Pc [.ref (ad 0), .int a1, .int a2, .int a3] (g_at E A (wsC E ad w))) (va_Qi (fun (r' : Int32) (u' : va_W) => ∃ w' : CS, u' = wsC E ad w' ∧ Q r' w') (g_B E A) A) 3 2798 A := by
  refine g_start (rm := { frames := 7, cells := 3, slots := 2798, locals := 176 }) (by decide) (Nat.le_of_ble_eq_true rfl) ?_
  intro p e s m below meth c C hr hk hnm ls hl H locs X
  have hx := C.1.1
  have hb := C.1.2.1
  have hl : lv_has ls 4 [(0, .ref (ad 0)), (1, .int a1), (2, .int a2), (3, .int a3)] := hl
  unfold wC__plug at hf
  refine lv_aload_n hx hb dX7_plug_0 rfl (lv_at hl 0 rfl) ?_
  refine g_get C X g_iX7 0 rfl rfl 2 (by decide) rfl m_150 rfl dX7_plug_1 ?_
  refine g_getN C X g_iX5 6 rfl rfl 2 (by decide) rfl n_5 rfl dX7_plug_4 ?_
  refine lv_if_eq (tgt := 31) hx hb dX7_plug_7 (by decide) (fun c7 => ?_) (fun c7 => ?_)
  · have hf := g_tP hf c7
    refine lv_aload_n hx hb dX7_plug_31 rfl (lv_at hl 0 rfl) ?_
    refine lv_aload_n hx hb dX7_plug_32 rfl (lv_at hl 0 rfl) ?_
    refine lv_iload_n hx hb dX7_plug_33 rfl (lv_at hl 1 rfl) ?_
    refine lv_iload_n hx hb dX7_plug_34 rfl (lv_at hl 2 rfl) ?_
    refine lv_iload_n hx hb dX7_plug_35 rfl (lv_at hl 3 rfl) ?_
    obtain ⟨q36, e36, hf⟩ := hf
    refine g_calli X (g_runV (As := [.int a1, .int a2, .int a3]) (rest := [.ref (ad 0)]) C X (cC__plugIn l E A ad w q36.2 q36.1 a1 a2 a3 e36) kX7_plugIn m_345 0 5 rfl rfl hl.1 rfl ⟨Nat.le_of_ble_eq_true rfl, Nat.le_of_ble_eq_true rfl⟩ rfl (Nat.le_of_ble_eq_true rfl) dX7_plug_36 ⟨Nat.le_of_ble_eq_true rfl, Nat.le_of_ble_eq_true rfl⟩) rfl rfl (fun H locs X => ?_)
    have hf := g_unc1 hf
    refine g_calliP (wsC E ad) X (g_runV (As := [.int q36.1]) (rest := []) C X (cC__keepIfDone l E A ad q36.2 q36.1 _ hf) kX7_keepIfDone m_265 0 5 rfl rfl hl.1 rfl ⟨Nat.le_of_ble_eq_true rfl, Nat.le_of_ble_eq_true rfl⟩ rfl (Nat.le_of_ble_eq_true rfl) dX7_plug_39 ⟨Nat.le_of_ble_eq_true rfl, Nat.le_of_ble_eq_true rfl⟩) (fun H locs r39 w39 hf X => ?_)
    refine W.widen (k := 3) (n := 2798) (Nat.le_of_ble_eq_true rfl) (Nat.le_of_ble_eq_true rfl) ?_
    refine W.widen (k := 3) (n := 2798) (Nat.le_of_ble_eq_true rfl) (Nat.le_of_ble_eq_true rfl) ?_
    exact g_iretP (wsC E ad) C hr hk X hf dX7_plug_42
  · have hf := g_fP hf c7
    refine lv_aload_n hx hb dX7_plug_10 rfl (lv_at hl 0 rfl) ?_
    refine g_newL C X m_165 m_166 m_77 (Nat.le_of_ble_eq_true rfl) (Nat.le_of_ble_eq_true rfl) dX7_plug_11 (fun q11 H X => ?_)
    have hf := hf q11
    have X : g_W E A s H locs (wsC E ad (cN w (q11, .inr (2, [.int 0, .int 0, .int 0, .long 0, .int 0, .int 0])))) := X
    refine W.widen (k := 1) (n := 6) (Nat.le_of_ble_eq_true rfl) (Nat.le_of_ble_eq_true rfl) ?_
    refine lv_dup hx hb dX7_plug_14 rfl ?_
    refine lv_iconst (v := 2) hx hb dX7_plug_15 (by decide) ?_
    refine lv_iload_n hx hb dX7_plug_16 rfl (lv_at hl 1 rfl) ?_
    refine lv_iload_n hx hb dX7_plug_17 rfl (lv_at hl 2 rfl) ?_
    refine lv_iload_n hx hb dX7_plug_18 rfl (lv_at hl 3 rfl) ?_
    refine lv_i2l hx hb dX7_plug_19 rfl ?_
    refine lv_iconst (v := 0) hx hb dX7_plug_20 (by decide) ?_
    refine lv_iconst (v := 0) hx hb dX7_plug_21 (by decide) ?_
    obtain ⟨w22, e22, hf⟩ := g_leP hf
    refine g_callv X (g_runI (As := [.int (2 : Int32), .int a1, .int a2, .long a3.toInt64, .int (0 : Int32), .int (0 : Int32)]) (rest := [.ref q11, .ref (ad 0)]) C X (cC_Line_init l E A ad w q11 (2 : Int32) a1 a2 a3.toInt64 (0 : Int32) (0 : Int32)) kX3_init m_167 hl.1 rfl ⟨Nat.le_of_ble_eq_true rfl, Nat.le_of_ble_eq_true rfl⟩ rfl (Nat.le_of_ble_eq_true rfl) dX7_plug_22 ⟨Nat.le_of_ble_eq_true rfl, Nat.le_of_ble_eq_true rfl⟩) rfl rfl (fun H locs X => ?_)
    have X : g_W E A s H locs (wsC E ad w22) := by subst e22; exact X
    have hf := g_unc1 hf
    refine g_calliP (wsC E ad) X (g_runV (As := [.ref q11]) (rest := []) C X (cC__noteDown l E A ad w22 q11 _ hf) kX7_noteDown m_196 0 5 rfl rfl hl.1 rfl ⟨Nat.le_of_ble_eq_true rfl, Nat.le_of_ble_eq_true rfl⟩ rfl (Nat.le_of_ble_eq_true rfl) dX7_plug_25 ⟨Nat.le_of_ble_eq_true rfl, Nat.le_of_ble_eq_true rfl⟩) (fun H locs r25 w25 hf X => ?_)
    refine W.widen (k := 1) (n := 6) (Nat.le_of_ble_eq_true rfl) (Nat.le_of_ble_eq_true rfl) ?_
    refine lv_goto (tgt := 42) hx hb dX7_plug_28 (by decide) ?_
    refine W.widen (k := 3) (n := 2798) (Nat.le_of_ble_eq_true rfl) (Nat.le_of_ble_eq_true rfl) ?_
    exact g_iretP (wsC E ad) C hr hk X hf dX7_plug_42
set_option maxRecDepth 100000 in
set_option maxHeartbeats 4000000 in
theorem cC__pull (l : Launch) (E : g_Env) (A : Nat → Prop) (ad : Nat → Nat) (w : CS) (a1 : Int32) (a2 : Int32) (a3 : Int32) (Q : Int32 → CS → Prop) (hf : wC__pull E Q w a1 a2 a3) : Met l yX7_pull (.code yX7_pull cX7_pull 4 ((some .int)) :: g_tbl) ({ frames := 7, cells := 3, slots := 2798, locals := 176 }) (va_Pc [.ref (ad 0), .int a1, .int a2, .int a3] (g_at E A (wsC E ad w))) (va_Qi (fun (r' : Int32) (u' : va_W) => ∃ w' : CS, u' = wsC E ad w' ∧ Q r' w') (g_B E A) A) 3 2798 A := by
  refine g_start (rm := { frames := 7, cells := 3, slots := 2798, locals := 176 }) (by decide) (Nat.le_of_ble_eq_true rfl) ?_
  intro p e s m below meth c C hr hk hnm ls hl H locs X
  have hx := C.1.1
  have hb := C.1.2.1
  have hl : lv_has ls 4 [(0, .ref (ad 0)), (1, .int a1), (2, .int a2), (3, .int a3)] := hl
  unfold wC__pull at hf
  refine lv_aload_n hx hb dX7_pull_0 rfl (lv_at hl 0 rfl) ?_
  refine g_get C X g_iX7 0 rfl rfl 2 (by decide) rfl m_150 rfl dX7_pull_1 ?_
  refine g_getN C X g_iX5 6 rfl rfl 2 (by decide) rfl n_5 rfl dX7_pull_4 ?_
  refine lv_if_eq (tgt := 31) hx hb dX7_pull_7 (by decide) (fun c7 => ?_) (fun c7 => ?_)
  · have hf := g_tP hf c7
    refine lv_aload_n hx hb dX7_pull_31 rfl (lv_at hl 0 rfl) ?_
    refine lv_aload_n hx hb dX7_pull_32 rfl (lv_at hl 0 rfl) ?_
    refine lv_iload_n hx hb dX7_pull_33 rfl (lv_at hl 1 rfl) ?_
    refine lv_iload_n hx hb dX7_pull_34 rfl (lv_at hl 2 rfl) ?_
    refine lv_iload_n hx hb dX7_pull_35 rfl (lv_at hl 3 rfl) ?_
    obtain ⟨q36, e36, hf⟩ := hf
    refine g_calli X (g_runV (As := [.int a1, .int a2, .int a3]) (rest := [.ref (ad 0)]) C X (cC__pullOut l E A ad w q36.2 q36.1 a1 a2 a3 e36) kX7_pullOut m_383 0 5 rfl rfl hl.1 rfl ⟨Nat.le_of_ble_eq_true rfl, Nat.le_of_ble_eq_true rfl⟩ rfl (Nat.le_of_ble_eq_true rfl) dX7_pull_36 ⟨Nat.le_of_ble_eq_true rfl, Nat.le_of_ble_eq_true rfl⟩) rfl rfl (fun H locs X => ?_)
    have hf := g_unc1 hf
    refine g_calliP (wsC E ad) X (g_runV (As := [.int q36.1]) (rest := []) C X (cC__keepIfDone l E A ad q36.2 q36.1 _ hf) kX7_keepIfDone m_265 0 5 rfl rfl hl.1 rfl ⟨Nat.le_of_ble_eq_true rfl, Nat.le_of_ble_eq_true rfl⟩ rfl (Nat.le_of_ble_eq_true rfl) dX7_pull_39 ⟨Nat.le_of_ble_eq_true rfl, Nat.le_of_ble_eq_true rfl⟩) (fun H locs r39 w39 hf X => ?_)
    refine W.widen (k := 3) (n := 2798) (Nat.le_of_ble_eq_true rfl) (Nat.le_of_ble_eq_true rfl) ?_
    refine W.widen (k := 3) (n := 2798) (Nat.le_of_ble_eq_true rfl) (Nat.le_of_ble_eq_true rfl) ?_
    exact g_iretP (wsC E ad) C hr hk X hf dX7_pull_42
  · have hf := g_fP hf c7
    refine lv_aload_n hx hb dX7_pull_10 rfl (lv_at hl 0 rfl) ?_
    refine g_newL C X m_165 m_166 m_77 (Nat.le_of_ble_eq_true rfl) (Nat.le_of_ble_eq_true rfl) dX7_pull_11 (fun q11 H X => ?_)
    have hf := hf q11
    have X : g_W E A s H locs (wsC E ad (cN w (q11, .inr (2, [.int 0, .int 0, .int 0, .long 0, .int 0, .int 0])))) := X
    refine W.widen (k := 1) (n := 6) (Nat.le_of_ble_eq_true rfl) (Nat.le_of_ble_eq_true rfl) ?_
    refine lv_dup hx hb dX7_pull_14 rfl ?_
    refine lv_iconst (v := 3) hx hb dX7_pull_15 (by decide) ?_
    refine lv_iload_n hx hb dX7_pull_16 rfl (lv_at hl 1 rfl) ?_
    refine lv_iload_n hx hb dX7_pull_17 rfl (lv_at hl 2 rfl) ?_
    refine lv_iload_n hx hb dX7_pull_18 rfl (lv_at hl 3 rfl) ?_
    refine lv_i2l hx hb dX7_pull_19 rfl ?_
    refine lv_iconst (v := 0) hx hb dX7_pull_20 (by decide) ?_
    refine lv_iconst (v := 0) hx hb dX7_pull_21 (by decide) ?_
    obtain ⟨w22, e22, hf⟩ := g_leP hf
    refine g_callv X (g_runI (As := [.int (3 : Int32), .int a1, .int a2, .long a3.toInt64, .int (0 : Int32), .int (0 : Int32)]) (rest := [.ref q11, .ref (ad 0)]) C X (cC_Line_init l E A ad w q11 (3 : Int32) a1 a2 a3.toInt64 (0 : Int32) (0 : Int32)) kX3_init m_167 hl.1 rfl ⟨Nat.le_of_ble_eq_true rfl, Nat.le_of_ble_eq_true rfl⟩ rfl (Nat.le_of_ble_eq_true rfl) dX7_pull_22 ⟨Nat.le_of_ble_eq_true rfl, Nat.le_of_ble_eq_true rfl⟩) rfl rfl (fun H locs X => ?_)
    have X : g_W E A s H locs (wsC E ad w22) := by subst e22; exact X
    have hf := g_unc1 hf
    refine g_calliP (wsC E ad) X (g_runV (As := [.ref q11]) (rest := []) C X (cC__noteDown l E A ad w22 q11 _ hf) kX7_noteDown m_196 0 5 rfl rfl hl.1 rfl ⟨Nat.le_of_ble_eq_true rfl, Nat.le_of_ble_eq_true rfl⟩ rfl (Nat.le_of_ble_eq_true rfl) dX7_pull_25 ⟨Nat.le_of_ble_eq_true rfl, Nat.le_of_ble_eq_true rfl⟩) (fun H locs r25 w25 hf X => ?_)
    refine W.widen (k := 1) (n := 6) (Nat.le_of_ble_eq_true rfl) (Nat.le_of_ble_eq_true rfl) ?_
    refine lv_goto (tgt := 42) hx hb dX7_pull_28 (by decide) ?_
    refine W.widen (k := 3) (n := 2798) (Nat.le_of_ble_eq_true rfl) (Nat.le_of_ble_eq_true rfl) ?_
    exact g_iretP (wsC E ad) C hr hk X hf dX7_pull_42
set_option maxRecDepth 100000 in
set_option maxHeartbeats 4000000 in
theorem cC__copy (l : Launch) (E : g_Env) (A : Nat → Prop) (ad : Nat → Nat) (w : CS) (a1 : Int32) (a2 : Int32) (a3 : Int32) (a4 : Int32) (a5 : Int32) (Q : Int32 → CS → Prop) (hf : wC__copy E Q w a1 a2 a3 a4 a5) : Met l yX7_copy (.code yX7_copy cX7_copy 7 ((some .int)) :: g_tbl) ({ frames := 7, cells := 3, slots := 2798, locals := 176 }) (va_Pc [.ref (ad 0), .int a1, .int a2, .int a3, .int a4, .int a5] (g_at E A (wsC E ad w))) (va_Qi (fun (r' : Int32) (u' : va_W) => ∃ w' : CS, u' = wsC E ad w' ∧ Q r' w') (g_B E A) A) 3 2798 A := by
  refine g_start (rm := { frames := 7, cells := 3, slots := 2798, locals := 176 }) (by decide) (Nat.le_of_ble_eq_true rfl) ?_
  intro p e s m below meth c C hr hk hnm ls hl H locs X
  have hx := C.1.1
  have hb := C.1.2.1
  have hl : lv_has ls 7 [(0, .ref (ad 0)), (1, .int a1), (2, .int a2), (3, .int a3), (4, .int a4), (5, .int a5)] := hl
  unfold wC__copy at hf
  refine lv_aload_n hx hb dX7_copy_0 rfl (lv_at hl 0 rfl) ?_
  refine g_get C X g_iX7 0 rfl rfl 2 (by decide) rfl m_150 rfl dX7_copy_1 ?_
  refine g_getN C X g_iX5 6 rfl rfl 2 (by decide) rfl n_5 rfl dX7_copy_4 ?_
  refine lv_if_eq (tgt := 31) hx hb dX7_copy_7 (by decide) (fun c7 => ?_) (fun c7 => ?_)
  · have hf := g_tP hf c7
    refine lv_aload_n hx hb dX7_copy_31 rfl (lv_at hl 0 rfl) ?_
    refine lv_iload_n hx hb dX7_copy_32 rfl (lv_at hl 1 rfl) ?_
    refine lv_iload_n hx hb dX7_copy_33 rfl (lv_at hl 2 rfl) ?_
    refine lv_iload_n hx hb dX7_copy_34 rfl (lv_at hl 3 rfl) ?_
    refine lv_iload hx hb dX7_copy_35 (lv_at hl 4 rfl) ?_
    refine lv_iload hx hb dX7_copy_37 (lv_at hl 5 rfl) ?_
    obtain ⟨q39, e39, hf⟩ := hf
    refine g_calli X (g_runV (As := [.int a1, .int a2, .int a3, .int a4, .int a5]) (rest := []) C X (cC__copyPlaces l E A ad w q39.2 q39.1 a1 a2 a3 a4 a5 e39) kX7_copyPlaces m_391 0 5 rfl rfl hl.1 rfl ⟨Nat.le_of_ble_eq_true rfl, Nat.le_of_ble_eq_true rfl⟩ rfl (Nat.le_of_ble_eq_true rfl) dX7_copy_39 ⟨Nat.le_of_ble_eq_true rfl, Nat.le_of_ble_eq_true rfl⟩) rfl rfl (fun H locs X => ?_)
    refine lv_istore (lv' := [(6, .int q39.1), (0, .ref (ad 0)), (1, .int a1), (2, .int a2), (3, .int a3), (4, .int a4), (5, .int a5)]) hx hb dX7_copy_42 hl (by decide) rfl (fun ls hl => ?_)
    refine lv_aload_n hx hb dX7_copy_44 rfl (lv_at hl 1 rfl) ?_
    refine g_get C X g_iX7 0 rfl rfl 3 (by decide) rfl m_151 rfl dX7_copy_45 ?_
    refine lv_iconst (v := 5) hx hb dX7_copy_48 (by decide) ?_
    refine lv_icmp_ne (tgt := 61) hx hb dX7_copy_49 (by decide) (fun c49 => ?_) (fun c49 => ?_)
    · have hf := g_fP hf c49
      refine lv_aload_n hx hb dX7_copy_61 rfl (lv_at hl 1 rfl) ?_
      refine lv_iload hx hb dX7_copy_62 (lv_at hl 0 rfl) ?_
      have hf := g_unc1 hf
      refine g_calliP (wsC E ad) X (g_runV (As := [.int q39.1]) (rest := []) C X (cC__keepIfDone l E A ad q39.2 q39.1 _ hf) kX7_keepIfDone m_265 0 5 rfl rfl hl.1 rfl ⟨Nat.le_of_ble_eq_true rfl, Nat.le_of_ble_eq_true rfl⟩ rfl (Nat.le_of_ble_eq_true rfl) dX7_copy_64 ⟨Nat.le_of_ble_eq_true rfl, Nat.le_of_ble_eq_true rfl⟩) (fun H locs r64 w64 hf X => ?_)
      refine W.widen (k := 3) (n := 2798) (Nat.le_of_ble_eq_true rfl) (Nat.le_of_ble_eq_true rfl) ?_
      refine W.widen (k := 3) (n := 2798) (Nat.le_of_ble_eq_true rfl) (Nat.le_of_ble_eq_true rfl) ?_
      exact g_iretP (wsC E ad) C hr hk X hf dX7_copy_67
    · have hf := g_tP hf c49
      refine lv_aload_n hx hb dX7_copy_52 rfl (lv_at hl 1 rfl) ?_
      refine lv_iload hx hb dX7_copy_53 (lv_at hl 0 rfl) ?_
      have hf := g_unc1 hf
      refine g_calliP (wsC E ad) X (g_runV (As := [.int q39.1]) (rest := []) C X (cC__keep l E A ad q39.2 q39.1 _ hf) kX7_keep m_269 0 5 rfl rfl hl.1 rfl ⟨Nat.le_of_ble_eq_true rfl, Nat.le_of_ble_eq_true rfl⟩ rfl (Nat.le_of_ble_eq_true rfl) dX7_copy_55 ⟨Nat.le_of_ble_eq_true rfl, Nat.le_of_ble_eq_true rfl⟩) (fun H locs r55 w55 hf X => ?_)
      refine W.widen (k := 3) (n := 2798) (Nat.le_of_ble_eq_true rfl) (Nat.le_of_ble_eq_true rfl) ?_
      refine lv_goto (tgt := 67) hx hb dX7_copy_58 (by decide) ?_
      refine W.widen (k := 3) (n := 2798) (Nat.le_of_ble_eq_true rfl) (Nat.le_of_ble_eq_true rfl) ?_
      exact g_iretP (wsC E ad) C hr hk X hf dX7_copy_67
  · have hf := g_fP hf c7
    refine lv_aload_n hx hb dX7_copy_10 rfl (lv_at hl 0 rfl) ?_
    refine g_newL C X m_165 m_166 m_77 (Nat.le_of_ble_eq_true rfl) (Nat.le_of_ble_eq_true rfl) dX7_copy_11 (fun q11 H X => ?_)
    have hf := hf q11
    have X : g_W E A s H locs (wsC E ad (cN w (q11, .inr (2, [.int 0, .int 0, .int 0, .long 0, .int 0, .int 0])))) := X
    refine W.widen (k := 1) (n := 6) (Nat.le_of_ble_eq_true rfl) (Nat.le_of_ble_eq_true rfl) ?_
    refine lv_dup hx hb dX7_copy_14 rfl ?_
    refine lv_iconst (v := 4) hx hb dX7_copy_15 (by decide) ?_
    refine lv_iload_n hx hb dX7_copy_16 rfl (lv_at hl 1 rfl) ?_
    refine lv_iload_n hx hb dX7_copy_17 rfl (lv_at hl 2 rfl) ?_
    refine lv_iload_n hx hb dX7_copy_18 rfl (lv_at hl 3 rfl) ?_
    refine lv_i2l hx hb dX7_copy_19 rfl ?_
    refine lv_iload hx hb dX7_copy_20 (lv_at hl 4 rfl) ?_
    refine lv_iload hx hb dX7_copy_22 (lv_at hl 5 rfl) ?_
    obtain ⟨w24, e24, hf⟩ := g_leP hf
    refine g_callv X (g_runI (As := [.int (4 : Int32), .int a1, .int a2, .long a3.toInt64, .int a4, .int a5]) (rest := [.ref q11, .ref (ad 0)]) C X (cC_Line_init l E A ad w q11 (4 : Int32) a1 a2 a3.toInt64 a4 a5) kX3_init m_167 hl.1 rfl ⟨Nat.le_of_ble_eq_true rfl, Nat.le_of_ble_eq_true rfl⟩ rfl (Nat.le_of_ble_eq_true rfl) dX7_copy_24 ⟨Nat.le_of_ble_eq_true rfl, Nat.le_of_ble_eq_true rfl⟩) rfl rfl (fun H locs X => ?_)
    have X : g_W E A s H locs (wsC E ad w24) := by subst e24; exact X
    have hf := g_unc1 hf
    refine g_calliP (wsC E ad) X (g_runV (As := [.ref q11]) (rest := []) C X (cC__noteDown l E A ad w24 q11 _ hf) kX7_noteDown m_196 0 5 rfl rfl hl.1 rfl ⟨Nat.le_of_ble_eq_true rfl, Nat.le_of_ble_eq_true rfl⟩ rfl (Nat.le_of_ble_eq_true rfl) dX7_copy_27 ⟨Nat.le_of_ble_eq_true rfl, Nat.le_of_ble_eq_true rfl⟩) (fun H locs r27 w27 hf X => ?_)
    refine W.widen (k := 1) (n := 6) (Nat.le_of_ble_eq_true rfl) (Nat.le_of_ble_eq_true rfl) ?_
    refine W.widen (k := 3) (n := 2798) (Nat.le_of_ble_eq_true rfl) (Nat.le_of_ble_eq_true rfl) ?_
    exact g_iretP (wsC E ad) C hr hk X hf dX7_copy_30
set_option maxRecDepth 100000 in
set_option maxHeartbeats 4000000 in
theorem cC__write (l : Launch) (E : g_Env) (A : Nat → Prop) (ad : Nat → Nat) (w : CS) (a1 : Int32) (a2 : Int32) (a3 : Int64) (Q : Int32 → CS → Prop) (hf : wC__write E Q w a1 a2 a3) : Met l yX7_write (.code yX7_write cX7_write 5 ((some .int)) :: g_tbl) ({ frames := 7, cells := 3, slots := 2798, locals := 176 }) (va_Pc [.ref (ad 0), .int a1, .int a2, .long a3] (g_at E A (wsC E ad w))) (va_Qi (fun (r' : Int32) (u' : va_W) => ∃ w' : CS, u' = wsC E ad w' ∧ Q r' w') (g_B E A) A) 3 2798 A := by
  refine g_start (rm := { frames := 7, cells := 3, slots := 2798, locals := 176 }) (by decide) (Nat.le_of_ble_eq_true rfl) ?_
  intro p e s m below meth c C hr hk hnm ls hl H locs X
  have hx := C.1.1
  have hb := C.1.2.1
  have hl : lv_has ls 5 [(0, .ref (ad 0)), (1, .int a1), (2, .int a2), (3, .long a3)] := hl
  unfold wC__write at hf
  refine lv_aload_n hx hb dX7_write_0 rfl (lv_at hl 0 rfl) ?_
  refine g_get C X g_iX7 0 rfl rfl 2 (by decide) rfl m_150 rfl dX7_write_1 ?_
  refine g_getN C X g_iX5 6 rfl rfl 2 (by decide) rfl n_5 rfl dX7_write_4 ?_
  refine lv_if_eq (tgt := 30) hx hb dX7_write_7 (by decide) (fun c7 => ?_) (fun c7 => ?_)
  · have hf := g_tP hf c7
    refine lv_aload_n hx hb dX7_write_30 rfl (lv_at hl 0 rfl) ?_
    refine lv_aload_n hx hb dX7_write_31 rfl (lv_at hl 0 rfl) ?_
    refine lv_iload_n hx hb dX7_write_32 rfl (lv_at hl 1 rfl) ?_
    refine lv_iload_n hx hb dX7_write_33 rfl (lv_at hl 2 rfl) ?_
    refine lv_lload_n hx hb dX7_write_34 rfl (lv_at hl 3 rfl) ?_
    obtain ⟨q35, e35, hf⟩ := hf
    refine g_calli X (g_runV (As := [.int a1, .int a2, .long a3]) (rest := [.ref (ad 0)]) C X (cC__writeNumber l E A ad w q35.2 q35.1 a1 a2 a3 e35) kX7_writeNumber m_426 0 5 rfl rfl hl.1 rfl ⟨Nat.le_of_ble_eq_true rfl, Nat.le_of_ble_eq_true rfl⟩ rfl (Nat.le_of_ble_eq_true rfl) dX7_write_35 ⟨Nat.le_of_ble_eq_true rfl, Nat.le_of_ble_eq_true rfl⟩) rfl rfl (fun H locs X => ?_)
    have hf := g_unc1 hf
    refine g_calliP (wsC E ad) X (g_runV (As := [.int q35.1]) (rest := []) C X (cC__keepIfDone l E A ad q35.2 q35.1 _ hf) kX7_keepIfDone m_265 0 5 rfl rfl hl.1 rfl ⟨Nat.le_of_ble_eq_true rfl, Nat.le_of_ble_eq_true rfl⟩ rfl (Nat.le_of_ble_eq_true rfl) dX7_write_38 ⟨Nat.le_of_ble_eq_true rfl, Nat.le_of_ble_eq_true rfl⟩) (fun H locs r38 w38 hf X => ?_)
    refine W.widen (k := 3) (n := 2798) (Nat.le_of_ble_eq_true rfl) (Nat.le_of_ble_eq_true rfl) ?_
    refine W.widen (k := 3) (n := 2798) (Nat.le_of_ble_eq_true rfl) (Nat.le_of_ble_eq_true rfl) ?_
    exact g_iretP (wsC E ad) C hr hk X hf dX7_write_41
  · have hf := g_fP hf c7
    refine lv_aload_n hx hb dX7_write_10 rfl (lv_at hl 0 rfl) ?_
    refine g_newL C X m_165 m_166 m_77 (Nat.le_of_ble_eq_true rfl) (Nat.le_of_ble_eq_true rfl) dX7_write_11 (fun q11 H X => ?_)
    have hf := hf q11
    have X : g_W E A s H locs (wsC E ad (cN w (q11, .inr (2, [.int 0, .int 0, .int 0, .long 0, .int 0, .int 0])))) := X
    refine W.widen (k := 1) (n := 6) (Nat.le_of_ble_eq_true rfl) (Nat.le_of_ble_eq_true rfl) ?_
    refine lv_dup hx hb dX7_write_14 rfl ?_
    refine lv_iconst (v := 5) hx hb dX7_write_15 (by decide) ?_
    refine lv_iload_n hx hb dX7_write_16 rfl (lv_at hl 1 rfl) ?_
    refine lv_iload_n hx hb dX7_write_17 rfl (lv_at hl 2 rfl) ?_
    refine lv_lload_n hx hb dX7_write_18 rfl (lv_at hl 3 rfl) ?_
    refine lv_iconst (v := 0) hx hb dX7_write_19 (by decide) ?_
    refine lv_iconst (v := 0) hx hb dX7_write_20 (by decide) ?_
    obtain ⟨w21, e21, hf⟩ := g_leP hf
    refine g_callv X (g_runI (As := [.int (5 : Int32), .int a1, .int a2, .long a3, .int (0 : Int32), .int (0 : Int32)]) (rest := [.ref q11, .ref (ad 0)]) C X (cC_Line_init l E A ad w q11 (5 : Int32) a1 a2 a3 (0 : Int32) (0 : Int32)) kX3_init m_167 hl.1 rfl ⟨Nat.le_of_ble_eq_true rfl, Nat.le_of_ble_eq_true rfl⟩ rfl (Nat.le_of_ble_eq_true rfl) dX7_write_21 ⟨Nat.le_of_ble_eq_true rfl, Nat.le_of_ble_eq_true rfl⟩) rfl rfl (fun H locs X => ?_)
    have X : g_W E A s H locs (wsC E ad w21) := by subst e21; exact X
    have hf := g_unc1 hf
    refine g_calliP (wsC E ad) X (g_runV (As := [.ref q11]) (rest := []) C X (cC__noteDown l E A ad w21 q11 _ hf) kX7_noteDown m_196 0 5 rfl rfl hl.1 rfl ⟨Nat.le_of_ble_eq_true rfl, Nat.le_of_ble_eq_true rfl⟩ rfl (Nat.le_of_ble_eq_true rfl) dX7_write_24 ⟨Nat.le_of_ble_eq_true rfl, Nat.le_of_ble_eq_true rfl⟩) (fun H locs r24 w24 hf X => ?_)
    refine W.widen (k := 1) (n := 6) (Nat.le_of_ble_eq_true rfl) (Nat.le_of_ble_eq_true rfl) ?_
    refine lv_goto (tgt := 41) hx hb dX7_write_27 (by decide) ?_
    refine W.widen (k := 3) (n := 2798) (Nat.le_of_ble_eq_true rfl) (Nat.le_of_ble_eq_true rfl) ?_
    exact g_iretP (wsC E ad) C hr hk X hf dX7_write_41
set_option maxRecDepth 100000 in
set_option maxHeartbeats 4000000 in
theorem cC__knob (l : Launch) (E : g_Env) (A : Nat → Prop) (ad : Nat → Nat) (w : CS) (a1 : Int32) (a2 : Int32) (Q : Int32 → CS → Prop) (hf : wC__knob E Q w a1 a2) : Met l yX7_knob (.code yX7_knob cX7_knob 3 ((some .int)) :: g_tbl) ({ frames := 7, cells := 3, slots := 2798, locals := 176 }) (va_Pc [.ref (ad 0), .int a1, .int a2] (g_at E A (wsC E ad w))) (va_Qi (fun (r' : Int32) (u' : va_W) => ∃ w' : CS, u' = wsC E ad w' ∧ Q r' w') (g_B E A) A) 3 2798 A := by
  refine g_start (rm := { frames := 7, cells := 3, slots := 2798, locals := 176 }) (by decide) (Nat.le_of_ble_eq_true rfl) ?_
  intro p e s m below meth c C hr hk hnm ls hl H locs X
  have hx := C.1.1
  have hb := C.1.2.1
  have hl : lv_has ls 3 [(0, .ref (ad 0)), (1, .int a1), (2, .int a2)] := hl
  unfold wC__knob at hf
  refine lv_aload_n hx hb dX7_knob_0 rfl (lv_at hl 0 rfl) ?_
  refine g_get C X g_iX7 0 rfl rfl 2 (by decide) rfl m_150 rfl dX7_knob_1 ?_
  refine g_getN C X g_iX5 6 rfl rfl 2 (by decide) rfl n_5 rfl dX7_knob_4 ?_
  refine lv_if_eq (tgt := 31) hx hb dX7_knob_7 (by decide) (fun c7 => ?_) (fun c7 => ?_)
  · have hf := g_tP hf c7
    refine lv_aload_n hx hb dX7_knob_31 rfl (lv_at hl 0 rfl) ?_
    refine lv_aload_n hx hb dX7_knob_32 rfl (lv_at hl 0 rfl) ?_
    refine lv_iload_n hx hb dX7_knob_33 rfl (lv_at hl 1 rfl) ?_
    refine lv_iload_n hx hb dX7_knob_34 rfl (lv_at hl 2 rfl) ?_
    obtain ⟨q35, e35, hf⟩ := hf
    refine g_calli X (g_runV (As := [.int a1, .int a2]) (rest := [.ref (ad 0)]) C X (cC__setKnob l E A ad w q35.2 q35.1 a1 a2 e35) kX7_setKnob m_438 0 5 rfl rfl hl.1 rfl ⟨Nat.le_of_ble_eq_true rfl, Nat.le_of_ble_eq_true rfl⟩ rfl (Nat.le_of_ble_eq_true rfl) dX7_knob_35 ⟨Nat.le_of_ble_eq_true rfl, Nat.le_of_ble_eq_true rfl⟩) rfl rfl (fun H locs X => ?_)
    have hf := g_unc1 hf
    refine g_calliP (wsC E ad) X (g_runV (As := [.int q35.1]) (rest := []) C X (cC__keepIfDone l E A ad q35.2 q35.1 _ hf) kX7_keepIfDone m_265 0 5 rfl rfl hl.1 rfl ⟨Nat.le_of_ble_eq_true rfl, Nat.le_of_ble_eq_true rfl⟩ rfl (Nat.le_of_ble_eq_true rfl) dX7_knob_38 ⟨Nat.le_of_ble_eq_true rfl, Nat.le_of_ble_eq_true rfl⟩) (fun H locs r38 w38 hf X => ?_)
    refine W.widen (k := 3) (n := 2798) (Nat.le_of_ble_eq_true rfl) (Nat.le_of_ble_eq_true rfl) ?_
    refine W.widen (k := 3) (n := 2798) (Nat.le_of_ble_eq_true rfl) (Nat.le_of_ble_eq_true rfl) ?_
    exact g_iretP (wsC E ad) C hr hk X hf dX7_knob_41
  · have hf := g_fP hf c7
    refine lv_aload_n hx hb dX7_knob_10 rfl (lv_at hl 0 rfl) ?_
    refine g_newL C X m_165 m_166 m_77 (Nat.le_of_ble_eq_true rfl) (Nat.le_of_ble_eq_true rfl) dX7_knob_11 (fun q11 H X => ?_)
    have hf := hf q11
    have X : g_W E A s H locs (wsC E ad (cN w (q11, .inr (2, [.int 0, .int 0, .int 0, .long 0, .int 0, .int 0])))) := X
    refine W.widen (k := 1) (n := 6) (Nat.le_of_ble_eq_true rfl) (Nat.le_of_ble_eq_true rfl) ?_
    refine lv_dup hx hb dX7_knob_14 rfl ?_
    refine lv_bipush (v := 6) hx hb dX7_knob_15 (by decide) ?_
    refine lv_iload_n hx hb dX7_knob_17 rfl (lv_at hl 1 rfl) ?_
    refine lv_iload_n hx hb dX7_knob_18 rfl (lv_at hl 2 rfl) ?_
    refine lv_lconst (v := 0) hx hb dX7_knob_19 (by decide) ?_
    refine lv_iconst (v := 0) hx hb dX7_knob_20 (by decide) ?_
    refine lv_iconst (v := 0) hx hb dX7_knob_21 (by decide) ?_
    obtain ⟨w22, e22, hf⟩ := g_leP hf
    refine g_callv X (g_runI (As := [.int (6 : Int32), .int a1, .int a2, .long (0 : Int64), .int (0 : Int32), .int (0 : Int32)]) (rest := [.ref q11, .ref (ad 0)]) C X (cC_Line_init l E A ad w q11 (6 : Int32) a1 a2 (0 : Int64) (0 : Int32) (0 : Int32)) kX3_init m_167 hl.1 rfl ⟨Nat.le_of_ble_eq_true rfl, Nat.le_of_ble_eq_true rfl⟩ rfl (Nat.le_of_ble_eq_true rfl) dX7_knob_22 ⟨Nat.le_of_ble_eq_true rfl, Nat.le_of_ble_eq_true rfl⟩) rfl rfl (fun H locs X => ?_)
    have X : g_W E A s H locs (wsC E ad w22) := by subst e22; exact X
    have hf := g_unc1 hf
    refine g_calliP (wsC E ad) X (g_runV (As := [.ref q11]) (rest := []) C X (cC__noteDown l E A ad w22 q11 _ hf) kX7_noteDown m_196 0 5 rfl rfl hl.1 rfl ⟨Nat.le_of_ble_eq_true rfl, Nat.le_of_ble_eq_true rfl⟩ rfl (Nat.le_of_ble_eq_true rfl) dX7_knob_25 ⟨Nat.le_of_ble_eq_true rfl, Nat.le_of_ble_eq_true rfl⟩) (fun H locs r25 w25 hf X => ?_)
    refine W.widen (k := 1) (n := 6) (Nat.le_of_ble_eq_true rfl) (Nat.le_of_ble_eq_true rfl) ?_
    refine lv_goto (tgt := 41) hx hb dX7_knob_28 (by decide) ?_
    refine W.widen (k := 3) (n := 2798) (Nat.le_of_ble_eq_true rfl) (Nat.le_of_ble_eq_true rfl) ?_
    exact g_iretP (wsC E ad) C hr hk X hf dX7_knob_41
set_option maxRecDepth 100000 in
set_option maxHeartbeats 4000000 in
theorem cC__play (l : Launch) (E : g_Env) (A : Nat → Prop) (ad : Nat → Nat) (w : CS) (a1 : Int32) (a2 : Int32) (Q : Int32 → CS → Prop) (hf : wC__play E Q w a1 a2) : Met l yX7_play (.code yX7_play cX7_play 3 ((some .int)) :: g_tbl) ({ frames := 7, cells := 3, slots := 2798, locals := 176 }) (va_Pc [.ref (ad 0), .int a1, .int a2] (g_at E A (wsC E ad w))) (va_Qi (fun (r' : Int32) (u' : va_W) => ∃ w' : CS, u' = wsC E ad w' ∧ Q r' w') (g_B E A) A) 3 2798 A := by
  refine g_start (rm := { frames := 7, cells := 3, slots := 2798, locals := 176 }) (by decide) (Nat.le_of_ble_eq_true rfl) ?_
  intro p e s m below meth c C hr hk hnm ls hl H locs X
  have hx := C.1.1
  have hb := C.1.2.1
  have hl : lv_has ls 3 [(0, .ref (ad 0)), (1, .int a1), (2, .int a2)] := hl
  unfold wC__play at hf
  refine lv_aload_n hx hb dX7_play_0 rfl (lv_at hl 0 rfl) ?_
  refine g_get C X g_iX7 0 rfl rfl 2 (by decide) rfl m_150 rfl dX7_play_1 ?_
  refine g_getN C X g_iX5 6 rfl rfl 2 (by decide) rfl n_5 rfl dX7_play_4 ?_
  refine lv_if_eq (tgt := 31) hx hb dX7_play_7 (by decide) (fun c7 => ?_) (fun c7 => ?_)
  · have hf := g_tP hf c7
    refine lv_aload_n hx hb dX7_play_31 rfl (lv_at hl 0 rfl) ?_
    refine lv_aload_n hx hb dX7_play_32 rfl (lv_at hl 0 rfl) ?_
    refine lv_iload_n hx hb dX7_play_33 rfl (lv_at hl 1 rfl) ?_
    refine lv_iload_n hx hb dX7_play_34 rfl (lv_at hl 2 rfl) ?_
    obtain ⟨q35, e35, hf⟩ := hf
    refine g_calli X (g_runV (As := [.int a1, .int a2]) (rest := [.ref (ad 0)]) C X (cC__playOnce l E A ad w q35.2 q35.1 a1 a2 e35) kX7_playOnce m_447 0 5 rfl rfl hl.1 rfl ⟨Nat.le_of_ble_eq_true rfl, Nat.le_of_ble_eq_true rfl⟩ rfl (Nat.le_of_ble_eq_true rfl) dX7_play_35 ⟨Nat.le_of_ble_eq_true rfl, Nat.le_of_ble_eq_true rfl⟩) rfl rfl (fun H locs X => ?_)
    have hf := g_unc1 hf
    refine g_calliP (wsC E ad) X (g_runV (As := [.int q35.1]) (rest := []) C X (cC__keepIfDone l E A ad q35.2 q35.1 _ hf) kX7_keepIfDone m_265 0 5 rfl rfl hl.1 rfl ⟨Nat.le_of_ble_eq_true rfl, Nat.le_of_ble_eq_true rfl⟩ rfl (Nat.le_of_ble_eq_true rfl) dX7_play_38 ⟨Nat.le_of_ble_eq_true rfl, Nat.le_of_ble_eq_true rfl⟩) (fun H locs r38 w38 hf X => ?_)
    refine W.widen (k := 3) (n := 2798) (Nat.le_of_ble_eq_true rfl) (Nat.le_of_ble_eq_true rfl) ?_
    refine W.widen (k := 3) (n := 2798) (Nat.le_of_ble_eq_true rfl) (Nat.le_of_ble_eq_true rfl) ?_
    exact g_iretP (wsC E ad) C hr hk X hf dX7_play_41
  · have hf := g_fP hf c7
    refine lv_aload_n hx hb dX7_play_10 rfl (lv_at hl 0 rfl) ?_
    refine g_newL C X m_165 m_166 m_77 (Nat.le_of_ble_eq_true rfl) (Nat.le_of_ble_eq_true rfl) dX7_play_11 (fun q11 H X => ?_)
    have hf := hf q11
    have X : g_W E A s H locs (wsC E ad (cN w (q11, .inr (2, [.int 0, .int 0, .int 0, .long 0, .int 0, .int 0])))) := X
    refine W.widen (k := 1) (n := 6) (Nat.le_of_ble_eq_true rfl) (Nat.le_of_ble_eq_true rfl) ?_
    refine lv_dup hx hb dX7_play_14 rfl ?_
    refine lv_bipush (v := 7) hx hb dX7_play_15 (by decide) ?_
    refine lv_iload_n hx hb dX7_play_17 rfl (lv_at hl 1 rfl) ?_
    refine lv_iload_n hx hb dX7_play_18 rfl (lv_at hl 2 rfl) ?_
    refine lv_lconst (v := 0) hx hb dX7_play_19 (by decide) ?_
    refine lv_iconst (v := 0) hx hb dX7_play_20 (by decide) ?_
    refine lv_iconst (v := 0) hx hb dX7_play_21 (by decide) ?_
    obtain ⟨w22, e22, hf⟩ := g_leP hf
    refine g_callv X (g_runI (As := [.int (7 : Int32), .int a1, .int a2, .long (0 : Int64), .int (0 : Int32), .int (0 : Int32)]) (rest := [.ref q11, .ref (ad 0)]) C X (cC_Line_init l E A ad w q11 (7 : Int32) a1 a2 (0 : Int64) (0 : Int32) (0 : Int32)) kX3_init m_167 hl.1 rfl ⟨Nat.le_of_ble_eq_true rfl, Nat.le_of_ble_eq_true rfl⟩ rfl (Nat.le_of_ble_eq_true rfl) dX7_play_22 ⟨Nat.le_of_ble_eq_true rfl, Nat.le_of_ble_eq_true rfl⟩) rfl rfl (fun H locs X => ?_)
    have X : g_W E A s H locs (wsC E ad w22) := by subst e22; exact X
    have hf := g_unc1 hf
    refine g_calliP (wsC E ad) X (g_runV (As := [.ref q11]) (rest := []) C X (cC__noteDown l E A ad w22 q11 _ hf) kX7_noteDown m_196 0 5 rfl rfl hl.1 rfl ⟨Nat.le_of_ble_eq_true rfl, Nat.le_of_ble_eq_true rfl⟩ rfl (Nat.le_of_ble_eq_true rfl) dX7_play_25 ⟨Nat.le_of_ble_eq_true rfl, Nat.le_of_ble_eq_true rfl⟩) (fun H locs r25 w25 hf X => ?_)
    refine W.widen (k := 1) (n := 6) (Nat.le_of_ble_eq_true rfl) (Nat.le_of_ble_eq_true rfl) ?_
    refine lv_goto (tgt := 41) hx hb dX7_play_28 (by decide) ?_
    refine W.widen (k := 3) (n := 2798) (Nat.le_of_ble_eq_true rfl) (Nat.le_of_ble_eq_true rfl) ?_
    exact g_iretP (wsC E ad) C hr hk X hf dX7_play_41
set_option maxRecDepth 100000 in
set_option maxHeartbeats 4000000 in
theorem cC__run (l : Launch) (E : g_Env) (A : Nat → Prop) (ad : Nat → Nat) (w : CS) (a1 : Int32) (a2 : Int32) (Q : Int32 → CS → Prop) (hf : wC__run E Q w a1 a2) : Met l yX7_run (.code yX7_run cX7_run 3 ((some .int)) :: g_tbl) ({ frames := 7, cells := 3, slots := 2798, locals := 176 }) (va_Pc [.ref (ad 0), .int a1, .int a2] (g_at E A (wsC E ad w))) (va_Qi (fun (r' : Int32) (u' : va_W) => ∃ w' : CS, u' = wsC E ad w' ∧ Q r' w') (g_B E A) A) 3 2798 A := by
  refine g_start (rm := { frames := 7, cells := 3, slots := 2798, locals := 176 }) (by decide) (Nat.le_of_ble_eq_true rfl) ?_
  intro p e s m below meth c C hr hk hnm ls hl H locs X
  have hx := C.1.1
  have hb := C.1.2.1
  have hl : lv_has ls 3 [(0, .ref (ad 0)), (1, .int a1), (2, .int a2)] := hl
  unfold wC__run at hf
  refine lv_aload_n hx hb dX7_run_0 rfl (lv_at hl 0 rfl) ?_
  refine g_get C X g_iX7 0 rfl rfl 2 (by decide) rfl m_150 rfl dX7_run_1 ?_
  refine g_getN C X g_iX5 6 rfl rfl 2 (by decide) rfl n_5 rfl dX7_run_4 ?_
  refine lv_if_eq (tgt := 31) hx hb dX7_run_7 (by decide) (fun c7 => ?_) (fun c7 => ?_)
  · have hf := g_tP hf c7
    refine lv_aload_n hx hb dX7_run_31 rfl (lv_at hl 0 rfl) ?_
    refine lv_aload_n hx hb dX7_run_32 rfl (lv_at hl 0 rfl) ?_
    refine lv_iload_n hx hb dX7_run_33 rfl (lv_at hl 1 rfl) ?_
    refine lv_iload_n hx hb dX7_run_34 rfl (lv_at hl 2 rfl) ?_
    obtain ⟨q35, e35, hf⟩ := hf
    refine g_calli X (g_runV (As := [.int a1, .int a2]) (rest := [.ref (ad 0)]) C X (cC__runOver l E A ad w q35.2 q35.1 a1 a2 e35) kX7_runOver m_512 0 5 rfl rfl hl.1 rfl ⟨Nat.le_of_ble_eq_true rfl, Nat.le_of_ble_eq_true rfl⟩ rfl (Nat.le_of_ble_eq_true rfl) dX7_run_35 ⟨Nat.le_of_ble_eq_true rfl, Nat.le_of_ble_eq_true rfl⟩) rfl rfl (fun H locs X => ?_)
    have hf := g_unc1 hf
    refine g_calliP (wsC E ad) X (g_runV (As := [.int q35.1]) (rest := []) C X (cC__keepIfDone l E A ad q35.2 q35.1 _ hf) kX7_keepIfDone m_265 0 5 rfl rfl hl.1 rfl ⟨Nat.le_of_ble_eq_true rfl, Nat.le_of_ble_eq_true rfl⟩ rfl (Nat.le_of_ble_eq_true rfl) dX7_run_38 ⟨Nat.le_of_ble_eq_true rfl, Nat.le_of_ble_eq_true rfl⟩) (fun H locs r38 w38 hf X => ?_)
    refine W.widen (k := 3) (n := 2798) (Nat.le_of_ble_eq_true rfl) (Nat.le_of_ble_eq_true rfl) ?_
    refine W.widen (k := 3) (n := 2798) (Nat.le_of_ble_eq_true rfl) (Nat.le_of_ble_eq_true rfl) ?_
    exact g_iretP (wsC E ad) C hr hk X hf dX7_run_41
  · have hf := g_fP hf c7
    refine lv_aload_n hx hb dX7_run_10 rfl (lv_at hl 0 rfl) ?_
    refine g_newL C X m_165 m_166 m_77 (Nat.le_of_ble_eq_true rfl) (Nat.le_of_ble_eq_true rfl) dX7_run_11 (fun q11 H X => ?_)
    have hf := hf q11
    have X : g_W E A s H locs (wsC E ad (cN w (q11, .inr (2, [.int 0, .int 0, .int 0, .long 0, .int 0, .int 0])))) := X
    refine W.widen (k := 1) (n := 6) (Nat.le_of_ble_eq_true rfl) (Nat.le_of_ble_eq_true rfl) ?_
    refine lv_dup hx hb dX7_run_14 rfl ?_
    refine lv_bipush (v := 8) hx hb dX7_run_15 (by decide) ?_
    refine lv_iload_n hx hb dX7_run_17 rfl (lv_at hl 1 rfl) ?_
    refine lv_iload_n hx hb dX7_run_18 rfl (lv_at hl 2 rfl) ?_
    refine lv_lconst (v := 0) hx hb dX7_run_19 (by decide) ?_
    refine lv_iconst (v := 0) hx hb dX7_run_20 (by decide) ?_
    refine lv_iconst (v := 0) hx hb dX7_run_21 (by decide) ?_
    obtain ⟨w22, e22, hf⟩ := g_leP hf
    refine g_callv X (g_runI (As := [.int (8 : Int32), .int a1, .int a2, .long (0 : Int64), .int (0 : Int32), .int (0 : Int32)]) (rest := [.ref q11, .ref (ad 0)]) C X (cC_Line_init l E A ad w q11 (8 : Int32) a1 a2 (0 : Int64) (0 : Int32) (0 : Int32)) kX3_init m_167 hl.1 rfl ⟨Nat.le_of_ble_eq_true rfl, Nat.le_of_ble_eq_true rfl⟩ rfl (Nat.le_of_ble_eq_true rfl) dX7_run_22 ⟨Nat.le_of_ble_eq_true rfl, Nat.le_of_ble_eq_true rfl⟩) rfl rfl (fun H locs X => ?_)
    have X : g_W E A s H locs (wsC E ad w22) := by subst e22; exact X
    have hf := g_unc1 hf
    refine g_calliP (wsC E ad) X (g_runV (As := [.ref q11]) (rest := []) C X (cC__noteDown l E A ad w22 q11 _ hf) kX7_noteDown m_196 0 5 rfl rfl hl.1 rfl ⟨Nat.le_of_ble_eq_true rfl, Nat.le_of_ble_eq_true rfl⟩ rfl (Nat.le_of_ble_eq_true rfl) dX7_run_25 ⟨Nat.le_of_ble_eq_true rfl, Nat.le_of_ble_eq_true rfl⟩) (fun H locs r25 w25 hf X => ?_)
    refine W.widen (k := 1) (n := 6) (Nat.le_of_ble_eq_true rfl) (Nat.le_of_ble_eq_true rfl) ?_
    refine lv_goto (tgt := 41) hx hb dX7_run_28 (by decide) ?_
    refine W.widen (k := 3) (n := 2798) (Nat.le_of_ble_eq_true rfl) (Nat.le_of_ble_eq_true rfl) ?_
    exact g_iretP (wsC E ad) C hr hk X hf dX7_run_41
set_option maxRecDepth 100000 in
set_option maxHeartbeats 4000000 in
theorem cC__ticks (l : Launch) (E : g_Env) (A : Nat → Prop) (ad : Nat → Nat) (w : CS) (a1 : Int32) (a2 : Int32) (Q : Int32 → CS → Prop) (hf : wC__ticks E Q w a1 a2) : Met l yX7_ticks (.code yX7_ticks cX7_ticks 3 ((some .int)) :: g_tbl) ({ frames := 7, cells := 3, slots := 2798, locals := 176 }) (va_Pc [.ref (ad 0), .int a1, .int a2] (g_at E A (wsC E ad w))) (va_Qi (fun (r' : Int32) (u' : va_W) => ∃ w' : CS, u' = wsC E ad w' ∧ Q r' w') (g_B E A) A) 3 2798 A := by
  refine g_start (rm := { frames := 7, cells := 3, slots := 2798, locals := 176 }) (by decide) (Nat.le_of_ble_eq_true rfl) ?_
  intro p e s m below meth c C hr hk hnm ls hl H locs X
  have hx := C.1.1
  have hb := C.1.2.1
  have hl : lv_has ls 3 [(0, .ref (ad 0)), (1, .int a1), (2, .int a2)] := hl
  unfold wC__ticks at hf
  refine lv_aload_n hx hb dX7_ticks_0 rfl (lv_at hl 0 rfl) ?_
  refine g_get C X g_iX7 0 rfl rfl 2 (by decide) rfl m_150 rfl dX7_ticks_1 ?_
  refine g_getN C X g_iX5 6 rfl rfl 2 (by decide) rfl n_5 rfl dX7_ticks_4 ?_
  refine lv_if_eq (tgt := 31) hx hb dX7_ticks_7 (by decide) (fun c7 => ?_) (fun c7 => ?_)
  · have hf := g_tP hf c7
    refine lv_aload_n hx hb dX7_ticks_31 rfl (lv_at hl 0 rfl) ?_
    refine lv_aload_n hx hb dX7_ticks_32 rfl (lv_at hl 0 rfl) ?_
    refine lv_iload_n hx hb dX7_ticks_33 rfl (lv_at hl 1 rfl) ?_
    refine lv_iload_n hx hb dX7_ticks_34 rfl (lv_at hl 2 rfl) ?_
    obtain ⟨q35, e35, hf⟩ := hf
    refine g_calli X (g_runV (As := [.int a1, .int a2]) (rest := [.ref (ad 0)]) C X (cC__tickOn l E A ad w q35.2 q35.1 a1 a2 e35) kX7_tickOn m_521 0 5 rfl rfl hl.1 rfl ⟨Nat.le_of_ble_eq_true rfl, Nat.le_of_ble_eq_true rfl⟩ rfl (Nat.le_of_ble_eq_true rfl) dX7_ticks_35 ⟨Nat.le_of_ble_eq_true rfl, Nat.le_of_ble_eq_true rfl⟩) rfl rfl (fun H locs X => ?_)
    have hf := g_unc1 hf
    refine g_calliP (wsC E ad) X (g_runV (As := [.int q35.1]) (rest := []) C X (cC__keepIfDone l E A ad q35.2 q35.1 _ hf) kX7_keepIfDone m_265 0 5 rfl rfl hl.1 rfl ⟨Nat.le_of_ble_eq_true rfl, Nat.le_of_ble_eq_true rfl⟩ rfl (Nat.le_of_ble_eq_true rfl) dX7_ticks_38 ⟨Nat.le_of_ble_eq_true rfl, Nat.le_of_ble_eq_true rfl⟩) (fun H locs r38 w38 hf X => ?_)
    refine W.widen (k := 3) (n := 2798) (Nat.le_of_ble_eq_true rfl) (Nat.le_of_ble_eq_true rfl) ?_
    refine W.widen (k := 3) (n := 2798) (Nat.le_of_ble_eq_true rfl) (Nat.le_of_ble_eq_true rfl) ?_
    exact g_iretP (wsC E ad) C hr hk X hf dX7_ticks_41
  · have hf := g_fP hf c7
    refine lv_aload_n hx hb dX7_ticks_10 rfl (lv_at hl 0 rfl) ?_
    refine g_newL C X m_165 m_166 m_77 (Nat.le_of_ble_eq_true rfl) (Nat.le_of_ble_eq_true rfl) dX7_ticks_11 (fun q11 H X => ?_)
    have hf := hf q11
    have X : g_W E A s H locs (wsC E ad (cN w (q11, .inr (2, [.int 0, .int 0, .int 0, .long 0, .int 0, .int 0])))) := X
    refine W.widen (k := 1) (n := 6) (Nat.le_of_ble_eq_true rfl) (Nat.le_of_ble_eq_true rfl) ?_
    refine lv_dup hx hb dX7_ticks_14 rfl ?_
    refine lv_bipush (v := 9) hx hb dX7_ticks_15 (by decide) ?_
    refine lv_iload_n hx hb dX7_ticks_17 rfl (lv_at hl 1 rfl) ?_
    refine lv_iload_n hx hb dX7_ticks_18 rfl (lv_at hl 2 rfl) ?_
    refine lv_lconst (v := 0) hx hb dX7_ticks_19 (by decide) ?_
    refine lv_iconst (v := 0) hx hb dX7_ticks_20 (by decide) ?_
    refine lv_iconst (v := 0) hx hb dX7_ticks_21 (by decide) ?_
    obtain ⟨w22, e22, hf⟩ := g_leP hf
    refine g_callv X (g_runI (As := [.int (9 : Int32), .int a1, .int a2, .long (0 : Int64), .int (0 : Int32), .int (0 : Int32)]) (rest := [.ref q11, .ref (ad 0)]) C X (cC_Line_init l E A ad w q11 (9 : Int32) a1 a2 (0 : Int64) (0 : Int32) (0 : Int32)) kX3_init m_167 hl.1 rfl ⟨Nat.le_of_ble_eq_true rfl, Nat.le_of_ble_eq_true rfl⟩ rfl (Nat.le_of_ble_eq_true rfl) dX7_ticks_22 ⟨Nat.le_of_ble_eq_true rfl, Nat.le_of_ble_eq_true rfl⟩) rfl rfl (fun H locs X => ?_)
    have X : g_W E A s H locs (wsC E ad w22) := by subst e22; exact X
    have hf := g_unc1 hf
    refine g_calliP (wsC E ad) X (g_runV (As := [.ref q11]) (rest := []) C X (cC__noteDown l E A ad w22 q11 _ hf) kX7_noteDown m_196 0 5 rfl rfl hl.1 rfl ⟨Nat.le_of_ble_eq_true rfl, Nat.le_of_ble_eq_true rfl⟩ rfl (Nat.le_of_ble_eq_true rfl) dX7_ticks_25 ⟨Nat.le_of_ble_eq_true rfl, Nat.le_of_ble_eq_true rfl⟩) (fun H locs r25 w25 hf X => ?_)
    refine W.widen (k := 1) (n := 6) (Nat.le_of_ble_eq_true rfl) (Nat.le_of_ble_eq_true rfl) ?_
    refine lv_goto (tgt := 41) hx hb dX7_ticks_28 (by decide) ?_
    refine W.widen (k := 3) (n := 2798) (Nat.le_of_ble_eq_true rfl) (Nat.le_of_ble_eq_true rfl) ?_
    exact g_iretP (wsC E ad) C hr hk X hf dX7_ticks_41
set_option maxRecDepth 100000 in
set_option maxHeartbeats 4000000 in
theorem cC__rest (l : Launch) (E : g_Env) (A : Nat → Prop) (ad : Nat → Nat) (w : CS) (a1 : Int32) (Q : Int32 → CS → Prop) (hf : wC__rest E Q w a1) : Met l yX7_rest (.code yX7_rest cX7_rest 2 ((some .int)) :: g_tbl) ({ frames := 7, cells := 3, slots := 2798, locals := 176 }) (va_Pc [.ref (ad 0), .int a1] (g_at E A (wsC E ad w))) (va_Qi (fun (r' : Int32) (u' : va_W) => ∃ w' : CS, u' = wsC E ad w' ∧ Q r' w') (g_B E A) A) 3 2798 A := by
  refine g_start (rm := { frames := 7, cells := 3, slots := 2798, locals := 176 }) (by decide) (Nat.le_of_ble_eq_true rfl) ?_
  intro p e s m below meth c C hr hk hnm ls hl H locs X
  have hx := C.1.1
  have hb := C.1.2.1
  have hl : lv_has ls 2 [(0, .ref (ad 0)), (1, .int a1)] := hl
  unfold wC__rest at hf
  refine lv_aload_n hx hb dX7_rest_0 rfl (lv_at hl 0 rfl) ?_
  refine g_get C X g_iX7 0 rfl rfl 2 (by decide) rfl m_150 rfl dX7_rest_1 ?_
  refine g_getN C X g_iX5 6 rfl rfl 2 (by decide) rfl n_5 rfl dX7_rest_4 ?_
  refine lv_if_eq (tgt := 31) hx hb dX7_rest_7 (by decide) (fun c7 => ?_) (fun c7 => ?_)
  · have hf := g_tP hf c7
    refine lv_aload_n hx hb dX7_rest_31 rfl (lv_at hl 0 rfl) ?_
    refine lv_aload_n hx hb dX7_rest_32 rfl (lv_at hl 0 rfl) ?_
    refine lv_iload_n hx hb dX7_rest_33 rfl (lv_at hl 1 rfl) ?_
    obtain ⟨q34, e34, hf⟩ := hf
    refine g_calli X (g_runV (As := [.int a1]) (rest := [.ref (ad 0)]) C X (cC__restAll l E A ad w q34.2 q34.1 a1 e34) kX7_restAll m_537 0 5 rfl rfl hl.1 rfl ⟨Nat.le_of_ble_eq_true rfl, Nat.le_of_ble_eq_true rfl⟩ rfl (Nat.le_of_ble_eq_true rfl) dX7_rest_34 ⟨Nat.le_of_ble_eq_true rfl, Nat.le_of_ble_eq_true rfl⟩) rfl rfl (fun H locs X => ?_)
    have hf := g_unc1 hf
    refine g_calliP (wsC E ad) X (g_runV (As := [.int q34.1]) (rest := []) C X (cC__keepIfDone l E A ad q34.2 q34.1 _ hf) kX7_keepIfDone m_265 0 5 rfl rfl hl.1 rfl ⟨Nat.le_of_ble_eq_true rfl, Nat.le_of_ble_eq_true rfl⟩ rfl (Nat.le_of_ble_eq_true rfl) dX7_rest_37 ⟨Nat.le_of_ble_eq_true rfl, Nat.le_of_ble_eq_true rfl⟩) (fun H locs r37 w37 hf X => ?_)
    refine W.widen (k := 3) (n := 2798) (Nat.le_of_ble_eq_true rfl) (Nat.le_of_ble_eq_true rfl) ?_
    refine W.widen (k := 3) (n := 2798) (Nat.le_of_ble_eq_true rfl) (Nat.le_of_ble_eq_true rfl) ?_
    exact g_iretP (wsC E ad) C hr hk X hf dX7_rest_40
  · have hf := g_fP hf c7
    refine lv_aload_n hx hb dX7_rest_10 rfl (lv_at hl 0 rfl) ?_
    refine g_newL C X m_165 m_166 m_77 (Nat.le_of_ble_eq_true rfl) (Nat.le_of_ble_eq_true rfl) dX7_rest_11 (fun q11 H X => ?_)
    have hf := hf q11
    have X : g_W E A s H locs (wsC E ad (cN w (q11, .inr (2, [.int 0, .int 0, .int 0, .long 0, .int 0, .int 0])))) := X
    refine W.widen (k := 1) (n := 6) (Nat.le_of_ble_eq_true rfl) (Nat.le_of_ble_eq_true rfl) ?_
    refine lv_dup hx hb dX7_rest_14 rfl ?_
    refine lv_bipush (v := 10) hx hb dX7_rest_15 (by decide) ?_
    refine lv_iload_n hx hb dX7_rest_17 rfl (lv_at hl 1 rfl) ?_
    refine lv_iconst (v := 0) hx hb dX7_rest_18 (by decide) ?_
    refine lv_lconst (v := 0) hx hb dX7_rest_19 (by decide) ?_
    refine lv_iconst (v := 0) hx hb dX7_rest_20 (by decide) ?_
    refine lv_iconst (v := 0) hx hb dX7_rest_21 (by decide) ?_
    obtain ⟨w22, e22, hf⟩ := g_leP hf
    refine g_callv X (g_runI (As := [.int (10 : Int32), .int a1, .int (0 : Int32), .long (0 : Int64), .int (0 : Int32), .int (0 : Int32)]) (rest := [.ref q11, .ref (ad 0)]) C X (cC_Line_init l E A ad w q11 (10 : Int32) a1 (0 : Int32) (0 : Int64) (0 : Int32) (0 : Int32)) kX3_init m_167 hl.1 rfl ⟨Nat.le_of_ble_eq_true rfl, Nat.le_of_ble_eq_true rfl⟩ rfl (Nat.le_of_ble_eq_true rfl) dX7_rest_22 ⟨Nat.le_of_ble_eq_true rfl, Nat.le_of_ble_eq_true rfl⟩) rfl rfl (fun H locs X => ?_)
    have X : g_W E A s H locs (wsC E ad w22) := by subst e22; exact X
    have hf := g_unc1 hf
    refine g_calliP (wsC E ad) X (g_runV (As := [.ref q11]) (rest := []) C X (cC__noteDown l E A ad w22 q11 _ hf) kX7_noteDown m_196 0 5 rfl rfl hl.1 rfl ⟨Nat.le_of_ble_eq_true rfl, Nat.le_of_ble_eq_true rfl⟩ rfl (Nat.le_of_ble_eq_true rfl) dX7_rest_25 ⟨Nat.le_of_ble_eq_true rfl, Nat.le_of_ble_eq_true rfl⟩) (fun H locs r25 w25 hf X => ?_)
    refine W.widen (k := 1) (n := 6) (Nat.le_of_ble_eq_true rfl) (Nat.le_of_ble_eq_true rfl) ?_
    refine lv_goto (tgt := 40) hx hb dX7_rest_28 (by decide) ?_
    refine W.widen (k := 3) (n := 2798) (Nat.le_of_ble_eq_true rfl) (Nat.le_of_ble_eq_true rfl) ?_
    exact g_iretP (wsC E ad) C hr hk X hf dX7_rest_40
set_option maxRecDepth 100000 in
set_option maxHeartbeats 4000000 in
theorem cC__when (l : Launch) (E : g_Env) (A : Nat → Prop) (ad : Nat → Nat) (w : CS) (a1 : Int32) (a2 : Int32) (Q : Int32 → CS → Prop) (hf : wC__when E Q w a1 a2) : Met l yX7_when (.code yX7_when cX7_when 3 ((some .int)) :: g_tbl) ({ frames := 2, cells := 1, slots := 6, locals := 57 }) (va_Pc [.ref (ad 0), .int a1, .int a2] (g_at E A (wsC E ad w))) (va_Qi (fun (r' : Int32) (u' : va_W) => ∃ w' : CS, u' = wsC E ad w' ∧ Q r' w') (g_B E A) A) 1 6 A := by
  refine g_start (rm := { frames := 2, cells := 1, slots := 6, locals := 57 }) (by decide) (Nat.le_of_ble_eq_true rfl) ?_
  intro p e s m below meth c C hr hk hnm ls hl H locs X
  have hx := C.1.1
  have hb := C.1.2.1
  have hl : lv_has ls 3 [(0, .ref (ad 0)), (1, .int a1), (2, .int a2)] := hl
  unfold wC__when at hf
  refine lv_aload_n hx hb dX7_when_0 rfl (lv_at hl 0 rfl) ?_
  refine g_get C X g_iX7 0 rfl rfl 2 (by decide) rfl m_150 rfl dX7_when_1 ?_
  refine g_getN C X g_iX5 6 rfl rfl 2 (by decide) rfl n_5 rfl dX7_when_4 ?_
  refine lv_if_eq (tgt := 31) hx hb dX7_when_7 (by decide) (fun c7 => ?_) (fun c7 => ?_)
  · have hf := g_tP hf c7
    refine lv_aload_n hx hb dX7_when_31 rfl (lv_at hl 0 rfl) ?_
    refine lv_bipush (v := 7) hx hb dX7_when_32 (by decide) ?_
    obtain ⟨q34, e34, hf⟩ := hf
    refine g_calli X (g_runV (As := [.int (7 : Int32)]) (rest := []) C X (cC__refuse l E A ad w q34.2 q34.1 (7 : Int32) e34) kX7_refuse m_204 0 5 rfl rfl hl.1 rfl ⟨Nat.le_of_ble_eq_true rfl, Nat.le_of_ble_eq_true rfl⟩ rfl (Nat.le_of_ble_eq_true rfl) dX7_when_34 ⟨Nat.le_of_ble_eq_true rfl, Nat.le_of_ble_eq_true rfl⟩) rfl rfl (fun H locs X => ?_)
    refine W.widen (k := 1) (n := 6) (Nat.le_of_ble_eq_true rfl) (Nat.le_of_ble_eq_true rfl) ?_
    exact g_iretP (wsC E ad) C hr hk X hf dX7_when_37
  · have hf := g_fP hf c7
    refine lv_aload_n hx hb dX7_when_10 rfl (lv_at hl 0 rfl) ?_
    refine g_newL C X m_165 m_166 m_77 (Nat.le_of_ble_eq_true rfl) (Nat.le_of_ble_eq_true rfl) dX7_when_11 (fun q11 H X => ?_)
    have hf := hf q11
    have X : g_W E A s H locs (wsC E ad (cN w (q11, .inr (2, [.int 0, .int 0, .int 0, .long 0, .int 0, .int 0])))) := X
    refine W.widen (k := 1) (n := 6) (Nat.le_of_ble_eq_true rfl) (Nat.le_of_ble_eq_true rfl) ?_
    refine lv_dup hx hb dX7_when_14 rfl ?_
    refine lv_bipush (v := 11) hx hb dX7_when_15 (by decide) ?_
    refine lv_iload_n hx hb dX7_when_17 rfl (lv_at hl 1 rfl) ?_
    refine lv_iload_n hx hb dX7_when_18 rfl (lv_at hl 2 rfl) ?_
    refine lv_lconst (v := 0) hx hb dX7_when_19 (by decide) ?_
    refine lv_iconst (v := 0) hx hb dX7_when_20 (by decide) ?_
    refine lv_iconst (v := 0) hx hb dX7_when_21 (by decide) ?_
    obtain ⟨w22, e22, hf⟩ := g_leP hf
    refine g_callv X (g_runI (As := [.int (11 : Int32), .int a1, .int a2, .long (0 : Int64), .int (0 : Int32), .int (0 : Int32)]) (rest := [.ref q11, .ref (ad 0)]) C X (cC_Line_init l E A ad w q11 (11 : Int32) a1 a2 (0 : Int64) (0 : Int32) (0 : Int32)) kX3_init m_167 hl.1 rfl ⟨Nat.le_of_ble_eq_true rfl, Nat.le_of_ble_eq_true rfl⟩ rfl (Nat.le_of_ble_eq_true rfl) dX7_when_22 ⟨Nat.le_of_ble_eq_true rfl, Nat.le_of_ble_eq_true rfl⟩) rfl rfl (fun H locs X => ?_)
    have X : g_W E A s H locs (wsC E ad w22) := by subst e22; exact X
    have hf := g_unc1 hf
    refine g_calliP (wsC E ad) X (g_runV (As := [.ref q11]) (rest := []) C X (cC__noteDown l E A ad w22 q11 _ hf) kX7_noteDown m_196 0 5 rfl rfl hl.1 rfl ⟨Nat.le_of_ble_eq_true rfl, Nat.le_of_ble_eq_true rfl⟩ rfl (Nat.le_of_ble_eq_true rfl) dX7_when_25 ⟨Nat.le_of_ble_eq_true rfl, Nat.le_of_ble_eq_true rfl⟩) (fun H locs r25 w25 hf X => ?_)
    refine W.widen (k := 1) (n := 6) (Nat.le_of_ble_eq_true rfl) (Nat.le_of_ble_eq_true rfl) ?_
    refine lv_goto (tgt := 37) hx hb dX7_when_28 (by decide) ?_
    refine W.widen (k := 1) (n := 6) (Nat.le_of_ble_eq_true rfl) (Nat.le_of_ble_eq_true rfl) ?_
    exact g_iretP (wsC E ad) C hr hk X hf dX7_when_37
set_option maxRecDepth 100000 in
set_option maxHeartbeats 4000000 in
theorem cC__carry (l : Launch) (E : g_Env) (A : Nat → Prop) (ad : Nat → Nat) (w : CS) (a1 : Int32) (Q : Int32 → CS → Prop) (hf : wC__carry E Q w a1) : Met l yX7_carry (.code yX7_carry cX7_carry 8 ((some .int)) :: g_tbl) ({ frames := 6, cells := 3, slots := 2798, locals := 155 }) (va_Pc [.ref (ad 0), .int a1] (g_at E A (wsC E ad w))) (va_Qi (fun (r' : Int32) (u' : va_W) => ∃ w' : CS, u' = wsC E ad w' ∧ Q r' w') (g_B E A) A) 3 2798 A := by
  refine g_start (rm := { frames := 6, cells := 3, slots := 2798, locals := 155 }) (by decide) (Nat.le_of_ble_eq_true rfl) ?_
  intro p e s m below meth c C hr hk hnm ls hl H locs X
  have hx := C.1.1
  have hb := C.1.2.1
  have hl : lv_has ls 8 [(0, .ref (ad 0)), (1, .int a1)] := hl
  have j42 : ∀ (n : Nat) (w : CS) (x1 : Int32) (x2 : Int32) (x3 : Int32) (ls : Array Slot) (H : Heap) (locs : List Loc), wC__carry_42 E Q n w x1 x2 x3 → lv_has ls 8 [(0, .ref (ad 0)), (1, .int x1), (2, .int x2), (3, .int x3)] → g_W E A s H locs (wsC E ad w) → W p l e ({ frames := 6, cells := 3, slots := 2798, locals := 155 }) s m ([.ref (ad 0), .int a1] : List Value).toArray below meth c H locs 0 0 (MQ below (va_Qi (fun (r' : Int32) (u' : va_W) => ∃ w' : CS, u' = wsC E ad w' ∧ Q r' w') (g_B E A) A) ([.ref (ad 0), .int a1] : List Value).toArray s 3 2798 A) (F0 m 42 ls []) := by
    intro n
    induction n with
    | zero => intro w x1 x2 x3 ls H locs hf; exact False.elim hf
    | succ n42 ih42 =>
      intro w x1 x2 x3 ls H locs hf hl X
      have j53 : ∀ (n : Nat) (w : CS) (x1 : Int32) (x2 : Int32) (x3 : Int32) (x4 : Int32) (x5 : Int32) (ls : Array Slot) (H : Heap) (locs : List Loc), wC__carry_53 E Q (wC__carry_42 E Q n42) n w x1 x2 x3 x4 x5 → lv_has ls 8 [(0, .ref (ad 0)), (1, .int x1), (2, .int x2), (3, .int x3), (4, .int x4), (5, .int x5)] → g_W E A s H locs (wsC E ad w) → W p l e ({ frames := 6, cells := 3, slots := 2798, locals := 155 }) s m ([.ref (ad 0), .int a1] : List Value).toArray below meth c H locs 0 0 (MQ below (va_Qi (fun (r' : Int32) (u' : va_W) => ∃ w' : CS, u' = wsC E ad w' ∧ Q r' w') (g_B E A) A) ([.ref (ad 0), .int a1] : List Value).toArray s 3 2798 A) (F0 m 53 ls []) := by
        intro n
        induction n with
        | zero => intro w x1 x2 x3 x4 x5 ls H locs hf; exact False.elim hf
        | succ n53 ih53 =>
          intro w x1 x2 x3 x4 x5 ls H locs hf hl X
          have j137 : ∀ (w : CS) (x1 : Int32) (x2 : Int32) (x3 : Int32) (x4 : Int32) (x5 : Int32) (ls : Array Slot) (H : Heap) (locs : List Loc), wC__carry_137 E Q (wC__carry_42 E Q n42) (wC__carry_53 E Q (wC__carry_42 E Q n42) n53) w x1 x2 x3 x4 x5 → lv_has ls 8 [(0, .ref (ad 0)), (1, .int x1), (2, .int x2), (3, .int x3), (4, .int x4), (5, .int x5)] → g_W E A s H locs (wsC E ad w) → W p l e ({ frames := 6, cells := 3, slots := 2798, locals := 155 }) s m ([.ref (ad 0), .int a1] : List Value).toArray below meth c H locs 0 0 (MQ below (va_Qi (fun (r' : Int32) (u' : va_W) => ∃ w' : CS, u' = wsC E ad w' ∧ Q r' w') (g_B E A) A) ([.ref (ad 0), .int a1] : List Value).toArray s 3 2798 A) (F0 m 137 ls []) := by
            intro w x1 x2 x3 x4 x5 ls H locs hf hl X
            unfold wC__carry_137 at hf
            refine lv_iinc (v := x5 + (1 : Int32)) (lv' := [(5, .int (x5 + (1 : Int32))), (0, .ref (ad 0)), (1, .int x1), (2, .int x2), (3, .int x3), (4, .int x4)]) hx hb dX7_carry_137 hl (k := 5) rfl rfl (by decide) rfl (fun ls hl => ?_)
            refine lv_goto (tgt := 53) hx hb dX7_carry_140 (by decide) ?_
            exact ih53 w x1 x2 x3 x4 (x5 + (1 : Int32)) ls H locs hf (lv_sub hl [1, 2, 3, 4, 5, 0] rfl) X
          have j135 : ∀ (w : CS) (x1 : Int32) (x2 : Int32) (x3 : Int32) (x5 : Int32) (t0 : Int32) (ls : Array Slot) (H : Heap) (locs : List Loc), wC__carry_135 E Q (wC__carry_42 E Q n42) (wC__carry_53 E Q (wC__carry_42 E Q n42) n53) w x1 x2 x3 x5 t0 → lv_has ls 8 [(0, .ref (ad 0)), (1, .int x1), (2, .int x2), (3, .int x3), (5, .int x5)] → g_W E A s H locs (wsC E ad w) → W p l e ({ frames := 6, cells := 3, slots := 2798, locals := 155 }) s m ([.ref (ad 0), .int a1] : List Value).toArray below meth c H locs 0 0 (MQ below (va_Qi (fun (r' : Int32) (u' : va_W) => ∃ w' : CS, u' = wsC E ad w' ∧ Q r' w') (g_B E A) A) ([.ref (ad 0), .int a1] : List Value).toArray s 3 2798 A) (F0 m 135 ls [.int t0]) := by
            intro w x1 x2 x3 x5 t0 ls H locs hf hl X
            unfold wC__carry_135 at hf
            refine lv_istore (lv' := [(4, .int t0), (0, .ref (ad 0)), (1, .int x1), (2, .int x2), (3, .int x3), (5, .int x5)]) hx hb dX7_carry_135 hl (by decide) rfl (fun ls hl => ?_)
            exact j137 w x1 x2 x3 t0 x5 ls H locs hf (lv_sub hl [1, 2, 3, 4, 0, 5] rfl) X
          have j134 : ∀ (w : CS) (x1 : Int32) (x2 : Int32) (x3 : Int32) (x5 : Int32) (ls : Array Slot) (H : Heap) (locs : List Loc), wC__carry_134 E Q (wC__carry_42 E Q n42) (wC__carry_53 E Q (wC__carry_42 E Q n42) n53) w x1 x2 x3 x5 → lv_has ls 8 [(0, .ref (ad 0)), (1, .int x1), (2, .int x2), (3, .int x3), (5, .int x5)] → g_W E A s H locs (wsC E ad w) → W p l e ({ frames := 6, cells := 3, slots := 2798, locals := 155 }) s m ([.ref (ad 0), .int a1] : List Value).toArray below meth c H locs 0 0 (MQ below (va_Qi (fun (r' : Int32) (u' : va_W) => ∃ w' : CS, u' = wsC E ad w' ∧ Q r' w') (g_B E A) A) ([.ref (ad 0), .int a1] : List Value).toArray s 3 2798 A) (F0 m 134 ls []) := by
            intro w x1 x2 x3 x5 ls H locs hf hl X
            unfold wC__carry_134 at hf
            refine lv_iconst (v := 0) hx hb dX7_carry_134 (by decide) ?_
            exact j135 w x1 x2 x3 x5 (0 : Int32) ls H locs hf (lv_sub hl [0, 1, 2, 3, 4] rfl) X
          unfold wC__carry_53 at hf
          refine lv_iload hx hb dX7_carry_53 (lv_at hl 5 rfl) ?_
          refine lv_aload_n hx hb dX7_carry_55 rfl (lv_at hl 0 rfl) ?_
          refine g_get C X g_iX7 0 rfl rfl 2 (by decide) rfl m_150 rfl dX7_carry_56 ?_
          refine g_getN C X g_iX5 6 rfl rfl 1 (by decide) rfl n_4 rfl dX7_carry_59 ?_
          refine lv_icmp_gt (tgt := 143) hx hb dX7_carry_62 (by decide) (fun c62 => ?_) (fun c62 => ?_)
          · have hf := g_tP hf c62
            refine lv_iinc (v := x3 + (1 : Int32)) (lv' := [(3, .int (x3 + (1 : Int32))), (0, .ref (ad 0)), (1, .int x1), (2, .int x2), (4, .int x4), (5, .int x5)]) hx hb dX7_carry_143 hl (k := 3) rfl rfl (by decide) rfl (fun ls hl => ?_)
            refine lv_goto (tgt := 42) hx hb dX7_carry_146 (by decide) ?_
            exact ih42 w x1 x2 (x3 + (1 : Int32)) ls H locs hf (lv_sub hl [1, 2, 3, 0] rfl) X
          · have hf := g_fP hf c62
            refine lv_iload hx hb dX7_carry_65 (lv_at hl 4 rfl) ?_
            refine lv_if_eq (tgt := 76) hx hb dX7_carry_67 (by decide) (fun c67 => ?_) (fun c67 => ?_)
            · have hf := g_tP hf c67
              refine lv_aload_n hx hb dX7_carry_76 rfl (lv_at hl 0 rfl) ?_
              refine g_get C X g_iX7 0 rfl rfl 2 (by decide) rfl m_150 rfl dX7_carry_77 ?_
              refine lv_iload hx hb dX7_carry_80 (lv_at hl 5 rfl) ?_
              obtain ⟨y82, z82, u82, q82, e82, hf⟩ := hf
              refine g_callr X (g_runV (As := [.int x5]) (rest := []) C X (cC_Sh_lineNumbered l E A ad w x5 q82 y82 z82 u82 e82) kX5_lineNumbered m_564 6 3 rfl rfl hl.1 rfl ⟨Nat.le_of_ble_eq_true rfl, Nat.le_of_ble_eq_true rfl⟩ rfl (Nat.le_of_ble_eq_true rfl) dX7_carry_82 ⟨Nat.le_of_ble_eq_true rfl, Nat.le_of_ble_eq_true rfl⟩) rfl rfl (fun H locs X => ?_)
              refine lv_astore (lv' := [(6, .ref q82), (0, .ref (ad 0)), (1, .int x1), (2, .int x2), (3, .int x3), (4, .int x4), (5, .int x5)]) hx hb dX7_carry_85 hl (by decide) rfl (fun ls hl => ?_)
              refine lv_aload_n hx hb dX7_carry_87 rfl (lv_at hl 1 rfl) ?_
              refine lv_aload hx hb dX7_carry_88 (lv_at hl 0 rfl) ?_
              obtain ⟨k90, b0_90, b1_90, b2_90, b3_90, b4_90, b5_90, hk90, q90, e90, hf⟩ := hf
              refine g_calli X (g_runV (As := [.ref q82]) (rest := []) C X (cC__perform l E A ad w (q90.2) q90.1 b0_90 b1_90 b2_90 b3_90 b4_90 b5_90 q82 k90 hk90 e90) kX7_perform m_568 0 5 rfl rfl hl.1 rfl ⟨Nat.le_of_ble_eq_true rfl, Nat.le_of_ble_eq_true rfl⟩ rfl (Nat.le_of_ble_eq_true rfl) dX7_carry_90 ⟨Nat.le_of_ble_eq_true rfl, Nat.le_of_ble_eq_true rfl⟩) rfl rfl (fun H locs X => ?_)
              refine lv_istore (lv' := [(7, .int q90.1), (6, .ref q82), (0, .ref (ad 0)), (1, .int x1), (2, .int x2), (3, .int x3), (4, .int x4), (5, .int x5)]) hx hb dX7_carry_93 hl (by decide) rfl (fun ls hl => ?_)
              refine lv_aload_n hx hb dX7_carry_95 rfl (lv_at hl 2 rfl) ?_
              refine g_get C X g_iX7 0 rfl rfl 3 (by decide) rfl m_151 rfl dX7_carry_96 ?_
              refine lv_if_eq (tgt := 112) hx hb dX7_carry_99 (by decide) (fun c99 => ?_) (fun c99 => ?_)
              · have hf := g_tP hf c99
                refine lv_iload_n hx hb dX7_carry_112 rfl (lv_at hl 4 rfl) ?_
                refine lv_iload hx hb dX7_carry_113 (lv_at hl 0 rfl) ?_
                refine lv_iadd hx hb dX7_carry_115 ?_
                refine lv_istore_n (lv' := [(2, .int (x2 + q90.1)), (7, .int q90.1), (6, .ref q82), (0, .ref (ad 0)), (1, .int x1), (3, .int x3), (4, .int x4), (5, .int x5)]) hx hb dX7_carry_116 rfl hl (by decide) rfl (fun ls hl => ?_)
                refine lv_iload hx hb dX7_carry_117 (lv_at hl 1 rfl) ?_
                refine lv_if_ne (tgt := 134) hx hb dX7_carry_119 (by decide) (fun c119 => ?_) (fun c119 => ?_)
                · have hf := g_fP hf c119
                  exact j134 q90.2 x1 (x2 + q90.1) x3 x5 ls H locs hf (lv_sub hl [3, 4, 0, 5, 7] rfl) X
                · have hf := g_tP hf c119
                  refine lv_aload hx hb dX7_carry_122 (lv_at hl 2 rfl) ?_
                  obtain ⟨k124, b0_124, b1_124, b2_124, b3_124, b4_124, b5_124, hk124, q124, e124, hf⟩ := hf
                  refine g_calli X (g_runS (As := [.ref q82]) (rest := []) C X (cC__isWhen l E A ad q90.2 (q124.2) q124.1 b0_124 b1_124 b2_124 b3_124 b4_124 b5_124 q82 k124 hk124 e124) kX7_isWhen m_577 hl.1 rfl ⟨Nat.le_of_ble_eq_true rfl, Nat.le_of_ble_eq_true rfl⟩ rfl (Nat.le_of_ble_eq_true rfl) dX7_carry_124 ⟨Nat.le_of_ble_eq_true rfl, Nat.le_of_ble_eq_true rfl⟩) rfl rfl (fun H locs X => ?_)
                  refine lv_if_eq (tgt := 134) hx hb dX7_carry_127 (by decide) (fun c127 => ?_) (fun c127 => ?_)
                  · have hf := g_tP hf c127
                    exact j134 q124.2 x1 (x2 + q90.1) x3 x5 ls H locs hf (lv_sub hl [3, 4, 0, 5, 7] rfl) X
                  · have hf := g_fP hf c127
                    refine lv_iconst (v := 1) hx hb dX7_carry_130 (by decide) ?_
                    refine lv_goto (tgt := 135) hx hb dX7_carry_131 (by decide) ?_
                    exact j135 q124.2 x1 (x2 + q90.1) x3 x5 (1 : Int32) ls H locs hf (lv_sub hl [3, 4, 0, 5, 7] rfl) X
              · have hf := g_fP hf c99
                refine lv_aload_n hx hb dX7_carry_102 rfl (lv_at hl 2 rfl) ?_
                refine g_get C X g_iX7 0 rfl rfl 0 (by decide) rfl m_148 rfl dX7_carry_103 ?_
                obtain ⟨q106, e106, hf⟩ := hf
                refine g_callv X (g_runV (As := []) (rest := []) C X (cC_S_dropChanges l E A ad q90.2 q106   e106) kX6_dropChanges m_277 1 4 rfl rfl hl.1 rfl ⟨Nat.le_of_ble_eq_true rfl, Nat.le_of_ble_eq_true rfl⟩ rfl (Nat.le_of_ble_eq_true rfl) dX7_carry_106 ⟨Nat.le_of_ble_eq_true rfl, Nat.le_of_ble_eq_true rfl⟩) rfl rfl (fun H locs X => ?_)
                refine lv_iload hx hb dX7_carry_109 (lv_at hl 7 rfl) ?_
                refine W.widen (k := 3) (n := 2798) (Nat.le_of_ble_eq_true rfl) (Nat.le_of_ble_eq_true rfl) ?_
                exact g_iretP (wsC E ad) C hr hk X hf dX7_carry_111
            · have hf := g_fP hf c67
              refine lv_iconst (v := 0) hx hb dX7_carry_70 (by decide) ?_
              refine lv_istore (lv' := [(4, .int (0 : Int32)), (0, .ref (ad 0)), (1, .int x1), (2, .int x2), (3, .int x3), (5, .int x5)]) hx hb dX7_carry_71 hl (by decide) rfl (fun ls hl => ?_)
              refine lv_goto (tgt := 137) hx hb dX7_carry_73 (by decide) ?_
              exact j137 w x1 x2 x3 (0 : Int32) x5 ls H locs hf (lv_sub hl [1, 2, 3, 4, 0, 5] rfl) X
      unfold wC__carry_42 at hf
      refine lv_iload_n hx hb dX7_carry_42 rfl (lv_at hl 3 rfl) ?_
      refine lv_iload_n hx hb dX7_carry_43 rfl (lv_at hl 1 rfl) ?_
      refine lv_icmp_gt (tgt := 149) hx hb dX7_carry_44 (by decide) (fun c44 => ?_) (fun c44 => ?_)
      · have hf := g_tP hf c44
        refine lv_aload_n hx hb dX7_carry_149 rfl (lv_at hl 0 rfl) ?_
        refine lv_iload_n hx hb dX7_carry_150 rfl (lv_at hl 2 rfl) ?_
        have hf := g_unc1 hf
        refine g_calliP (wsC E ad) X (g_runV (As := [.int x2]) (rest := []) C X (cC__keep l E A ad w x2 _ hf) kX7_keep m_269 0 5 rfl rfl hl.1 rfl ⟨Nat.le_of_ble_eq_true rfl, Nat.le_of_ble_eq_true rfl⟩ rfl (Nat.le_of_ble_eq_true rfl) dX7_carry_151 ⟨Nat.le_of_ble_eq_true rfl, Nat.le_of_ble_eq_true rfl⟩) (fun H locs r151 w151 hf X => ?_)
        refine W.widen (k := 3) (n := 2798) (Nat.le_of_ble_eq_true rfl) (Nat.le_of_ble_eq_true rfl) ?_
        refine W.widen (k := 3) (n := 2798) (Nat.le_of_ble_eq_true rfl) (Nat.le_of_ble_eq_true rfl) ?_
        exact g_iretP (wsC E ad) C hr hk X hf dX7_carry_154
      · have hf := g_fP hf c44
        refine lv_iconst (v := 0) hx hb dX7_carry_47 (by decide) ?_
        refine lv_istore (lv' := [(4, .int (0 : Int32)), (0, .ref (ad 0)), (1, .int x1), (2, .int x2), (3, .int x3)]) hx hb dX7_carry_48 hl (by decide) rfl (fun ls hl => ?_)
        refine lv_iconst (v := 1) hx hb dX7_carry_50 (by decide) ?_
        refine lv_istore (lv' := [(5, .int (1 : Int32)), (4, .int (0 : Int32)), (0, .ref (ad 0)), (1, .int x1), (2, .int x2), (3, .int x3)]) hx hb dX7_carry_51 hl (by decide) rfl (fun ls hl => ?_)
        exact j53 g_fuel w x1 x2 x3 (0 : Int32) (1 : Int32) ls H locs hf (lv_sub hl [2, 3, 4, 5, 1, 0] rfl) X
  unfold wC__carry at hf
  refine lv_iload_n hx hb dX7_carry_0 rfl (lv_at hl 1 rfl) ?_
  refine lv_iconst (v := 1) hx hb dX7_carry_1 (by decide) ?_
  refine lv_icmp_lt (tgt := 10) hx hb dX7_carry_2 (by decide) (fun c2 => ?_) (fun c2 => ?_)
  · have hf := g_tP hf c2
    refine lv_aload_n hx hb dX7_carry_10 rfl (lv_at hl 0 rfl) ?_
    refine lv_iconst (v := 1) hx hb dX7_carry_11 (by decide) ?_
    obtain ⟨q12, e12, hf⟩ := hf
    refine g_calli X (g_runV (As := [.int (1 : Int32)]) (rest := []) C X (cC__refuse l E A ad w q12.2 q12.1 (1 : Int32) e12) kX7_refuse m_204 0 5 rfl rfl hl.1 rfl ⟨Nat.le_of_ble_eq_true rfl, Nat.le_of_ble_eq_true rfl⟩ rfl (Nat.le_of_ble_eq_true rfl) dX7_carry_12 ⟨Nat.le_of_ble_eq_true rfl, Nat.le_of_ble_eq_true rfl⟩) rfl rfl (fun H locs X => ?_)
    refine W.widen (k := 3) (n := 2798) (Nat.le_of_ble_eq_true rfl) (Nat.le_of_ble_eq_true rfl) ?_
    exact g_iretP (wsC E ad) C hr hk X hf dX7_carry_15
  · have hf := g_fP hf c2
    refine lv_iload_n hx hb dX7_carry_5 rfl (lv_at hl 1 rfl) ?_
    refine lv_iconst (v := 4) hx hb dX7_carry_6 (by decide) ?_
    refine lv_icmp_le (tgt := 16) hx hb dX7_carry_7 (by decide) (fun c7 => ?_) (fun c7 => ?_)
    · have hf := g_tP hf c7
      refine lv_aload_n hx hb dX7_carry_16 rfl (lv_at hl 0 rfl) ?_
      refine g_get C X g_iX7 0 rfl rfl 2 (by decide) rfl m_150 rfl dX7_carry_17 ?_
      refine g_getN C X g_iX5 6 rfl rfl 2 (by decide) rfl n_5 rfl dX7_carry_20 ?_
      refine lv_if_eq (tgt := 33) hx hb dX7_carry_23 (by decide) (fun c23 => ?_) (fun c23 => ?_)
      · have hf := g_tP hf c23
        refine lv_aload_n hx hb dX7_carry_33 rfl (lv_at hl 0 rfl) ?_
        refine lv_iconst (v := 0) hx hb dX7_carry_34 (by decide) ?_
        obtain ⟨w35, e35, hf⟩ := g_leP hf
        refine g_put C X g_iX7 tyX7_ok nmX7 0 rfl rfl 3 (by decide) rfl m_151 rfl rfl rfl (Nat.le_of_ble_eq_true rfl) dX7_carry_35 (ws2 := wsC E ad w35) (by subst e35; rfl) (fun H locs X => ?_)
        refine lv_iconst (v := 0) hx hb dX7_carry_38 (by decide) ?_
        refine lv_istore_n (lv' := [(2, .int (0 : Int32)), (0, .ref (ad 0)), (1, .int a1)]) hx hb dX7_carry_39 rfl hl (by decide) rfl (fun ls hl => ?_)
        refine lv_iconst (v := 1) hx hb dX7_carry_40 (by decide) ?_
        refine lv_istore_n (lv' := [(3, .int (1 : Int32)), (2, .int (0 : Int32)), (0, .ref (ad 0)), (1, .int a1)]) hx hb dX7_carry_41 rfl hl (by decide) rfl (fun ls hl => ?_)
        exact j42 g_fuel w35 a1 (0 : Int32) (1 : Int32) ls H locs hf (lv_sub hl [2, 3, 1, 0] rfl) X
      · have hf := g_fP hf c23
        refine lv_aload_n hx hb dX7_carry_26 rfl (lv_at hl 0 rfl) ?_
        refine lv_bipush (v := 7) hx hb dX7_carry_27 (by decide) ?_
        obtain ⟨q29, e29, hf⟩ := hf
        refine g_calli X (g_runV (As := [.int (7 : Int32)]) (rest := []) C X (cC__refuse l E A ad w q29.2 q29.1 (7 : Int32) e29) kX7_refuse m_204 0 5 rfl rfl hl.1 rfl ⟨Nat.le_of_ble_eq_true rfl, Nat.le_of_ble_eq_true rfl⟩ rfl (Nat.le_of_ble_eq_true rfl) dX7_carry_29 ⟨Nat.le_of_ble_eq_true rfl, Nat.le_of_ble_eq_true rfl⟩) rfl rfl (fun H locs X => ?_)
        refine W.widen (k := 3) (n := 2798) (Nat.le_of_ble_eq_true rfl) (Nat.le_of_ble_eq_true rfl) ?_
        exact g_iretP (wsC E ad) C hr hk X hf dX7_carry_32
    · have hf := g_fP hf c7
      refine lv_aload_n hx hb dX7_carry_10 rfl (lv_at hl 0 rfl) ?_
      refine lv_iconst (v := 1) hx hb dX7_carry_11 (by decide) ?_
      obtain ⟨q12, e12, hf⟩ := hf
      refine g_calli X (g_runV (As := [.int (1 : Int32)]) (rest := []) C X (cC__refuse l E A ad w q12.2 q12.1 (1 : Int32) e12) kX7_refuse m_204 0 5 rfl rfl hl.1 rfl ⟨Nat.le_of_ble_eq_true rfl, Nat.le_of_ble_eq_true rfl⟩ rfl (Nat.le_of_ble_eq_true rfl) dX7_carry_12 ⟨Nat.le_of_ble_eq_true rfl, Nat.le_of_ble_eq_true rfl⟩) rfl rfl (fun H locs X => ?_)
      refine W.widen (k := 3) (n := 2798) (Nat.le_of_ble_eq_true rfl) (Nat.le_of_ble_eq_true rfl) ?_
      exact g_iretP (wsC E ad) C hr hk X hf dX7_carry_15
set_option maxRecDepth 100000 in
set_option maxHeartbeats 4000000 in
theorem cC__undo (l : Launch) (E : g_Env) (A : Nat → Prop) (ad : Nat → Nat) (w : CS)  (Q : Int32 → CS → Prop) (hf : wC__undo E Q w ) : Met l yX7_undo (.code yX7_undo cX7_undo 1 ((some .int)) :: g_tbl) ({ frames := 1, cells := 0, slots := 0, locals := 22 }) (va_Pc [.ref (ad 0)] (g_at E A (wsC E ad w))) (va_Qi (fun (r' : Int32) (u' : va_W) => ∃ w' : CS, u' = wsC E ad w' ∧ Q r' w') (g_B E A) A) 0 0 A := by
  refine g_start (rm := { frames := 1, cells := 0, slots := 0, locals := 22 }) (by decide) (Nat.le_of_ble_eq_true rfl) ?_
  intro p e s m below meth c C hr hk hnm ls hl H locs X
  have hx := C.1.1
  have hb := C.1.2.1
  have hl : lv_has ls 1 [(0, .ref (ad 0))] := hl
  unfold wC__undo at hf
  refine lv_aload_n hx hb dX7_undo_0 rfl (lv_at hl 0 rfl) ?_
  refine g_get C X g_iX7 0 rfl rfl 2 (by decide) rfl m_150 rfl dX7_undo_1 ?_
  refine g_getN C X g_iX5 6 rfl rfl 2 (by decide) rfl n_5 rfl dX7_undo_4 ?_
  refine lv_if_ne (tgt := 20) hx hb dX7_undo_7 (by decide) (fun c7 => ?_) (fun c7 => ?_)
  · have hf := g_fP hf c7
    refine lv_aload_n hx hb dX7_undo_20 rfl (lv_at hl 0 rfl) ?_
    refine lv_bipush (v := 7) hx hb dX7_undo_21 (by decide) ?_
    obtain ⟨q23, e23, hf⟩ := hf
    refine g_calli X (g_runV (As := [.int (7 : Int32)]) (rest := []) C X (cC__refuse l E A ad w q23.2 q23.1 (7 : Int32) e23) kX7_refuse m_204 0 5 rfl rfl hl.1 rfl ⟨Nat.le_of_ble_eq_true rfl, Nat.le_of_ble_eq_true rfl⟩ rfl (Nat.le_of_ble_eq_true rfl) dX7_undo_23 ⟨Nat.le_of_ble_eq_true rfl, Nat.le_of_ble_eq_true rfl⟩) rfl rfl (fun H locs X => ?_)
    refine W.widen (k := 0) (n := 0) (Nat.le_of_ble_eq_true rfl) (Nat.le_of_ble_eq_true rfl) ?_
    exact g_iretP (wsC E ad) C hr hk X hf dX7_undo_26
  · have hf := g_tP hf c7
    refine lv_aload_n hx hb dX7_undo_10 rfl (lv_at hl 0 rfl) ?_
    refine g_get C X g_iX7 0 rfl rfl 0 (by decide) rfl m_148 rfl dX7_undo_11 ?_
    refine g_getN C X g_iX6 1 rfl rfl 3 (by decide) rfl n_0 rfl dX7_undo_14 ?_
    refine lv_if_ne (tgt := 27) hx hb dX7_undo_17 (by decide) (fun c17 => ?_) (fun c17 => ?_)
    · have hf := g_fP hf c17
      refine lv_aload_n hx hb dX7_undo_27 rfl (lv_at hl 0 rfl) ?_
      refine lv_iconst (v := 0) hx hb dX7_undo_28 (by decide) ?_
      obtain ⟨w29, e29, hf⟩ := g_leP hf
      refine g_put C X g_iX7 tyX7_ok nmX7 0 rfl rfl 3 (by decide) rfl m_151 rfl rfl rfl (Nat.le_of_ble_eq_true rfl) dX7_undo_29 (ws2 := wsC E ad w29) (by subst e29; rfl) (fun H locs X => ?_)
      refine lv_aload_n hx hb dX7_undo_32 rfl (lv_at hl 0 rfl) ?_
      refine g_get C X g_iX7 0 rfl rfl 0 (by decide) rfl m_148 rfl dX7_undo_33 ?_
      have hf := g_unc0 hf
      refine g_callvP (wsC E ad) X (g_runV (As := []) (rest := []) C X (cC_S_takeBackAct l E A ad w29  _ hf) kX6_takeBackAct m_584 1 4 rfl rfl hl.1 rfl ⟨Nat.le_of_ble_eq_true rfl, Nat.le_of_ble_eq_true rfl⟩ rfl (Nat.le_of_ble_eq_true rfl) dX7_undo_36 ⟨Nat.le_of_ble_eq_true rfl, Nat.le_of_ble_eq_true rfl⟩) (fun H locs w36 hf X => ?_)
      refine W.widen (k := 0) (n := 0) (Nat.le_of_ble_eq_true rfl) (Nat.le_of_ble_eq_true rfl) ?_
      refine lv_aload_n hx hb dX7_undo_39 rfl (lv_at hl 0 rfl) ?_
      refine g_get C X g_iX7 0 rfl rfl 0 (by decide) rfl m_148 rfl dX7_undo_40 ?_
      refine g_getN C X g_iX6 1 rfl rfl 3 (by decide) rfl n_0 rfl dX7_undo_43 ?_
      refine W.widen (k := 0) (n := 0) (Nat.le_of_ble_eq_true rfl) (Nat.le_of_ble_eq_true rfl) ?_
      exact g_iretP (wsC E ad) C hr hk X hf dX7_undo_46
    · have hf := g_tP hf c17
      refine lv_aload_n hx hb dX7_undo_20 rfl (lv_at hl 0 rfl) ?_
      refine lv_bipush (v := 7) hx hb dX7_undo_21 (by decide) ?_
      obtain ⟨q23, e23, hf⟩ := hf
      refine g_calli X (g_runV (As := [.int (7 : Int32)]) (rest := []) C X (cC__refuse l E A ad w q23.2 q23.1 (7 : Int32) e23) kX7_refuse m_204 0 5 rfl rfl hl.1 rfl ⟨Nat.le_of_ble_eq_true rfl, Nat.le_of_ble_eq_true rfl⟩ rfl (Nat.le_of_ble_eq_true rfl) dX7_undo_23 ⟨Nat.le_of_ble_eq_true rfl, Nat.le_of_ble_eq_true rfl⟩) rfl rfl (fun H locs X => ?_)
      refine W.widen (k := 0) (n := 0) (Nat.le_of_ble_eq_true rfl) (Nat.le_of_ble_eq_true rfl) ?_
      exact g_iretP (wsC E ad) C hr hk X hf dX7_undo_26
