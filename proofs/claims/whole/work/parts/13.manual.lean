section GM
variable {p : Program} {l : Launch} {e : Env} {R : Room} {s : State} {m : MethodId} {args : Array Value} {below : List Frame} {meth : Method} {c : Code} {H : Heap} {locs : List Loc} {cells slots : Nat} {Q : State → Prop}
variable {cc : ByteArray} {pc nL : Nat} {ls : Array Slot} {rest : List Value} {A : Nat → Prop} {ws : va_W} {E : g_Env} {own : String} {a : Nat}
theorem g_nq {Cn : String} (x : Option Nat) : narrow (.object Cn) (va_rf x) = va_rf x := by cases x <;> rfl
theorem g_fq {Cn : String} (x : Option Nat) : fits (.object Cn) (va_rf x) = true := by cases x <;> rfl
theorem g_topq {x : Option Nat} {b : Nat} (h : x = some b) (k : W p l e R s m args below meth c H locs cells slots Q (F0 m pc ls (.ref b :: rest))) : W p l e R s m args below meth c H locs cells slots Q (F0 m pc ls (va_rf x :: rest)) := by
  subst h
  exact k
theorem g_aload_nq (hexec : p.tables.exec = Jvm.exec) (hb : c.code = cc) {k : Fin 4} {i : Nat} {x : Option Nat} (hdg : decode cc pc = .ok (.aload_n k, 1)) (hi : (k : Nat) = i) (hl : ls[i]? = some (.val (va_rf x)))
    (k : W p l e R s m args below meth c H locs cells slots Q (F0 m (pc + 1) ls (va_rf x :: rest))) : W p l e R s m args below meth c H locs cells slots Q (F0 m pc ls rest) := by
  cases x with
  | none => exact lv_aload_nN hexec hb hdg hi hl k
  | some b => exact lv_aload_n hexec hb hdg hi hl k
theorem g_aald {n : Nat} {f : Nat → Option Nat} (C : g_C E A p s m args c cc nL own) (X : g_W E A s H locs ws) (q0 : Nat) (ha : ws[q0]? = some (a, .inl (E.2.2.2.1, n, .inr (.inr (.inr (.inr f)))))) {i : Int32} (hin : vp_in i n) {b : Nat} (hv : f i.toNatClampNeg = some b) (hdg : decode cc pc = .ok (.aaload, 1))
    (kk : W p l e R s m args below meth c H locs cells slots Q (F0 m (pc + 1) ls (.ref b :: rest))) : W p l e R s m args below meth c H locs cells slots Q (F0 m pc ls (.int i :: .ref a :: rest)) :=
  va_aldq (C := "PatchHall$Line") C.1.1 C.1.2.1 C.2.1 X.1 q0 2 ha rfl hin hdg (g_topq hv kk)
theorem g_W.idx {ws1 ws2 : va_W} (σ : Nat → Nat) (h1 : ∀ (k : Nat) (q : Nat × va_E), ws2[k]? = some q → ws1[σ k]? = some q) (h2 : ∀ i j : Nat, i < ws2.length → j < ws2.length → σ i = σ j → i = j) (X : g_W E A s H locs ws1) : g_W E A s H locs ws2 := by
  have lt : ∀ (k : Nat) (q : Nat × va_E), ws2[k]? = some q → k < ws2.length := fun k q h => (List.getElem?_eq_some_iff.mp h).1
  exact ⟨fun k q h => X.1 (σ k) q (h1 k q h), ⟨fun i j x y hi hj he => h2 i j (lt i x hi) (lt j y hj) (X.2.1.1 _ _ _ _ (h1 i x hi) (h1 j y hj) he), fun k q h => X.2.1.2 _ _ (h1 k q h)⟩, X.2.2⟩
theorem g_W.rotR {x : Nat × va_E} (X : g_W E A s H locs (ws ++ [x])) : g_W E A s H locs (x :: ws) := by
  refine X.idx (fun k => match k with | 0 => ws.length | k + 1 => k) ?_ ?_
  · intro k q h
    cases k with
    | zero =>
      show (ws ++ [x])[ws.length]? = some q
      rw [List.getElem?_append_right (Nat.le_refl _), Nat.sub_self]
      exact h
    | succ k =>
      have hk : ws[k]? = some q := h
      show (ws ++ [x])[k]? = some q
      rw [List.getElem?_append_left (List.getElem?_eq_some_iff.mp hk).1]
      exact hk
  · intro i j hi hj h
    simp only [List.length_cons] at hi hj
    cases i <;> cases j <;> simp at h <;> omega
theorem g_W.rotL {x : Nat × va_E} (X : g_W E A s H locs (x :: ws)) : g_W E A s H locs (ws ++ [x]) := by
  refine X.idx (fun k => if k < ws.length then k + 1 else 0) ?_ ?_
  · intro k q h
    by_cases hk : k < ws.length
    · rw [List.getElem?_append_left hk] at h
      simp only [hk, if_true]
      exact h
    · rw [List.getElem?_append_right (Nat.le_of_not_lt hk)] at h
      have hz : k - ws.length < 1 := (List.getElem?_eq_some_iff.mp h).1
      rw [show k - ws.length = 0 by omega] at h
      simp only [hk, if_false]
      exact h
  · intro i j hi hj h
    simp only [List.length_append, List.length_cons, List.length_nil] at hi hj
    by_cases h1 : i < ws.length <;> by_cases h2 : j < ws.length <;> simp [h1, h2] at h <;> omega
theorem g_W.sw3 {x y z : Nat × va_E} (X : g_W E A s H locs (z :: y :: x :: ws)) : g_W E A s H locs (x :: y :: z :: ws) := by
  refine X.idx (fun k => match k with | 0 => 2 | 1 => 1 | 2 => 0 | k + 3 => k + 3) ?_ ?_
  · intro k q h
    match k, h with
    | 0, h => exact h
    | 1, h => exact h
    | 2, h => exact h
    | k + 3, h => exact h
  · intro i j _ _ h
    match i, j, h with
    | 0, 0, _ => rfl
    | 0, 1, h => simp at h
    | 0, 2, h => simp at h
    | 0, j + 3, h => simp at h
    | 1, 0, h => simp at h
    | 1, 1, _ => rfl
    | 1, 2, h => simp at h
    | 1, j + 3, h => simp at h
    | 2, 0, h => simp at h
    | 2, 1, h => simp at h
    | 2, 2, _ => rfl
    | 2, j + 3, h => simp at h
    | i + 3, 0, h => simp at h
    | i + 3, 1, h => simp at h
    | i + 3, 2, h => simp at h
    | i + 3, j + 3, h => exact h
theorem g_newI {n : Int32} {N : Nat} (C : g_C E A p s m args c cc nL own) (X : g_W E A s H locs ws) (harr : Cond.arrayClass .int ∈ g_tbl) (hn : ¬ n < 0) (hN : n.toNatClampNeg = N) (hNb : N ≤ 100000) (hcells : cells + 1 ≤ R.cells) (hslots : slots + N ≤ R.slots) (hdg : decode cc pc = .ok (.newarray .int, 2))
    (kk : ∀ (q : Nat) (H1 : Heap), g_W E A s H1 locs (ws ++ [(q, .inl (E.2.1, N, .inl (fun _ => 0)))]) → W p l e R s m args below meth c H1 locs (cells + 1) (slots + N) Q (F0 m (pc + 2) ls (.ref q :: rest))) : W p l e R s m args below meth c H locs cells slots Q (F0 m pc ls (.int n :: rest)) := by
  refine va_newa (atype := .int) (ty := .int) (a0 := (N, .inl (fun _ => 0))) C.1.1 C.1.2.1 (C.1.2.2.2.2 _ harr) rfl C.2.1 X.1 X.2.1 X.2.2 C.2.2.1 (fun _ => rfl) hn hN (by show N * 4 ≤ 536870912; omega) hcells hslots hdg (fun q cA H1 hK1 hP1 hD1 hS1 => ?_)
  have e1 : s.vm.findClass ("[" ++ FieldType.int.toString) = some cA := (hK1.2 3 (cA, .int) rfl).2
  have e2 : s.vm.findClass ("[" ++ FieldType.int.toString) = some E.2.1 := (C.2.1.2 0 (E.2.1, .int) rfl).2
  cases Option.some.inj (e1.symm.trans e2)
  exact kk q H1 ⟨hP1, hD1, hS1⟩
theorem g_newJ {n : Int32} {N : Nat} (C : g_C E A p s m args c cc nL own) (X : g_W E A s H locs ws) (harr : Cond.arrayClass .long ∈ g_tbl) (hn : ¬ n < 0) (hN : n.toNatClampNeg = N) (hNb : N ≤ 100000) (hcells : cells + 1 ≤ R.cells) (hslots : slots + N ≤ R.slots) (hdg : decode cc pc = .ok (.newarray .long, 2))
    (kk : ∀ (q : Nat) (H1 : Heap), g_W E A s H1 locs (ws ++ [(q, .inl (E.2.2.1, N, .inr (.inl (fun _ => 0))))]) → W p l e R s m args below meth c H1 locs (cells + 1) (slots + N) Q (F0 m (pc + 2) ls (.ref q :: rest))) : W p l e R s m args below meth c H locs cells slots Q (F0 m pc ls (.int n :: rest)) := by
  refine va_newa (atype := .long) (ty := .long) (a0 := (N, .inr (.inl (fun _ => 0)))) C.1.1 C.1.2.1 (C.1.2.2.2.2 _ harr) rfl C.2.1 X.1 X.2.1 X.2.2 C.2.2.1 (fun _ => rfl) hn hN (by show N * 8 ≤ 536870912; omega) hcells hslots hdg (fun q cA H1 hK1 hP1 hD1 hS1 => ?_)
  have e1 : s.vm.findClass ("[" ++ FieldType.long.toString) = some cA := (hK1.2 3 (cA, .long) rfl).2
  have e2 : s.vm.findClass ("[" ++ FieldType.long.toString) = some E.2.2.1 := (C.2.1.2 1 (E.2.2.1, .long) rfl).2
  cases Option.some.inj (e1.symm.trans e2)
  exact kk q H1 ⟨hP1, hD1, hS1⟩
end GM
def g_lat {α : Type} (x : Option Nat) (q : Nat) (k : Option α) : Option α := if x = some q then k else none
theorem g_late {α : Type} {x : Option Nat} {q : Nat} {k : Option α} {o : α} (h : g_lat x q k = some o) : x = some q ∧ k = some o := by
  unfold g_lat at h
  by_cases hc : x = some q
  · rw [if_pos hc] at h; exact ⟨hc, h⟩
  · rw [if_neg hc] at h; cases h
abbrev KS : Type := CS × (Nat → Int32) × (Nat → Int64)
abbrev wsK (E : g_Env) (ad : Nat → Nat) (q q1 q2 : Nat) (n0 : Int32) (e0 : Option Nat) (v : KS) : va_W := (q, .inr (1, [.int n0, .ref q1, .ref q2, va_rf e0])) :: (q1, .inl (E.2.1, n0.toNatClampNeg, .inl v.2.1)) :: (q2, .inl (E.2.2.1, n0.toNatClampNeg, .inr (.inl v.2.2))) :: wsC E ad v.1
def tT (rs : va_W) (w : CS) : CS := (w.1, w.2.1, w.2.2.1, w.2.2.2.1, w.2.2.2.2.1, rs)
abbrev wsT (E : g_Env) (ad : Nat → Nat) (rs : va_W) (w : CS) : va_W := wsC E ad (tT rs w)
def cLat (w : CS) (x : Option Nat) : CS := (w.1, w.2.1, w.2.2.1, x, w.2.2.2.2)
def cK3 (E : g_Env) (q q1 q2 : Nat) (n0 : Int32) (e0 : Option Nat) (v : KS) : CS := cN (cN (cN v.1 (q, .inr (1, [.int n0, .ref q1, .ref q2, va_rf e0]))) (q1, .inl (E.2.1, n0.toNatClampNeg, .inl v.2.1))) (q2, .inl (E.2.2.1, n0.toNatClampNeg, .inr (.inl v.2.2)))

theorem kX6_cellsInUse : g_KV yX6_cellsInUse cX6_cellsInUse 1 ((some .int)) 0 := ⟨m_291, m_290, m_5, m_73, ⟨by decide +kernel, by decide +kernel, by decide +kernel⟩⟩
theorem kX6_countChanges : g_KV yX6_countChanges cX6_countChanges 4 ((some .int)) 1 := ⟨m_300, m_299, m_6, m_73, ⟨by decide +kernel, by decide +kernel, by decide +kernel⟩⟩
theorem kX0_init : g_KI yX0_init cX0_init 1 0 := ⟨m_117, m_116, m_74, rfl, ⟨by decide +kernel, by decide +kernel, by decide +kernel⟩⟩
theorem kX1_init : g_KI yX1_init cX1_init 3 2 := ⟨m_303, m_302, m_81, rfl, ⟨by decide +kernel, by decide +kernel, by decide +kernel⟩⟩
theorem kX3_init : g_KI yX3_init cX3_init 8 6 := ⟨m_169, m_168, m_77, rfl, ⟨by decide +kernel, by decide +kernel, by decide +kernel⟩⟩
theorem kX5_init : g_KI yX5_init cX5_init 1 0 := ⟨m_132, m_131, m_75, rfl, ⟨by decide +kernel, by decide +kernel, by decide +kernel⟩⟩
theorem kX6_init : g_KI yX6_init cX6_init 2 0 := ⟨m_95, m_94, m_73, rfl, ⟨by decide +kernel, by decide +kernel, by decide +kernel⟩⟩
theorem kX7_init : g_KI yX7_init cX7_init 1 0 := ⟨m_87, m_86, m_72, rfl, ⟨by decide +kernel, by decide +kernel, by decide +kernel⟩⟩
theorem kX8_init : g_KI yX8_init cX8_init 1 0 := ⟨m_639, m_638, m_76, rfl, ⟨by decide +kernel, by decide +kernel, by decide +kernel⟩⟩
set_option maxRecDepth 100000 in
set_option maxHeartbeats 4000000 in
theorem cC_Line_init (l : Launch) (E : g_Env) (A : Nat → Prop) (ad : Nat → Nat) (w : CS) (q : Nat) (a1 a2 a3 : Int32) (a4 : Int64) (a6 a7 : Int32) : g_Mv l yX3_init cX3_init 8 ({ frames := 1, cells := 0, slots := 0, locals := 30 }) E A [.ref q, .int a1, .int a2, .int a3, .long a4, .int a6, .int a7] (wsC E ad (cN w (q, .inr (2, [.int 0, .int 0, .int 0, .long 0, .int 0, .int 0])))) (wsC E ad (cN w (q, .inr (2, [.int a1, .int a2, .int a3, .long a4, .int a6, .int a7])))) := by
  refine g_start (rm := { frames := 1, cells := 0, slots := 0, locals := 30 }) (by decide) (Nat.le_of_ble_eq_true rfl) ?_
  intro p e s m below meth c C hr hk hnm ls hl H locs X
  have hx := C.1.1
  have hb := C.1.2.1
  have hl : lv_has ls 8 [(0, .ref q), (1, .int a1), (2, .int a2), (3, .int a3), (4, .long a4), (6, .int a6), (7, .int a7)] := hl
  refine lv_aload_n hx hb dX3_init_0 rfl (lv_at hl 0 rfl) ?_
  refine g_objInit C hl.1 m_170 m_89 m_90 dX3_init_1 (Nat.le_of_ble_eq_true rfl) (Nat.le_of_ble_eq_true rfl) ?_
  refine lv_aload_n hx hb dX3_init_4 rfl (lv_at hl 0 rfl) ?_
  refine lv_iload_n hx hb dX3_init_5 rfl (lv_at hl 1 rfl) ?_
  refine g_putF C hnm X g_iX3 tyX3_ok nmX3 (w.2.2.2.2.2.length + 8) (g_tget E ad w _) rfl 0 (by decide) rfl rfl m_171 rfl rfl rfl (Nat.le_of_ble_eq_true rfl) dX3_init_6 (g_tset E ad w _ _) (fun H locs X => ?_)
  refine lv_aload_n hx hb dX3_init_9 rfl (lv_at hl 0 rfl) ?_
  refine lv_iload_n hx hb dX3_init_10 rfl (lv_at hl 2 rfl) ?_
  refine g_putF C hnm X g_iX3 tyX3_ok nmX3 (w.2.2.2.2.2.length + 8) (g_tget E ad w _) rfl 1 (by decide) rfl rfl m_173 rfl rfl rfl (Nat.le_of_ble_eq_true rfl) dX3_init_11 (g_tset E ad w _ _) (fun H locs X => ?_)
  refine lv_aload_n hx hb dX3_init_14 rfl (lv_at hl 0 rfl) ?_
  refine lv_iload_n hx hb dX3_init_15 rfl (lv_at hl 3 rfl) ?_
  refine g_putF C hnm X g_iX3 tyX3_ok nmX3 (w.2.2.2.2.2.length + 8) (g_tget E ad w _) rfl 2 (by decide) rfl rfl m_175 rfl rfl rfl (Nat.le_of_ble_eq_true rfl) dX3_init_16 (g_tset E ad w _ _) (fun H locs X => ?_)
  refine lv_aload_n hx hb dX3_init_19 rfl (lv_at hl 0 rfl) ?_
  refine lv_lload hx hb dX3_init_20 (lv_at hl 4 rfl) ?_
  refine g_putF C hnm X g_iX3 tyX3_ok nmX3 (w.2.2.2.2.2.length + 8) (g_tget E ad w _) rfl 3 (by decide) rfl rfl m_177 rfl rfl rfl (Nat.le_of_ble_eq_true rfl) dX3_init_22 (g_tset E ad w _ _) (fun H locs X => ?_)
  refine lv_aload_n hx hb dX3_init_25 rfl (lv_at hl 0 rfl) ?_
  refine lv_iload hx hb dX3_init_26 (lv_at hl 5 rfl) ?_
  refine g_putF C hnm X g_iX3 tyX3_ok nmX3 (w.2.2.2.2.2.length + 8) (g_tget E ad w _) rfl 4 (by decide) rfl rfl m_179 rfl rfl rfl (Nat.le_of_ble_eq_true rfl) dX3_init_28 (g_tset E ad w _ _) (fun H locs X => ?_)
  refine lv_aload_n hx hb dX3_init_31 rfl (lv_at hl 0 rfl) ?_
  refine lv_iload hx hb dX3_init_32 (lv_at hl 6 rfl) ?_
  refine g_putF C hnm X g_iX3 tyX3_ok nmX3 (w.2.2.2.2.2.length + 8) (g_tget E ad w _) rfl 5 (by decide) rfl rfl m_181 rfl rfl rfl (Nat.le_of_ble_eq_true rfl) dX3_init_34 (g_tset E ad w _ _) (fun H locs X => ?_)
  exact g_vret (fun x : Unit => wsC E ad (cN w (q, .inr (2, [.int a1, .int a2, .int a3, .long a4, .int a6, .int a7])))) (w1 := ()) (w2 := ()) C hr hk X rfl dX3_init_37
set_option maxRecDepth 100000 in
set_option maxHeartbeats 4000000 in
theorem cC_Sh_lineNumbered (l : Launch) (E : g_Env) (A : Nat → Prop) (ad : Nat → Nat) (w : CS) (a1 : Int32) (q : Nat) (y1 : ¬ a1 < 1) (z1 : ¬ 16 < a1) (u1 : vp_in (a1 - 1) 16) (e1 : w.2.2.2.2.1 (a1 - 1).toNatClampNeg = some q) : Met l yX5_lineNumbered (.code yX5_lineNumbered cX5_lineNumbered 2 (some (.object "PatchHall$Line")) :: g_tbl) ({ frames := 0, cells := 0, slots := 0, locals := 0 }) (va_Pc [.ref (ad 6), .int a1] (g_at E A (wsC E ad w))) (va_Qr (fun (u' : va_W) => u' = wsC E ad w) (fun (u : va_W) (x : Nat) (t : State) => x = q ∧ g_B E A u t) A) 0 0 A := by
  refine g_start (rm := { frames := 0, cells := 0, slots := 0, locals := 0 }) (by decide) (Nat.le_of_ble_eq_true rfl) ?_
  intro p e s m below meth c C hr hk hnm ls hl H locs X
  have hx := C.1.1
  have hb := C.1.2.1
  have hl : lv_has ls 2 [(0, .ref (ad 6)), (1, .int a1)] := hl
  refine lv_iload_n hx hb dX5_lineNumbered_0 rfl (lv_at hl 1 rfl) ?_
  refine lv_iconst (v := 1) hx hb dX5_lineNumbered_1 (by decide) ?_
  refine lv_icmp_lt (tgt := 25) hx hb dX5_lineNumbered_2 (by decide) (fun c2 => absurd c2 y1) (fun c2 => ?_)
  refine lv_iload_n hx hb dX5_lineNumbered_5 rfl (lv_at hl 1 rfl) ?_
  refine lv_aload_n hx hb dX5_lineNumbered_6 rfl (lv_at hl 0 rfl) ?_
  refine g_get C X g_iX5 6 rfl rfl 0 (by decide) rfl m_136 rfl dX5_lineNumbered_7 ?_
  refine g_rlen C X 7 rfl (v := 16) rfl dX5_lineNumbered_10 ?_
  refine lv_icmp_gt (tgt := 25) hx hb dX5_lineNumbered_11 (by decide) (fun c3 => absurd c3 z1) (fun c3 => ?_)
  refine lv_aload_n hx hb dX5_lineNumbered_14 rfl (lv_at hl 0 rfl) ?_
  refine g_get C X g_iX5 6 rfl rfl 0 (by decide) rfl m_136 rfl dX5_lineNumbered_15 ?_
  refine lv_iload_n hx hb dX5_lineNumbered_18 rfl (lv_at hl 1 rfl) ?_
  refine lv_iconst (v := 1) hx hb dX5_lineNumbered_19 (by decide) ?_
  refine lv_isub hx hb dX5_lineNumbered_20 ?_
  refine g_aald C X 7 rfl u1 e1 dX5_lineNumbered_21 ?_
  refine lv_goto (tgt := 26) hx hb dX5_lineNumbered_22 (by decide) ?_
  exact W.aret hx hb hr (Or.inl ⟨_, rfl⟩) (Or.inr ⟨_, rfl⟩) (fun t ht hW => ⟨⟨wsC E ad w, q, rfl, rfl, rfl, by rw [ht]; exact X.1, X.2.1⟩, X.2.2.F ht⟩) X.2.2.2.2 dX5_lineNumbered_26 hk
set_option maxRecDepth 100000 in
set_option maxHeartbeats 4000000 in
theorem cC_Change_init (l : Launch) (E : g_Env) (A : Nat → Prop) (ad : Nat → Nat) (w : CS) (q : Nat) (a1 : Int32) (e0 : Option Nat) (n0 : Int32) (hn0 : n0 = g_max a1 0) (h0 : ¬ n0 < 0) (h1 : n0.toNatClampNeg ≤ 1397) : Met l yX1_init (.code yX1_init cX1_init 3 none :: g_tbl) ({ frames := 1, cells := 2, slots := 2794, locals := 30 }) (va_Pc [.ref q, .int a1, va_rf e0] (g_at E A ((q, .inr (1, [.int 0, .null, .null, .null])) :: wsC E ad w))) (va_Qv (fun (u' : va_W) => ∃ w' : Nat × Nat, u' = wsK E ad q w'.1 w'.2 n0 e0 (w, (fun _ => 0), (fun _ => 0)) ∧ True) (g_B E A) A) 2 2794 A := by
  refine g_start (rm := { frames := 1, cells := 2, slots := 2794, locals := 30 }) (by decide) (by cases e0 <;> exact Nat.le_of_ble_eq_true rfl) ?_
  intro p e s m below meth c C hr hk hnm ls hl H locs X
  have hx := C.1.1
  have hb := C.1.2.1
  have hl : lv_has ls 3 [(0, .ref q), (1, .int a1), (2, va_rf e0)] := by cases e0 <;> exact hl
  refine lv_aload_n hx hb dX1_init_0 rfl (lv_at hl 0 rfl) ?_
  refine g_objInit C hl.1 m_304 m_89 m_90 dX1_init_1 (Nat.le_of_ble_eq_true rfl) (Nat.le_of_ble_eq_true rfl) ?_
  refine lv_aload_n hx hb dX1_init_4 rfl (lv_at hl 0 rfl) ?_
  refine lv_iload_n hx hb dX1_init_5 rfl (lv_at hl 1 rfl) ?_
  refine lv_iconst (v := 0) hx hb dX1_init_6 (by decide) ?_
  refine g_mmax C hl.1 m_305 m_306 m_80 m_307 (Nat.le_of_ble_eq_true rfl) (Nat.le_of_ble_eq_true rfl) (Nat.zero_le _) (Nat.zero_le _) hn0 dX1_init_7 ?_
  refine g_putF C hnm X g_iX1 tyX1_ok nmX1 0 rfl rfl 0 (by decide) rfl rfl m_308 rfl rfl rfl (Nat.le_of_ble_eq_true rfl) dX1_init_10 rfl (fun H locs X => ?_)
  have X : g_W E A s H locs ((q, .inr (1, [.int n0, .null, .null, .null])) :: wsC E ad w) := X
  refine lv_aload_n hx hb dX1_init_13 rfl (lv_at hl 0 rfl) ?_
  refine lv_aload_n hx hb dX1_init_14 rfl (lv_at hl 0 rfl) ?_
  refine g_get C X g_iX1 0 rfl rfl 0 (by decide) rfl m_308 rfl dX1_init_15 ?_
  refine g_newI C X m_127 h0 rfl (by omega) (Nat.le_of_ble_eq_true rfl) (by show 0 + n0.toNatClampNeg ≤ 2794; omega) dX1_init_18 (fun q1 H X => ?_)
  have X := X.rotR
  refine g_putF C hnm X g_iX1 tyX1_ok nmX1 1 rfl rfl 1 (by decide) rfl rfl m_310 rfl rfl rfl (Nat.le_of_ble_eq_true rfl) dX1_init_20 rfl (fun H locs X => ?_)
  have X : g_W E A s H locs ((q1, .inl (E.2.1, n0.toNatClampNeg, .inl (fun _ => 0))) :: (q, .inr (1, [.int n0, .ref q1, .null, .null])) :: wsC E ad w) := X
  refine lv_aload_n hx hb dX1_init_23 rfl (lv_at hl 0 rfl) ?_
  refine lv_aload_n hx hb dX1_init_24 rfl (lv_at hl 0 rfl) ?_
  refine g_get C X g_iX1 1 rfl rfl 0 (by decide) rfl m_308 rfl dX1_init_25 ?_
  refine g_newJ C X m_112 h0 rfl (by omega) (Nat.le_of_ble_eq_true rfl) (by show 0 + n0.toNatClampNeg + n0.toNatClampNeg ≤ 2794; omega) dX1_init_28 (fun q2 H X => ?_)
  have X := X.rotR
  refine g_putF C hnm X g_iX1 tyX1_ok nmX1 2 rfl rfl 2 (by decide) rfl rfl m_312 rfl rfl rfl (Nat.le_of_ble_eq_true rfl) dX1_init_30 rfl (fun H locs X => ?_)
  have X : g_W E A s H locs ((q2, .inl (E.2.2.1, n0.toNatClampNeg, .inr (.inl (fun _ => 0)))) :: (q1, .inl (E.2.1, n0.toNatClampNeg, .inl (fun _ => 0))) :: (q, .inr (1, [.int n0, .ref q1, .ref q2, .null])) :: wsC E ad w) := X
  refine lv_aload_n hx hb dX1_init_33 rfl (lv_at hl 0 rfl) ?_
  refine g_aload_nq hx hb dX1_init_34 rfl (lv_at hl 2 rfl) ?_
  refine g_putF C hnm X g_iX1 tyX1_ok nmX1 2 rfl rfl 3 (by decide) rfl rfl m_314 rfl (g_nq _) (g_fq _) (Nat.le_of_ble_eq_true rfl) dX1_init_35 rfl (fun H locs X => ?_)
  have X : g_W E A s H locs ((q2, .inl (E.2.2.1, n0.toNatClampNeg, .inr (.inl (fun _ => 0)))) :: (q1, .inl (E.2.1, n0.toNatClampNeg, .inl (fun _ => 0))) :: (q, .inr (1, [.int n0, .ref q1, .ref q2, va_rf e0])) :: wsC E ad w) := X
  have X := X.sw3
  refine W.widen (k := 2) (n := 2794) (Nat.le_of_ble_eq_true rfl) (by omega) ?_
  exact g_vretP (fun v : Nat × Nat => wsK E ad q v.1 v.2 n0 e0 (w, (fun _ => 0), (fun _ => 0))) (w1 := (q1, q2)) (Q' := fun _ => True) C hr hk X trivial dX1_init_38
def fK_keepAct_103 (q : Nat) (n0 : Int32) (w : KS)  : Option (KS) :=
  g_let ((cLat w.1 (some q), w.2)) fun w105 =>
  g_let ((cI w105.1 1 ((w105.1.1 1) + (1 : Int32)), w105.2)) fun w115 =>
  some w115
def fK_keepAct_97 (q : Nat) (n0 : Int32) (k27 : KS → Int32 → Int32 → Int32 → Option (KS)) (w : KS) (x1 : Int32) (x3 : Int32) (x4 : Int32) : Option (KS) :=
  k27 w x1 x3 (x4 + (1 : Int32))
def fK_keepAct_27 (q : Nat) (n0 : Int32) : Nat → KS → Int32 → Int32 → Int32 → Option (KS)
  | 0, _, _, _, _ => none
  | n + 1, w, x1, x3, x4 =>
    if x1 ≤ x4 then
      fK_keepAct_103 q n0 w 
    else
      if n0 ≤ x3 then
        fK_keepAct_103 q n0 w 
      else
        g_ck x4 1397 <|
        g_let (w.1.2.1 2 x4.toNatClampNeg) fun v47 =>
        g_ck x4 1397 <|
        g_let (w.1.2.1 3 x4.toNatClampNeg) fun v54 =>
        if (lg_cmp v47 v54) = 0 then
          fK_keepAct_97 q n0 (fK_keepAct_27 q n0 n) w x1 x3 x4
        else
          g_ck x3 n0.toNatClampNeg <|
          g_let ((w.1, upd w.2.1 x3.toNatClampNeg x4, w.2.2)) fun w66 =>
          g_ck x4 1397 <|
          g_let (w66.1.2.1 3 x4.toNatClampNeg) fun v78 =>
          g_ck x3 n0.toNatClampNeg <|
          g_let ((w66.1, w66.2.1, vp_updL w66.2.2 x3.toNatClampNeg v78)) fun w79 =>
          g_ck x4 1397 <|
          g_let (w79.1.2.1 2 x4.toNatClampNeg) fun v92 =>
          g_ck x4 1397 <|
          g_let ((cL w79.1 3 x4.toNatClampNeg v92, w79.2)) fun w93 =>
          fK_keepAct_97 q n0 (fK_keepAct_27 q n0 n) w93 x1 (x3 + (1 : Int32)) x4
def fK_keepAct (q : Nat) (n0 : Int32) (w : KS) (x1 : Int32) : Option KS :=
  fK_keepAct_27 q n0 g_fuel w x1 (0 : Int32) (0 : Int32)
def wC_S_keepAct (E : g_Env) (Q : CS → Prop) (w : CS) : Prop :=
  ∃ x1 : Int32, fC_S_cellsInUse w = some (x1, w) ∧
  ∀ q : Nat, ∃ b n0 : Int32, fC_S_countChanges (cN w (q, .inr (1, [.int 0, .null, .null, .null]))) x1 = some (b, cN w (q, .inr (1, [.int 0, .null, .null, .null]))) ∧
  n0 = g_max b 0 ∧ ¬ n0 < 0 ∧ n0.toNatClampNeg ≤ 1397 ∧
  ∀ q1 q2 : Nat, ∃ v : KS, fK_keepAct q n0 (w, (fun _ => 0), (fun _ => 0)) x1 = some v ∧
  ∀ e0 : Option Nat, e0 = w.2.2.2.1 → Q (cK3 E q q1 q2 n0 e0 v)
set_option maxRecDepth 100000 in
set_option maxHeartbeats 4000000 in
theorem cC_S_keepAct (l : Launch) (E : g_Env) (A : Nat → Prop) (ad : Nat → Nat) (w : CS) (Q : CS → Prop) (hf : wC_S_keepAct E Q w) : Met l yX6_keepAct (.code yX6_keepAct cX6_keepAct 5 (none) :: g_tbl) ({ frames := 4, cells := 3, slots := 2798, locals := 110 }) (va_Pc [.ref (ad 1)] (g_at E A (wsC E ad w))) (va_Qv (fun (u' : va_W) => ∃ w' : CS, u' = wsC E ad w' ∧ Q w') (g_B E A) A) 3 2798 A := by
  refine g_start (rm := { frames := 4, cells := 3, slots := 2798, locals := 110 }) (by decide) (Nat.le_of_ble_eq_true rfl) ?_
  intro p e s m below meth c C hr hk hnm ls hl H locs X
  have hx := C.1.1
  have hb := C.1.2.1
  have hl : lv_has ls 5 [(0, .ref (ad 1))] := hl
  obtain ⟨x1, e1, hf⟩ := hf
  obtain ⟨e0, he0⟩ : ∃ e0 : Option Nat, e0 = w.2.2.2.1 := ⟨_, rfl⟩
  refine lv_aload_n hx hb dX6_keepAct_0 rfl (lv_at hl 0 rfl) ?_
  refine g_calli X (g_runV (As := []) (rest := []) C X (cC_S_cellsInUse l E A ad w w x1 e1) kX6_cellsInUse m_288 1 4 rfl rfl hl.1 rfl ⟨Nat.le_of_ble_eq_true rfl, Nat.le_of_ble_eq_true rfl⟩ rfl (Nat.le_of_ble_eq_true rfl) dX6_keepAct_1 ⟨Nat.le_of_ble_eq_true rfl, Nat.le_of_ble_eq_true rfl⟩) rfl rfl (fun H locs X => ?_)
  refine lv_istore_n (lv' := [(1, .int x1), (0, .ref (ad 1))]) hx hb dX6_keepAct_4 rfl hl (by decide) rfl (fun ls hl => ?_)
  refine g_new (ci := 1) (fs := [.int 0, .null, .null, .null]) C X g_iX1 tyX1_ok m_295 m_296 m_81 rfl (fun j hj => by rcases (show j = 0 ∨ j = 1 ∨ j = 2 ∨ j = 3 by omega) with rfl | rfl | rfl | rfl <;> rfl) (Nat.le_of_ble_eq_true rfl) (Nat.le_of_ble_eq_true rfl) dX6_keepAct_5 (fun q H X => ?_)
  have X : g_W E A s H locs (wsC E ad (cN w (q, .inr (1, [.int 0, .null, .null, .null])))) := X
  obtain ⟨b, n0, e2, hn0, h0, h1, hf⟩ := hf q
  refine lv_dup hx hb dX6_keepAct_8 rfl ?_
  refine lv_aload_n hx hb dX6_keepAct_9 rfl (lv_at hl 1 rfl) ?_
  refine lv_iload_n hx hb dX6_keepAct_10 rfl (lv_at hl 0 rfl) ?_
  refine g_calli X (g_runV (As := [.int x1]) (rest := [.ref q, .ref q]) C X (cC_S_countChanges l E A ad _ _ b x1 e2) kX6_countChanges m_297 1 4 rfl rfl hl.1 rfl ⟨Nat.le_of_ble_eq_true rfl, Nat.le_of_ble_eq_true rfl⟩ rfl (Nat.le_of_ble_eq_true rfl) dX6_keepAct_11 ⟨Nat.le_of_ble_eq_true rfl, Nat.le_of_ble_eq_true rfl⟩) rfl rfl (fun H locs X => ?_)
  refine lv_aload_n hx hb dX6_keepAct_14 rfl (lv_at hl 1 rfl) ?_
  refine g_get C X g_iX6 1 rfl rfl 2 (by decide) rfl m_100 (v := va_rf e0) (by subst he0; rfl) dX6_keepAct_15 ?_
  have X : g_W E A s H locs ((q, .inr (1, [.int 0, .null, .null, .null])) :: wsC E ad w) := g_W.rotR (ws := wsC E ad w) X
  refine g_callvP (fun v : Nat × Nat => wsK E ad q v.1 v.2 n0 e0 (w, (fun _ => 0), (fun _ => 0))) X (g_runI (As := [.int b, va_rf e0]) (rest := [.ref q]) C X (cC_Change_init l E A ad w q b e0 n0 hn0 h0 h1) kX1_init m_301 hl.1 rfl ⟨Nat.le_of_ble_eq_true rfl, Nat.le_of_ble_eq_true rfl⟩ rfl (Nat.le_of_ble_eq_true rfl) dX6_keepAct_18 ⟨Nat.le_of_ble_eq_true rfl, Nat.le_of_ble_eq_true rfl⟩) (fun H locs v0 _ X => ?_)
  obtain ⟨q1, q2⟩ := v0
  obtain ⟨v, hf, hQ⟩ := hf q1 q2
  have hQ := hQ e0 he0
  refine W.widen (k := 3) (n := 2798) (Nat.le_of_ble_eq_true rfl) (Nat.le_of_ble_eq_true rfl) ?_
  have j103 : ∀ (w : KS)  (ls : Array Slot) (H : Heap) (locs : List Loc), fK_keepAct_103 q n0 w  = some v → lv_has ls 5 [(0, .ref (ad 1)), (2, .ref q)] → g_W E A s H locs (wsK E ad q q1 q2 n0 e0 w) → W p l e ({ frames := 4, cells := 3, slots := 2798, locals := 110 }) s m ([.ref (ad 1)] : List Value).toArray below meth c H locs 3 2798 (MQ below (va_Qv (fun (u' : va_W) => ∃ w' : CS, u' = wsC E ad w' ∧ Q w') (g_B E A) A) ([.ref (ad 1)] : List Value).toArray s 3 2798 A) (F0 m 103 ls []) := by
    intro w  ls H locs hf hl X
    unfold fK_keepAct_103 at hf
    refine lv_aload_n hx hb dX6_keepAct_103 rfl (lv_at hl 0 rfl) ?_
    refine lv_aload_n hx hb dX6_keepAct_104 rfl (lv_at hl 1 rfl) ?_
    obtain ⟨w105, e105, hf⟩ := g_le hf
    refine g_put C X g_iX6 tyX6_ok nmX6 4 rfl rfl 2 (by decide) rfl m_100 rfl rfl rfl (Nat.le_of_ble_eq_true rfl) dX6_keepAct_105 (ws2 := wsK E ad q q1 q2 n0 e0 w105) (by subst e105; rfl) (fun H locs X => ?_)
    refine lv_aload_n hx hb dX6_keepAct_108 rfl (lv_at hl 0 rfl) ?_
    refine lv_dup hx hb dX6_keepAct_109 rfl ?_
    refine g_get C X g_iX6 4 rfl rfl 3 (by decide) rfl m_101 rfl dX6_keepAct_110 ?_
    refine lv_iconst (v := 1) hx hb dX6_keepAct_113 (by decide) ?_
    refine lv_iadd hx hb dX6_keepAct_114 ?_
    obtain ⟨w115, e115, hf⟩ := g_le hf
    refine g_put C X g_iX6 tyX6_ok nmX6 4 rfl rfl 3 (by decide) rfl m_101 rfl rfl rfl (Nat.le_of_ble_eq_true rfl) dX6_keepAct_115 (ws2 := wsK E ad q q1 q2 n0 e0 w115) (by subst e115; rfl) (fun H locs X => ?_)
    cases hf
    exact g_vretP (wsC E ad) (w1 := cK3 E q q1 q2 n0 e0 _) C hr hk X.rotL.rotL.rotL hQ dX6_keepAct_118
  have j27 : ∀ (n : Nat) (w : KS) (x1 : Int32) (x3 : Int32) (x4 : Int32) (ls : Array Slot) (H : Heap) (locs : List Loc), fK_keepAct_27 q n0 n w x1 x3 x4 = some v → lv_has ls 5 [(0, .ref (ad 1)), (1, .int x1), (2, .ref q), (3, .int x3), (4, .int x4)] → g_W E A s H locs (wsK E ad q q1 q2 n0 e0 w) → W p l e ({ frames := 4, cells := 3, slots := 2798, locals := 110 }) s m ([.ref (ad 1)] : List Value).toArray below meth c H locs 3 2798 (MQ below (va_Qv (fun (u' : va_W) => ∃ w' : CS, u' = wsC E ad w' ∧ Q w') (g_B E A) A) ([.ref (ad 1)] : List Value).toArray s 3 2798 A) (F0 m 27 ls []) := by
    intro n
    induction n with
    | zero => intro w x1 x3 x4 ls H locs hf; exact absurd hf (by simp [fK_keepAct_27])
    | succ n27 ih27 =>
      intro w x1 x3 x4 ls H locs hf hl X
      have j97 : ∀ (w : KS) (x1 : Int32) (x3 : Int32) (x4 : Int32) (ls : Array Slot) (H : Heap) (locs : List Loc), fK_keepAct_97 q n0 (fK_keepAct_27 q n0 n27) w x1 x3 x4 = some v → lv_has ls 5 [(0, .ref (ad 1)), (1, .int x1), (2, .ref q), (3, .int x3), (4, .int x4)] → g_W E A s H locs (wsK E ad q q1 q2 n0 e0 w) → W p l e ({ frames := 4, cells := 3, slots := 2798, locals := 110 }) s m ([.ref (ad 1)] : List Value).toArray below meth c H locs 3 2798 (MQ below (va_Qv (fun (u' : va_W) => ∃ w' : CS, u' = wsC E ad w' ∧ Q w') (g_B E A) A) ([.ref (ad 1)] : List Value).toArray s 3 2798 A) (F0 m 97 ls []) := by
        intro w x1 x3 x4 ls H locs hf hl X
        unfold fK_keepAct_97 at hf
        refine lv_iinc (v := x4 + (1 : Int32)) (lv' := [(4, .int (x4 + (1 : Int32))), (0, .ref (ad 1)), (1, .int x1), (2, .ref q), (3, .int x3)]) hx hb dX6_keepAct_97 hl (k := 4) rfl rfl (by decide) rfl (fun ls hl => ?_)
        refine lv_goto (tgt := 27) hx hb dX6_keepAct_100 (by decide) ?_
        exact ih27 w x1 x3 (x4 + (1 : Int32)) ls H locs hf (lv_sub hl [1, 2, 3, 4, 0] rfl) X
      unfold fK_keepAct_27 at hf
      refine lv_iload hx hb dX6_keepAct_27 (lv_at hl 4 rfl) ?_
      refine lv_iload_n hx hb dX6_keepAct_29 rfl (lv_at hl 1 rfl) ?_
      refine lv_icmp_ge (tgt := 103) hx hb dX6_keepAct_30 (by decide) (fun c30 => ?_) (fun c30 => ?_)
      · have hf := g_t hf c30
        exact j103 w  ls H locs hf (lv_sub hl [0, 2] rfl) X
      · have hf := g_f hf c30
        refine lv_iload_n hx hb dX6_keepAct_33 rfl (lv_at hl 3 rfl) ?_
        refine lv_aload_n hx hb dX6_keepAct_34 rfl (lv_at hl 2 rfl) ?_
        refine g_getN C X g_iX1 0 rfl rfl 0 (by decide) rfl n_13 rfl dX6_keepAct_35 ?_
        refine lv_icmp_ge (tgt := 103) hx hb dX6_keepAct_38 (by decide) (fun c38 => ?_) (fun c38 => ?_)
        · have hf := g_t hf c38
          exact j103 w  ls H locs hf (lv_sub hl [0, 2] rfl) X
        · have hf := g_f hf c38
          refine lv_aload_n hx hb dX6_keepAct_41 rfl (lv_at hl 0 rfl) ?_
          refine g_get C X g_iX6 4 rfl rfl 0 (by decide) rfl m_98 rfl dX6_keepAct_42 ?_
          refine lv_iload hx hb dX6_keepAct_45 (lv_at hl 4 rfl) ?_
          obtain ⟨h47, hf⟩ := g_cke hf
          obtain ⟨v47, e47, hf⟩ := g_le hf
          refine g_lald C X 5 rfl h47 e47 dX6_keepAct_47 ?_
          refine lv_aload_n hx hb dX6_keepAct_48 rfl (lv_at hl 0 rfl) ?_
          refine g_get C X g_iX6 4 rfl rfl 1 (by decide) rfl m_99 rfl dX6_keepAct_49 ?_
          refine lv_iload hx hb dX6_keepAct_52 (lv_at hl 4 rfl) ?_
          obtain ⟨h54, hf⟩ := g_cke hf
          obtain ⟨v54, e54, hf⟩ := g_le hf
          refine g_lald C X 6 rfl h54 e54 dX6_keepAct_54 ?_
          refine W.lcmp hx hb dX6_keepAct_55 ?_
          refine lv_if_eq (tgt := 97) hx hb dX6_keepAct_56 (by decide) (fun c56 => ?_) (fun c56 => ?_)
          · have hf := g_t hf c56
            exact j97 w x1 x3 x4 ls H locs hf (lv_sub hl [0, 1, 2, 3, 4] rfl) X
          · have hf := g_f hf c56
            refine lv_aload_n hx hb dX6_keepAct_59 rfl (lv_at hl 2 rfl) ?_
            refine g_getN C X g_iX1 0 rfl rfl 1 (by decide) rfl n_14 rfl dX6_keepAct_60 ?_
            refine lv_iload_n hx hb dX6_keepAct_63 rfl (lv_at hl 3 rfl) ?_
            refine lv_iload hx hb dX6_keepAct_64 (lv_at hl 4 rfl) ?_
            obtain ⟨h66, hf⟩ := g_cke hf
            obtain ⟨w66, e66, hf⟩ := g_le hf
            refine g_iast C X 1 rfl h66 dX6_keepAct_66 (ws2 := wsK E ad q q1 q2 n0 e0 w66) (by subst e66; rfl) (fun H locs X => ?_)
            refine lv_aload_n hx hb dX6_keepAct_67 rfl (lv_at hl 2 rfl) ?_
            refine g_getN C X g_iX1 0 rfl rfl 2 (by decide) rfl n_15 rfl dX6_keepAct_68 ?_
            refine lv_iload_n hx hb dX6_keepAct_71 rfl (lv_at hl 3 rfl) ?_
            refine lv_aload_n hx hb dX6_keepAct_72 rfl (lv_at hl 0 rfl) ?_
            refine g_get C X g_iX6 4 rfl rfl 1 (by decide) rfl m_99 rfl dX6_keepAct_73 ?_
            refine lv_iload hx hb dX6_keepAct_76 (lv_at hl 4 rfl) ?_
            obtain ⟨h78, hf⟩ := g_cke hf
            obtain ⟨v78, e78, hf⟩ := g_le hf
            refine g_lald C X 6 rfl h78 e78 dX6_keepAct_78 ?_
            obtain ⟨h79, hf⟩ := g_cke hf
            obtain ⟨w79, e79, hf⟩ := g_le hf
            refine g_last C X 2 rfl h79 dX6_keepAct_79 (ws2 := wsK E ad q q1 q2 n0 e0 w79) (by subst e79; rfl) (fun H locs X => ?_)
            refine lv_aload_n hx hb dX6_keepAct_80 rfl (lv_at hl 0 rfl) ?_
            refine g_get C X g_iX6 4 rfl rfl 1 (by decide) rfl m_99 rfl dX6_keepAct_81 ?_
            refine lv_iload hx hb dX6_keepAct_84 (lv_at hl 4 rfl) ?_
            refine lv_aload_n hx hb dX6_keepAct_86 rfl (lv_at hl 0 rfl) ?_
            refine g_get C X g_iX6 4 rfl rfl 0 (by decide) rfl m_98 rfl dX6_keepAct_87 ?_
            refine lv_iload hx hb dX6_keepAct_90 (lv_at hl 4 rfl) ?_
            obtain ⟨h92, hf⟩ := g_cke hf
            obtain ⟨v92, e92, hf⟩ := g_le hf
            refine g_lald C X 5 rfl h92 e92 dX6_keepAct_92 ?_
            obtain ⟨h93, hf⟩ := g_cke hf
            obtain ⟨w93, e93, hf⟩ := g_le hf
            refine g_last C X 6 rfl h93 dX6_keepAct_93 (ws2 := wsK E ad q q1 q2 n0 e0 w93) (by subst e93; rfl) (fun H locs X => ?_)
            refine lv_iinc (v := x3 + (1 : Int32)) (lv' := [(3, .int (x3 + (1 : Int32))), (0, .ref (ad 1)), (1, .int x1), (2, .ref q), (4, .int x4)]) hx hb dX6_keepAct_94 hl (k := 3) rfl rfl (by decide) rfl (fun ls hl => ?_)
            exact j97 w93 x1 (x3 + (1 : Int32)) x4 ls H locs hf (lv_sub hl [1, 2, 3, 0, 4] rfl) X
  unfold fK_keepAct at hf
  refine lv_astore_n (lv' := [(2, .ref q), (1, .int x1), (0, .ref (ad 1))]) hx hb dX6_keepAct_21 rfl hl (by decide) rfl (fun ls hl => ?_)
  refine lv_iconst (v := 0) hx hb dX6_keepAct_22 (by decide) ?_
  refine lv_istore_n (lv' := [(3, .int (0 : Int32)), (2, .ref q), (1, .int x1), (0, .ref (ad 1))]) hx hb dX6_keepAct_23 rfl hl (by decide) rfl (fun ls hl => ?_)
  refine lv_iconst (v := 0) hx hb dX6_keepAct_24 (by decide) ?_
  refine lv_istore (lv' := [(4, .int (0 : Int32)), (3, .int (0 : Int32)), (2, .ref q), (1, .int x1), (0, .ref (ad 1))]) hx hb dX6_keepAct_25 hl (by decide) rfl (fun ls hl => ?_)
  exact j27 g_fuel (w, (fun _ => 0), (fun _ => 0)) x1 (0 : Int32) (0 : Int32) ls H locs hf (lv_sub hl [4, 3, 2, 1, 0] rfl) X
def fT_takeBack_72 (q : Nat) (n0 : Int32) (e0 : Option Nat) (f0 : Nat → Int32) (g0 : Nat → Int64) (k10 : CS → Int32 → Option (CS)) (w : CS) (x1 : Int32) : Option (CS) :=
  k10 w (x1 + (1 : Int32))
def fT_takeBack_10 (q : Nat) (n0 : Int32) (e0 : Option Nat) (f0 : Nat → Int32) (g0 : Nat → Int64) : Nat → CS → Int32 → Option (CS)
  | 0, _, _ => none
  | n + 1, w, x1 =>
    g_lat w.2.2.2.1 q <|
    if n0 ≤ x1 then
      g_lat w.2.2.2.1 q <|
      g_let (cLat w e0) fun w86 =>
      g_let (cI w86 1 ((w86.1 1) - (1 : Int32))) fun w96 =>
      some w96
    else
      g_lat w.2.2.2.1 q <|
      g_ck x1 n0.toNatClampNeg <|
      g_let (f0 x1.toNatClampNeg) fun v29 =>
      if v29 < 0 then
        fT_takeBack_72 q n0 e0 f0 g0 (fT_takeBack_10 q n0 e0 f0 g0 n) w x1
      else
        if (1397 : Int32) ≤ v29 then
          fT_takeBack_72 q n0 e0 f0 g0 (fT_takeBack_10 q n0 e0 f0 g0 n) w x1
        else
          g_lat w.2.2.2.1 q <|
          g_ck x1 n0.toNatClampNeg <|
          g_let (g0 x1.toNatClampNeg) fun v55 =>
          g_ck v29 1397 <|
          g_let (cL w 2 v29.toNatClampNeg v55) fun w56 =>
          g_lat w56.2.2.2.1 q <|
          g_ck x1 n0.toNatClampNeg <|
          g_let (g0 x1.toNatClampNeg) fun v70 =>
          g_ck v29 1397 <|
          g_let (cL w56 3 v29.toNatClampNeg v70) fun w71 =>
          fT_takeBack_72 q n0 e0 f0 g0 (fT_takeBack_10 q n0 e0 f0 g0 n) w71 x1
def fT_takeBack (q : Nat) (n0 : Int32) (e0 : Option Nat) (f0 : Nat → Int32) (g0 : Nat → Int64) (w : CS) : Option CS :=
  g_lat w.2.2.2.1 q <|
  fT_takeBack_10 q n0 e0 f0 g0 g_fuel w (0 : Int32)
def wC_S_takeBackAct (E : g_Env) (Q : CS → Prop) (w : CS) : Prop :=
  ∃ (q k q1 k1 q2 k2 : Nat) (n0 : Int32) (e0 : Option Nat) (f0 : Nat → Int32) (g0 : Nat → Int64) (v : CS),
  w.2.2.2.2.2[k]? = some (q, .inr (1, [.int n0, .ref q1, .ref q2, va_rf e0])) ∧
  w.2.2.2.2.2[k1]? = some (q1, .inl (E.2.1, n0.toNatClampNeg, .inl f0)) ∧
  w.2.2.2.2.2[k2]? = some (q2, .inl (E.2.2.1, n0.toNatClampNeg, .inr (.inl g0))) ∧
  fT_takeBack q n0 e0 f0 g0 w = some v ∧ Q (tT w.2.2.2.2.2 v)
set_option maxRecDepth 100000 in
set_option maxHeartbeats 4000000 in
theorem cC_S_takeBackAct (l : Launch) (E : g_Env) (A : Nat → Prop) (ad : Nat → Nat) (w : CS) (Q : CS → Prop) (hf : wC_S_takeBackAct E Q w) : Met l yX6_takeBackAct (.code yX6_takeBackAct cX6_takeBackAct 3 (none) :: g_tbl) ({ frames := 0, cells := 0, slots := 0, locals := 0 }) (va_Pc [.ref (ad 1)] (g_at E A (wsC E ad w))) (va_Qv (fun (u' : va_W) => ∃ w' : CS, u' = wsC E ad w' ∧ Q w') (g_B E A) A) 0 0 A := by
  refine g_start (rm := { frames := 0, cells := 0, slots := 0, locals := 0 }) (by decide) (Nat.le_of_ble_eq_true rfl) ?_
  intro p e s m below meth c C hr hk hnm ls hl H locs X
  have hx := C.1.1
  have hb := C.1.2.1
  have hl : lv_has ls 3 [(0, .ref (ad 1))] := hl
  obtain ⟨q, k, q1, k1, q2, k2, n0, e0, f0, g0, v, hk0, hk1, hk2, hf, hQ⟩ := hf
  have X : g_W E A s H locs (wsT E ad w.2.2.2.2.2 w) := X
  generalize w.2.2.2.2.2 = rs at hk0 hk1 hk2 hQ X
  have j10 : ∀ (n : Nat) (w : CS) (x1 : Int32) (ls : Array Slot) (H : Heap) (locs : List Loc), fT_takeBack_10 q n0 e0 f0 g0 n w x1 = some v → lv_has ls 3 [(0, .ref (ad 1)), (1, .int x1)] → g_W E A s H locs (wsT E ad rs w) → W p l e ({ frames := 0, cells := 0, slots := 0, locals := 0 }) s m ([.ref (ad 1)] : List Value).toArray below meth c H locs 0 0 (MQ below (va_Qv (fun (u' : va_W) => ∃ w' : CS, u' = wsC E ad w' ∧ Q w') (g_B E A) A) ([.ref (ad 1)] : List Value).toArray s 0 0 A) (F0 m 10 ls []) := by
    intro n
    induction n with
    | zero => intro w x1 ls H locs hf; exact absurd hf (by simp [fT_takeBack_10])
    | succ n10 ih10 =>
      intro w x1 ls H locs hf hl X
      have j72 : ∀ (w : CS) (x1 : Int32) (ls : Array Slot) (H : Heap) (locs : List Loc), fT_takeBack_72 q n0 e0 f0 g0 (fT_takeBack_10 q n0 e0 f0 g0 n10) w x1 = some v → lv_has ls 3 [(0, .ref (ad 1)), (1, .int x1)] → g_W E A s H locs (wsT E ad rs w) → W p l e ({ frames := 0, cells := 0, slots := 0, locals := 0 }) s m ([.ref (ad 1)] : List Value).toArray below meth c H locs 0 0 (MQ below (va_Qv (fun (u' : va_W) => ∃ w' : CS, u' = wsC E ad w' ∧ Q w') (g_B E A) A) ([.ref (ad 1)] : List Value).toArray s 0 0 A) (F0 m 72 ls []) := by
        intro w x1 ls H locs hf hl X
        unfold fT_takeBack_72 at hf
        refine lv_iinc (v := x1 + (1 : Int32)) (lv' := [(1, .int (x1 + (1 : Int32))), (0, .ref (ad 1))]) hx hb dX6_takeBackAct_72 hl (k := 1) rfl rfl (by decide) rfl (fun ls hl => ?_)
        refine lv_goto (tgt := 10) hx hb dX6_takeBackAct_75 (by decide) ?_
        exact ih10 w (x1 + (1 : Int32)) ls H locs hf (lv_sub hl [1, 0] rfl) X
      unfold fT_takeBack_10 at hf
      refine lv_iload_n hx hb dX6_takeBackAct_10 rfl (lv_at hl 1 rfl) ?_
      refine lv_aload_n hx hb dX6_takeBackAct_11 rfl (lv_at hl 0 rfl) ?_
      obtain ⟨y12, hf⟩ := g_late hf
      refine g_get C X g_iX6 1 rfl rfl 2 (by decide) rfl m_100 rfl dX6_takeBackAct_12 ?_
      refine g_topq y12 ?_
      refine g_getN C X g_iX1 (k + 8) hk0 rfl 0 (by decide) rfl n_13 rfl dX6_takeBackAct_15 ?_
      refine lv_icmp_ge (tgt := 78) hx hb dX6_takeBackAct_18 (by decide) (fun c18 => ?_) (fun c18 => ?_)
      · have hf := g_t hf c18
        refine lv_aload_n hx hb dX6_takeBackAct_78 rfl (lv_at hl 0 rfl) ?_
        refine lv_aload_n hx hb dX6_takeBackAct_79 rfl (lv_at hl 0 rfl) ?_
        obtain ⟨y80, hf⟩ := g_late hf
        refine g_get C X g_iX6 1 rfl rfl 2 (by decide) rfl m_100 rfl dX6_takeBackAct_80 ?_
        refine g_topq y80 ?_
        refine g_getN C X g_iX1 (k + 8) hk0 rfl 3 (by decide) rfl n_16 rfl dX6_takeBackAct_83 ?_
        obtain ⟨w86, e86, hf⟩ := g_le hf
        refine g_put C X g_iX6 tyX6_ok nmX6 1 rfl rfl 2 (by decide) rfl m_100 rfl (g_nq _) (g_fq _) (Nat.le_of_ble_eq_true rfl) dX6_takeBackAct_86 (ws2 := wsT E ad rs w86) (by subst e86; rfl) (fun H locs X => ?_)
        refine lv_aload_n hx hb dX6_takeBackAct_89 rfl (lv_at hl 0 rfl) ?_
        refine lv_dup hx hb dX6_takeBackAct_90 rfl ?_
        refine g_get C X g_iX6 1 rfl rfl 3 (by decide) rfl m_101 rfl dX6_takeBackAct_91 ?_
        refine lv_iconst (v := 1) hx hb dX6_takeBackAct_94 (by decide) ?_
        refine lv_isub hx hb dX6_takeBackAct_95 ?_
        obtain ⟨w96, e96, hf⟩ := g_le hf
        refine g_put C X g_iX6 tyX6_ok nmX6 1 rfl rfl 3 (by decide) rfl m_101 rfl rfl rfl (Nat.le_of_ble_eq_true rfl) dX6_takeBackAct_96 (ws2 := wsT E ad rs w96) (by subst e96; rfl) (fun H locs X => ?_)
        cases hf
        exact g_vretP (wsC E ad) (w1 := tT rs _) C hr hk X hQ dX6_takeBackAct_99
      · have hf := g_f hf c18
        refine lv_aload_n hx hb dX6_takeBackAct_21 rfl (lv_at hl 0 rfl) ?_
        obtain ⟨y22, hf⟩ := g_late hf
        refine g_get C X g_iX6 1 rfl rfl 2 (by decide) rfl m_100 rfl dX6_takeBackAct_22 ?_
        refine g_topq y22 ?_
        refine g_getN C X g_iX1 (k + 8) hk0 rfl 1 (by decide) rfl n_14 rfl dX6_takeBackAct_25 ?_
        refine lv_iload_n hx hb dX6_takeBackAct_28 rfl (lv_at hl 1 rfl) ?_
        obtain ⟨h29, hf⟩ := g_cke hf
        obtain ⟨v29, e29, hf⟩ := g_le hf
        refine g_iald C X (k1 + 8) hk1 h29 e29 dX6_takeBackAct_29 ?_
        refine lv_istore_n (lv' := [(2, .int v29), (0, .ref (ad 1)), (1, .int x1)]) hx hb dX6_takeBackAct_30 rfl hl (by decide) rfl (fun ls hl => ?_)
        refine lv_iload_n hx hb dX6_takeBackAct_31 rfl (lv_at hl 0 rfl) ?_
        refine lv_if_lt (tgt := 72) hx hb dX6_takeBackAct_32 (by decide) (fun c32 => ?_) (fun c32 => ?_)
        · have hf := g_t hf c32
          exact j72 w x1 ls H locs hf (lv_sub hl [1, 2] rfl) X
        · have hf := g_f hf c32
          refine lv_iload_n hx hb dX6_takeBackAct_35 rfl (lv_at hl 0 rfl) ?_
          refine lv_sipush (v := 1397) hx hb dX6_takeBackAct_36 (by decide) ?_
          refine lv_icmp_ge (tgt := 72) hx hb dX6_takeBackAct_39 (by decide) (fun c39 => ?_) (fun c39 => ?_)
          · have hf := g_t hf c39
            exact j72 w x1 ls H locs hf (lv_sub hl [1, 2] rfl) X
          · have hf := g_f hf c39
            refine lv_aload_n hx hb dX6_takeBackAct_42 rfl (lv_at hl 1 rfl) ?_
            refine g_get C X g_iX6 1 rfl rfl 0 (by decide) rfl m_98 rfl dX6_takeBackAct_43 ?_
            refine lv_iload_n hx hb dX6_takeBackAct_46 rfl (lv_at hl 0 rfl) ?_
            refine lv_aload_n hx hb dX6_takeBackAct_47 rfl (lv_at hl 1 rfl) ?_
            obtain ⟨y48, hf⟩ := g_late hf
            refine g_get C X g_iX6 1 rfl rfl 2 (by decide) rfl m_100 rfl dX6_takeBackAct_48 ?_
            refine g_topq y48 ?_
            refine g_getN C X g_iX1 (k + 8) hk0 rfl 2 (by decide) rfl n_15 rfl dX6_takeBackAct_51 ?_
            refine lv_iload_n hx hb dX6_takeBackAct_54 rfl (lv_at hl 2 rfl) ?_
            obtain ⟨h55, hf⟩ := g_cke hf
            obtain ⟨v55, e55, hf⟩ := g_le hf
            refine g_lald C X (k2 + 8) hk2 h55 e55 dX6_takeBackAct_55 ?_
            obtain ⟨h56, hf⟩ := g_cke hf
            obtain ⟨w56, e56, hf⟩ := g_le hf
            refine g_last C X 2 rfl h56 dX6_takeBackAct_56 (ws2 := wsT E ad rs w56) (by subst e56; rfl) (fun H locs X => ?_)
            refine lv_aload_n hx hb dX6_takeBackAct_57 rfl (lv_at hl 1 rfl) ?_
            refine g_get C X g_iX6 1 rfl rfl 1 (by decide) rfl m_99 rfl dX6_takeBackAct_58 ?_
            refine lv_iload_n hx hb dX6_takeBackAct_61 rfl (lv_at hl 0 rfl) ?_
            refine lv_aload_n hx hb dX6_takeBackAct_62 rfl (lv_at hl 1 rfl) ?_
            obtain ⟨y63, hf⟩ := g_late hf
            refine g_get C X g_iX6 1 rfl rfl 2 (by decide) rfl m_100 rfl dX6_takeBackAct_63 ?_
            refine g_topq y63 ?_
            refine g_getN C X g_iX1 (k + 8) hk0 rfl 2 (by decide) rfl n_15 rfl dX6_takeBackAct_66 ?_
            refine lv_iload_n hx hb dX6_takeBackAct_69 rfl (lv_at hl 2 rfl) ?_
            obtain ⟨h70, hf⟩ := g_cke hf
            obtain ⟨v70, e70, hf⟩ := g_le hf
            refine g_lald C X (k2 + 8) hk2 h70 e70 dX6_takeBackAct_70 ?_
            obtain ⟨h71, hf⟩ := g_cke hf
            obtain ⟨w71, e71, hf⟩ := g_le hf
            refine g_last C X 3 rfl h71 dX6_takeBackAct_71 (ws2 := wsT E ad rs w71) (by subst e71; rfl) (fun H locs X => ?_)
            exact j72 w71 x1 ls H locs hf (lv_sub hl [1, 2] rfl) X
  unfold fT_takeBack at hf
  refine lv_aload_n hx hb dX6_takeBackAct_0 rfl (lv_at hl 0 rfl) ?_
  obtain ⟨y1, hf⟩ := g_late hf
  refine g_get C X g_iX6 1 rfl rfl 2 (by decide) rfl m_100 rfl dX6_takeBackAct_1 ?_
  refine g_topq y1 ?_
  refine lv_ifnonnull (tgt := 8) hx hb dX6_takeBackAct_4 (by decide) ?_
  refine lv_iconst (v := 0) hx hb dX6_takeBackAct_8 (by decide) ?_
  refine lv_istore_n (lv' := [(1, .int (0 : Int32)), (0, .ref (ad 1))]) hx hb dX6_takeBackAct_9 rfl hl (by decide) rfl (fun ls hl => ?_)
  exact j10 g_fuel w (0 : Int32) ls H locs hf (lv_sub hl [1, 0] rfl) X
