theorem g_W.rotP {E : g_Env} {A : Nat → Prop} {s : State} {H : Heap} {locs : List Loc} {ws : va_W} {x : Nat × va_E} (pre : va_W) (X : g_W E A s H locs (pre ++ ws ++ [x])) : g_W E A s H locs (pre ++ x :: ws) := by
  refine X.idx (fun k => if k < pre.length then k else if k = pre.length then pre.length + ws.length else k - 1) ?_ ?_
  · intro k q h
    by_cases h1 : k < pre.length
    · simp only [h1, if_true]
      rw [List.getElem?_append_left h1] at h
      rw [List.append_assoc, List.getElem?_append_left h1]
      exact h
    · rw [List.getElem?_append_right (Nat.le_of_not_lt h1)] at h
      by_cases h2 : k = pre.length
      · subst h2
        simp only [Nat.lt_irrefl, if_false, if_true]
        rw [List.getElem?_append_right (by simp), List.length_append, Nat.sub_self]
        rw [Nat.sub_self] at h
        exact h
      · simp only [h1, h2, if_false]
        have h3 : k - pre.length = (k - 1 - pre.length) + 1 := by omega
        rw [h3] at h
        have h4 : ws[k - 1 - pre.length]? = some q := h
        have h5 := (List.getElem?_eq_some_iff.mp h4).1
        rw [List.append_assoc, List.getElem?_append_right (by omega), List.getElem?_append_left h5]
        exact h4
  · intro i j hi hj h
    simp only [List.length_append, List.length_cons] at hi hj
    by_cases h1 : i < pre.length <;> by_cases h2 : j < pre.length <;> by_cases h3 : i = pre.length <;> by_cases h4 : j = pre.length <;> simp only [h1, h2, h3, h4, if_true, if_false, Nat.lt_irrefl] at h <;> omega
theorem g_W.permP {E : g_Env} {A : Nat → Prop} {s : State} {H : Heap} {locs : List Loc} {ws pre1 pre2 : va_W} (is : List Nat) (hl : pre2.length = pre1.length) (hn : va_nd is = true) (hm : is.map (fun i => pre1[i]?) = pre2.map some) (X : g_W E A s H locs (pre1 ++ ws)) : g_W E A s H locs (pre2 ++ ws) := by
  have hlen : is.length = pre2.length := by simpa using congrArg List.length hm
  have hat : ∀ k : Nat, k < pre2.length → ∃ i, is[k]? = some i ∧ i < pre1.length ∧ pre1[i]? = pre2[k]? := by
    intro k hk
    have h1 : (is.map (fun i => pre1[i]?))[k]? = (pre2.map some)[k]? := by rw [hm]
    rw [List.getElem?_map, List.getElem?_map] at h1
    have hk' : k < is.length := by omega
    rw [List.getElem?_eq_getElem hk', List.getElem?_eq_getElem hk] at h1
    simp only [Option.map_some] at h1
    have h2 : pre1[is[k]]? = some pre2[k] := Option.some.inj h1
    exact ⟨is[k], List.getElem?_eq_getElem hk', (List.getElem?_eq_some_iff.mp h2).1, by rw [h2, List.getElem?_eq_getElem hk]⟩
  refine X.idx (fun k => if k < pre2.length then is.getD k 0 else k) ?_ ?_
  · intro k q h
    by_cases h1 : k < pre2.length
    · obtain ⟨i, e1, e2, e3⟩ := hat k h1
      simp only [h1, if_true]
      rw [List.getElem?_append_left h1] at h
      rw [List.getD_eq_getElem?_getD, e1]
      show (pre1 ++ ws)[i]? = some q
      rw [List.getElem?_append_left e2, e3]
      exact h
    · simp only [h1, if_false]
      rw [List.getElem?_append_right (Nat.le_of_not_lt h1)] at h
      rw [List.getElem?_append_right (by omega), ← hl]
      exact h
  · intro i j _ _ h
    by_cases h1 : i < pre2.length
    · obtain ⟨a, e1, e2, -⟩ := hat i h1
      by_cases h2 : j < pre2.length
      · obtain ⟨b, f1, f2, -⟩ := hat j h2
        simp only [h1, h2, if_true] at h
        rw [List.getD_eq_getElem?_getD, List.getD_eq_getElem?_getD, e1, f1] at h
        have h : a = b := h
        subst h
        exact va_nd_inj is hn i j a e1 f1
      · simp only [h1, h2, if_true, if_false] at h
        rw [List.getD_eq_getElem?_getD, e1] at h
        have h : a = j := h
        omega
    · by_cases h2 : j < pre2.length
      · obtain ⟨b, f1, f2, -⟩ := hat j h2
        simp only [h1, h2, if_true, if_false] at h
        rw [List.getD_eq_getElem?_getD, f1] at h
        have h : i = b := h
        omega
      · simp only [h1, h2, if_false] at h
        exact h
def g_c (i : Nat) : Nat → Int64 := fun k => if k < i then -1 else 0
theorem g_c_0 : g_c 0 = fun _ => 0 := by funext k; simp [g_c]
theorem g_c_up (i : Nat) : vp_updL (g_c i) i (-1) = g_c (i + 1) := by
  funext k
  unfold vp_updL g_c
  by_cases h : k = i
  · subst h
    rw [if_pos rfl, if_pos (by omega)]
  · rw [if_neg h]
    by_cases h2 : k < i
    · rw [if_pos h2, if_pos (by omega)]
    · rw [if_neg h2, if_neg (by omega)]
def cs0 (ws : va_W) : CS := ((fun _ => 0), (fun _ => g_c 16), (fun _ => 0), none, (fun _ => none), ws)
def rs0 : RS := ((fun _ => 0), (fun _ _ => 0), (fun _ _ => 0))
theorem g_newq {p : Program} {l : Launch} {e : Env} {R : Room} {s : State} {m : MethodId} {args : Array Value} {below : List Frame} {meth : Method} {c : Code} {H : Heap} {locs : List Loc} {cells slots : Nat} {Q : State → Prop} {cc : ByteArray} {pc nL : Nat} {ls : Array Slot} {rest : List Value} {A : Nat → Prop} {ws : va_W} {E : g_Env} {own : String} {index : Nat} {n : Int32} {N : Nat} (C : g_C E A p s m args c cc nL own) (X : g_W E A s H locs ws) (hcl : Cond.classLink own index "PatchHall$Line" ∈ g_tbl) (hn : ¬ n < 0) (hN : n.toNatClampNeg = N) (hNb : N ≤ 100000) (hcells : cells + 1 ≤ R.cells) (hslots : slots + N ≤ R.slots) (hdg : decode cc pc = .ok (.anewarray index, 3))
    (kk : ∀ (q : Nat) (H1 : Heap), g_W E A s H1 locs (ws ++ [(q, .inl (E.2.2.2.1, N, .inr (.inr (.inr (.inr (fun _ => none))))))]) → W p l e R s m args below meth c H1 locs (cells + 1) (slots + N) Q (F0 m (pc + 3) ls (.ref q :: rest))) : W p l e R s m args below meth c H locs cells slots Q (F0 m pc ls (.int n :: rest)) := by
  refine va_newq C.1.1 C.1.2.1 C.1.2.2.2.1 (C.1.2.2.2.2 _ hcl) C.2.2.2.2.2.2.2.2 C.2.1 X.1 X.2.1 X.2.2 C.2.2.1 hn hN (by omega) hcells hslots hdg (fun q cA H1 hK1 hP1 hD1 hS1 => ?_)
  obtain ⟨_, _, _, _, _, e1⟩ := (hK1.2 3 (cA, .object "PatchHall$Line") rfl).2
  obtain ⟨_, _, _, _, _, e2⟩ := (C.2.1.2 2 (E.2.2.2.1, .object "PatchHall$Line") rfl).2
  cases Option.some.inj (e1.symm.trans e2)
  exact kk q H1 ⟨hP1, hD1, hS1⟩

set_option maxRecDepth 100000 in
set_option maxHeartbeats 4000000 in
theorem cI_Chain (l : Launch) (E : g_Env) (A : Nat → Prop) (h : Nat) (ws : va_W) : Met l yX0_init (.code yX0_init cX0_init 1 none :: g_tbl) ({ frames := 1, cells := 1, slots := 144, locals := 30 }) (va_Pc [.ref h] (g_at E A ((h, .inr (0, [.null, .int 0])) :: ws))) (va_Qv (fun (u' : va_W) => ∃ w' : Nat, u' = ((h, .inr (0, [.ref w', .int 0])) :: (w', .inl (E.2.1, 144, .inl (fun _ => 0))) :: ws) ∧ True) (g_B E A) A) 1 144 A := by
  refine g_start (rm := { frames := 1, cells := 1, slots := 144, locals := 30 }) (by decide) (Nat.le_of_ble_eq_true rfl) ?_
  intro p e s m below meth c C hr hk hnm ls hl H locs X
  have hx := C.1.1
  have hb := C.1.2.1
  have hl : lv_has ls 1 [(0, .ref h)] := hl
  refine lv_aload_n hx hb dX0_init_0 rfl (lv_at hl 0 rfl) ?_
  refine g_objInit C hl.1 m_118 m_89 m_90 dX0_init_1 (Nat.le_of_ble_eq_true rfl) (Nat.le_of_ble_eq_true rfl) ?_
  refine lv_aload_n hx hb dX0_init_4 rfl (lv_at hl 0 rfl) ?_
  refine lv_sipush (v := 144) hx hb dX0_init_5 (by decide) ?_
  refine g_newI (N := 144) C X m_127 (by decide) (by decide) (by decide) (Nat.le_of_ble_eq_true rfl) (Nat.le_of_ble_eq_true rfl) dX0_init_8 (fun p8 H X => ?_)
  refine W.widen (k := 1) (n := 144) (Nat.le_of_ble_eq_true rfl) (Nat.le_of_ble_eq_true rfl) ?_
  have X := g_W.rotP (ws := ws) [(h, .inr (0, [.null, .int 0]))] X
  have X : g_W E A s H locs ((h, .inr (0, [.null, .int 0])) :: (p8, .inl (E.2.1, 144, .inl (fun _ => 0))) :: ws) := X
  refine g_putF C hnm X g_iX0 tyX0_ok nmX0 0 rfl rfl 0 (by decide) rfl rfl m_119 rfl rfl rfl (Nat.le_of_ble_eq_true rfl) dX0_init_10 rfl (fun H locs X => ?_)
  have X : g_W E A s H locs ((h, .inr (0, [.ref p8, .int 0])) :: (p8, .inl (E.2.1, 144, .inl (fun _ => 0))) :: ws) := X
  refine lv_aload_n hx hb dX0_init_13 rfl (lv_at hl 0 rfl) ?_
  refine lv_iconst (v := 0) hx hb dX0_init_14 (by decide) ?_
  refine g_put C X g_iX0 tyX0_ok nmX0 0 rfl rfl 1 (by decide) rfl m_120 rfl rfl rfl (Nat.le_of_ble_eq_true rfl) dX0_init_15 rfl (fun H locs X => ?_)
  have X : g_W E A s H locs ((h, .inr (0, [.ref p8, .int 0])) :: (p8, .inl (E.2.1, 144, .inl (fun _ => 0))) :: ws) := X
  exact g_vretP (fun v : Nat => (h, .inr (0, [.ref v, .int 0])) :: (v, .inl (E.2.1, 144, .inl (fun _ => 0))) :: ws) (w1 := p8) (Q' := fun _ => True) C hr hk X trivial dX0_init_18
set_option maxRecDepth 100000 in
set_option maxHeartbeats 4000000 in
theorem cI_Sheet (l : Launch) (E : g_Env) (A : Nat → Prop) (h : Nat) (ws : va_W) : Met l yX5_init (.code yX5_init cX5_init 1 none :: g_tbl) ({ frames := 1, cells := 1, slots := 16, locals := 30 }) (va_Pc [.ref h] (g_at E A ((h, .inr (3, [.null, .int 0, .int 0])) :: ws))) (va_Qv (fun (u' : va_W) => ∃ w' : Nat, u' = ((h, .inr (3, [.ref w', .int 0, .int 0])) :: (w', .inl (E.2.2.2.1, 16, .inr (.inr (.inr (.inr (fun _ => none)))))) :: ws) ∧ True) (g_B E A) A) 1 16 A := by
  refine g_start (rm := { frames := 1, cells := 1, slots := 16, locals := 30 }) (by decide) (Nat.le_of_ble_eq_true rfl) ?_
  intro p e s m below meth c C hr hk hnm ls hl H locs X
  have hx := C.1.1
  have hb := C.1.2.1
  have hl : lv_has ls 1 [(0, .ref h)] := hl
  refine lv_aload_n hx hb dX5_init_0 rfl (lv_at hl 0 rfl) ?_
  refine g_objInit C hl.1 m_133 m_89 m_90 dX5_init_1 (Nat.le_of_ble_eq_true rfl) (Nat.le_of_ble_eq_true rfl) ?_
  refine lv_aload_n hx hb dX5_init_4 rfl (lv_at hl 0 rfl) ?_
  refine lv_bipush (v := 16) hx hb dX5_init_5 (by decide) ?_
  refine g_newq (N := 16) C X m_134 (by decide) (by decide) (by decide) (Nat.le_of_ble_eq_true rfl) (Nat.le_of_ble_eq_true rfl) dX5_init_7 (fun p7 H X => ?_)
  refine W.widen (k := 1) (n := 16) (Nat.le_of_ble_eq_true rfl) (Nat.le_of_ble_eq_true rfl) ?_
  have X := g_W.rotP (ws := ws) [(h, .inr (3, [.null, .int 0, .int 0]))] X
  have X : g_W E A s H locs ((h, .inr (3, [.null, .int 0, .int 0])) :: (p7, .inl (E.2.2.2.1, 16, .inr (.inr (.inr (.inr (fun _ => none)))))) :: ws) := X
  refine g_putF C hnm X g_iX5 tyX5_ok nmX5 0 rfl rfl 0 (by decide) rfl rfl m_136 rfl rfl rfl (Nat.le_of_ble_eq_true rfl) dX5_init_10 rfl (fun H locs X => ?_)
  have X : g_W E A s H locs ((h, .inr (3, [.ref p7, .int 0, .int 0])) :: (p7, .inl (E.2.2.2.1, 16, .inr (.inr (.inr (.inr (fun _ => none)))))) :: ws) := X
  refine lv_aload_n hx hb dX5_init_13 rfl (lv_at hl 0 rfl) ?_
  refine lv_iconst (v := 0) hx hb dX5_init_14 (by decide) ?_
  refine g_put C X g_iX5 tyX5_ok nmX5 0 rfl rfl 1 (by decide) rfl m_137 rfl rfl rfl (Nat.le_of_ble_eq_true rfl) dX5_init_15 rfl (fun H locs X => ?_)
  have X : g_W E A s H locs ((h, .inr (3, [.ref p7, .int 0, .int 0])) :: (p7, .inl (E.2.2.2.1, 16, .inr (.inr (.inr (.inr (fun _ => none)))))) :: ws) := X
  refine lv_aload_n hx hb dX5_init_18 rfl (lv_at hl 0 rfl) ?_
  refine lv_iconst (v := 0) hx hb dX5_init_19 (by decide) ?_
  refine g_put C X g_iX5 tyX5_ok nmX5 0 rfl rfl 2 (by decide) rfl m_139 rfl rfl rfl (Nat.le_of_ble_eq_true rfl) dX5_init_20 rfl (fun H locs X => ?_)
  have X : g_W E A s H locs ((h, .inr (3, [.ref p7, .int 0, .int 0])) :: (p7, .inl (E.2.2.2.1, 16, .inr (.inr (.inr (.inr (fun _ => none)))))) :: ws) := X
  exact g_vretP (fun v : Nat => (h, .inr (3, [.ref v, .int 0, .int 0])) :: (v, .inl (E.2.2.2.1, 16, .inr (.inr (.inr (.inr (fun _ => none)))))) :: ws) (w1 := p7) (Q' := fun _ => True) C hr hk X trivial dX5_init_23
set_option maxRecDepth 100000 in
set_option maxHeartbeats 4000000 in
theorem cI_Stock (l : Launch) (E : g_Env) (A : Nat → Prop) (h : Nat) (ws : va_W) : Met l yX6_init (.code yX6_init cX6_init 2 none :: g_tbl) ({ frames := 1, cells := 2, slots := 2794, locals := 30 }) (va_Pc [.ref h] (g_at E A ((h, .inr (4, [.null, .null, .null, .int 0])) :: ws))) (va_Qv (fun (u' : va_W) => ∃ w' : Nat × Nat, u' = ((h, .inr (4, [.ref w'.1, .ref w'.2, .null, .int 0])) :: (w'.1, .inl (E.2.2.1, 1397, .inr (.inl (g_c 16)))) :: (w'.2, .inl (E.2.2.1, 1397, .inr (.inl (g_c 16)))) :: ws) ∧ True) (g_B E A) A) 2 2794 A := by
  refine g_start (rm := { frames := 1, cells := 2, slots := 2794, locals := 30 }) (by decide) (Nat.le_of_ble_eq_true rfl) ?_
  intro p e s m below meth c C hr hk hnm ls hl H locs X
  have hx := C.1.1
  have hb := C.1.2.1
  have hl : lv_has ls 2 [(0, .ref h)] := hl
  refine lv_aload_n hx hb dX6_init_0 rfl (lv_at hl 0 rfl) ?_
  refine g_objInit C hl.1 m_96 m_89 m_90 dX6_init_1 (Nat.le_of_ble_eq_true rfl) (Nat.le_of_ble_eq_true rfl) ?_
  refine lv_aload_n hx hb dX6_init_4 rfl (lv_at hl 0 rfl) ?_
  refine lv_sipush (v := 1397) hx hb dX6_init_5 (by decide) ?_
  refine g_newJ (N := 1397) C X m_112 (by decide) (by decide) (by decide) (Nat.le_of_ble_eq_true rfl) (Nat.le_of_ble_eq_true rfl) dX6_init_8 (fun p8 H X => ?_)
  refine W.widen (k := 1) (n := 1397) (Nat.le_of_ble_eq_true rfl) (Nat.le_of_ble_eq_true rfl) ?_
  have X := g_W.rotP (ws := ws) [(h, .inr (4, [.null, .null, .null, .int 0]))] X
  have X : g_W E A s H locs ((h, .inr (4, [.null, .null, .null, .int 0])) :: (p8, .inl (E.2.2.1, 1397, .inr (.inl (fun _ => 0)))) :: ws) := X
  refine g_putF C hnm X g_iX6 tyX6_ok nmX6 0 rfl rfl 0 (by decide) rfl rfl m_98 rfl rfl rfl (Nat.le_of_ble_eq_true rfl) dX6_init_10 rfl (fun H locs X => ?_)
  have X : g_W E A s H locs ((h, .inr (4, [.ref p8, .null, .null, .int 0])) :: (p8, .inl (E.2.2.1, 1397, .inr (.inl (fun _ => 0)))) :: ws) := X
  refine lv_aload_n hx hb dX6_init_13 rfl (lv_at hl 0 rfl) ?_
  refine lv_sipush (v := 1397) hx hb dX6_init_14 (by decide) ?_
  refine g_newJ (N := 1397) C X m_112 (by decide) (by decide) (by decide) (Nat.le_of_ble_eq_true rfl) (Nat.le_of_ble_eq_true rfl) dX6_init_17 (fun p17 H X => ?_)
  refine W.widen (k := 2) (n := 2794) (Nat.le_of_ble_eq_true rfl) (Nat.le_of_ble_eq_true rfl) ?_
  have X := g_W.rotP (ws := ws) [(h, .inr (4, [.ref p8, .null, .null, .int 0])), (p8, .inl (E.2.2.1, 1397, .inr (.inl (fun _ => 0))))] X
  have X : g_W E A s H locs ((h, .inr (4, [.ref p8, .null, .null, .int 0])) :: (p8, .inl (E.2.2.1, 1397, .inr (.inl (fun _ => 0)))) :: (p17, .inl (E.2.2.1, 1397, .inr (.inl (fun _ => 0)))) :: ws) := X
  refine g_putF C hnm X g_iX6 tyX6_ok nmX6 0 rfl rfl 1 (by decide) rfl rfl m_99 rfl rfl rfl (Nat.le_of_ble_eq_true rfl) dX6_init_19 rfl (fun H locs X => ?_)
  have X : g_W E A s H locs ((h, .inr (4, [.ref p8, .ref p17, .null, .int 0])) :: (p8, .inl (E.2.2.1, 1397, .inr (.inl (fun _ => 0)))) :: (p17, .inl (E.2.2.1, 1397, .inr (.inl (fun _ => 0)))) :: ws) := X
  refine lv_aload_n hx hb dX6_init_22 rfl (lv_at hl 0 rfl) ?_
  refine lv_null hx hb dX6_init_23 ?_
  refine g_put C X g_iX6 tyX6_ok nmX6 0 rfl rfl 2 (by decide) rfl m_100 rfl rfl rfl (Nat.le_of_ble_eq_true rfl) dX6_init_24 rfl (fun H locs X => ?_)
  have X : g_W E A s H locs ((h, .inr (4, [.ref p8, .ref p17, .null, .int 0])) :: (p8, .inl (E.2.2.1, 1397, .inr (.inl (fun _ => 0)))) :: (p17, .inl (E.2.2.1, 1397, .inr (.inl (fun _ => 0)))) :: ws) := X
  refine lv_aload_n hx hb dX6_init_27 rfl (lv_at hl 0 rfl) ?_
  refine lv_iconst (v := 0) hx hb dX6_init_28 (by decide) ?_
  refine g_put C X g_iX6 tyX6_ok nmX6 0 rfl rfl 3 (by decide) rfl m_101 rfl rfl rfl (Nat.le_of_ble_eq_true rfl) dX6_init_29 rfl (fun H locs X => ?_)
  have X : g_W E A s H locs ((h, .inr (4, [.ref p8, .ref p17, .null, .int 0])) :: (p8, .inl (E.2.2.1, 1397, .inr (.inl (fun _ => 0)))) :: (p17, .inl (E.2.2.1, 1397, .inr (.inl (fun _ => 0)))) :: ws) := X
  have key : ∀ (d i : Nat), i + d = 16 → ∀ (ls : Array Slot) (H : Heap) (locs : List Loc), lv_has ls 2 [(1, .int (nI i)), (0, .ref h)] → g_W E A s H locs ((h, .inr (4, [.ref p8, .ref p17, .null, .int 0])) :: (p8, .inl (E.2.2.1, 1397, .inr (.inl (g_c i)))) :: (p17, .inl (E.2.2.1, 1397, .inr (.inl (g_c i)))) :: ws) → W p l e ({ frames := 1, cells := 2, slots := 2794, locals := 30 }) s m ([.ref h] : List Value).toArray below meth c H locs 2 2794 (MQ below (va_Qv (fun (u' : va_W) => ∃ w' : Nat × Nat, u' = ((h, .inr (4, [.ref w'.1, .ref w'.2, .null, .int 0])) :: (w'.1, .inl (E.2.2.1, 1397, .inr (.inl (g_c 16)))) :: (w'.2, .inl (E.2.2.1, 1397, .inr (.inl (g_c 16)))) :: ws) ∧ True) (g_B E A) A) ([.ref h] : List Value).toArray s 2 2794 A) (F0 m 34 ls []) := by
    intro d
    induction d with
    | zero =>
      intro i hi ls H locs hl X
      have hi16 : i = 16 := by omega
      subst hi16
      refine lv_iload_n hx hb dX6_init_34 rfl (lv_at hl 0 rfl) ?_
      refine lv_bipush (v := 16) hx hb dX6_init_35 (by decide) ?_
      refine lv_icmp_ge (tgt := 64) hx hb dX6_init_37 (by decide) (fun _ => ?_) (fun c2 => absurd (Int32.le_refl _) c2)
      exact g_vretP (fun v : Nat × Nat => (h, .inr (4, [.ref v.1, .ref v.2, .null, .int 0])) :: (v.1, .inl (E.2.2.1, 1397, .inr (.inl (g_c 16)))) :: (v.2, .inl (E.2.2.1, 1397, .inr (.inl (g_c 16)))) :: ws) (w1 := (p8, p17)) (Q' := fun _ => True) C hr hk X trivial dX6_init_64
    | succ d ih =>
      intro i hi ls H locs hl X
      refine lv_iload_n hx hb dX6_init_34 rfl (lv_at hl 0 rfl) ?_
      refine lv_bipush (v := 16) hx hb dX6_init_35 (by decide) ?_
      refine lv_icmp_ge (tgt := 64) hx hb dX6_init_37 (by decide) (fun c2 => absurd c2 (nI_ge (a := i) (b := 16) (by omega) (by decide))) (fun _ => ?_)
      have hin : vp_in (nI i) 1397 := vp_in_nI (by omega) (by decide)
      have hcl : (nI i).toNatClampNeg = i := nI_clamp (by omega)
      refine lv_aload_n hx hb dX6_init_40 rfl (lv_at hl 1 rfl) ?_
      refine g_get C X g_iX6 0 rfl rfl 0 (by decide) rfl m_98 rfl dX6_init_41 ?_
      refine lv_iload_n hx hb dX6_init_44 rfl (lv_at hl 0 rfl) ?_
      refine lv_ldc2 (v := -1) hx hb C.1.2.2.2.1 (C.1.2.2.2.2 _ m_97) dX6_init_45 ?_
      refine g_last C X 1 rfl hin dX6_init_48 rfl (fun H locs X => ?_)
      refine lv_aload_n hx hb dX6_init_49 rfl (lv_at hl 1 rfl) ?_
      refine g_get C X g_iX6 0 rfl rfl 1 (by decide) rfl m_99 rfl dX6_init_50 ?_
      refine lv_iload_n hx hb dX6_init_53 rfl (lv_at hl 0 rfl) ?_
      refine lv_ldc2 (v := -1) hx hb C.1.2.2.2.1 (C.1.2.2.2.2 _ m_97) dX6_init_54 ?_
      refine g_last C X 2 rfl hin dX6_init_57 rfl (fun H locs X => ?_)
      have X : g_W E A s H locs ((h, .inr (4, [.ref p8, .ref p17, .null, .int 0])) :: (p8, .inl (E.2.2.1, 1397, .inr (.inl (vp_updL (g_c i) (nI i).toNatClampNeg (-1))))) :: (p17, .inl (E.2.2.1, 1397, .inr (.inl (vp_updL (g_c i) (nI i).toNatClampNeg (-1))))) :: ws) := X
      rw [hcl, g_c_up] at X
      refine lv_iinc (v := nI (i + 1)) (lv' := [(1, .int (nI (i + 1))), (0, .ref h)]) hx hb dX6_init_58 hl (k := 0) rfl (nI_1 i) (by decide) rfl (fun ls hl => ?_)
      refine lv_goto (tgt := 34) hx hb dX6_init_61 (by decide) ?_
      exact ih (i + 1) (by omega) ls H locs hl X
  refine lv_iconst (v := 0) hx hb dX6_init_32 (by decide) ?_
  refine lv_istore_n (lv' := [(1, .int 0), (0, .ref h)]) hx hb dX6_init_33 rfl hl (by decide) rfl (fun ls hl => ?_)
  have X : g_W E A s H locs ((h, .inr (4, [.ref p8, .ref p17, .null, .int 0])) :: (p8, .inl (E.2.2.1, 1397, .inr (.inl (g_c 0)))) :: (p17, .inl (E.2.2.1, 1397, .inr (.inl (g_c 0)))) :: ws) := by rw [g_c_0]; exact X
  exact key 16 0 (by omega) ls H locs hl X
set_option maxRecDepth 100000 in
set_option maxHeartbeats 4000000 in
theorem cI_Hall (l : Launch) (E : g_Env) (A : Nat → Prop) (h : Nat) (ws : va_W) : Met l yX7_init (.code yX7_init cX7_init 1 none :: g_tbl) ({ frames := 2, cells := 7, slots := 2963, locals := 60 }) (va_Pc [.ref h] (g_at E A ((h, .inr (5, [.null, .null, .null, .int 0])) :: ws))) (va_Qv (fun (u' : va_W) => ∃ w' : Nat → Nat, u' = (wsC E w' (cs0 ws)) ∧ w' 0 = h) (g_B E A) A) 7 2963 A := by
  refine g_start (rm := { frames := 2, cells := 7, slots := 2963, locals := 60 }) (by decide) (Nat.le_of_ble_eq_true rfl) ?_
  intro p e s m below meth c C hr hk hnm ls hl H locs X
  have hx := C.1.1
  have hb := C.1.2.1
  have hl : lv_has ls 1 [(0, .ref h)] := hl
  refine lv_aload_n hx hb dX7_init_0 rfl (lv_at hl 0 rfl) ?_
  refine g_objInit C hl.1 m_88 m_89 m_90 dX7_init_1 (Nat.le_of_ble_eq_true rfl) (Nat.le_of_ble_eq_true rfl) ?_
  refine lv_aload_n hx hb dX7_init_4 rfl (lv_at hl 0 rfl) ?_
  refine g_new (ci := 4) (fs := [.null, .null, .null, .int 0]) C X g_iX6 tyX6_ok m_91 m_92 m_73 rfl (fun j hj => by rcases (show j = 0 ∨ j = 1 ∨ j = 2 ∨ j = 3 by omega) with rfl | rfl | rfl | rfl <;> rfl) (Nat.le_of_ble_eq_true rfl) (Nat.le_of_ble_eq_true rfl) dX7_init_5 (fun qX6 H X => ?_)
  refine W.widen (k := 1) (n := 4) (Nat.le_of_ble_eq_true rfl) (Nat.le_of_ble_eq_true rfl) ?_
  have X := g_W.rotR X
  refine lv_dup hx hb dX7_init_8 rfl ?_
  refine g_callvP (fun v : Nat × Nat => (qX6, .inr (4, [.ref v.1, .ref v.2, .null, .int 0])) :: (v.1, .inl (E.2.2.1, 1397, .inr (.inl (g_c 16)))) :: (v.2, .inl (E.2.2.1, 1397, .inr (.inl (g_c 16)))) :: ((h, .inr (5, [.null, .null, .null, .int 0])) :: ws)) X (g_runI (As := []) (rest := [.ref qX6, .ref h]) C X (cI_Stock l E A qX6 ((h, .inr (5, [.null, .null, .null, .int 0])) :: ws)) kX6_init m_93 hl.1 rfl ⟨Nat.le_of_ble_eq_true rfl, Nat.le_of_ble_eq_true rfl⟩ rfl (Nat.le_of_ble_eq_true rfl) dX7_init_9 ⟨Nat.le_of_ble_eq_true rfl, Nat.le_of_ble_eq_true rfl⟩) (fun H locs v0 _ X => ?_)
  obtain ⟨c2, c3⟩ := v0
  refine W.widen (k := 3) (n := 2798) (Nat.le_of_ble_eq_true rfl) (Nat.le_of_ble_eq_true rfl) ?_
  have X : g_W E A s H locs ((qX6, .inr (4, [.ref c2, .ref c3, .null, .int 0])) :: (c2, .inl (E.2.2.1, 1397, .inr (.inl (g_c 16)))) :: (c3, .inl (E.2.2.1, 1397, .inr (.inl (g_c 16)))) :: ((h, .inr (5, [.null, .null, .null, .int 0])) :: ws)) := X
  refine g_putF C hnm X g_iX7 tyX7_ok nmX7 3 rfl rfl 0 (by decide) rfl rfl m_148 rfl rfl rfl (Nat.le_of_ble_eq_true rfl) dX7_init_12 rfl (fun H locs X => ?_)
  have X : g_W E A s H locs ((qX6, .inr (4, [.ref c2, .ref c3, .null, .int 0])) :: (c2, .inl (E.2.2.1, 1397, .inr (.inl (g_c 16)))) :: (c3, .inl (E.2.2.1, 1397, .inr (.inl (g_c 16)))) :: (h, .inr (5, [.ref qX6, .null, .null, .int 0])) :: ws) := X
  refine lv_aload_n hx hb dX7_init_15 rfl (lv_at hl 0 rfl) ?_
  refine g_new (ci := 0) (fs := [.null, .int 0]) C X g_iX0 tyX0_ok m_113 m_114 m_74 rfl (fun j hj => by rcases (show j = 0 ∨ j = 1 by omega) with rfl | rfl <;> rfl) (Nat.le_of_ble_eq_true rfl) (Nat.le_of_ble_eq_true rfl) dX7_init_16 (fun qX0 H X => ?_)
  refine W.widen (k := 4) (n := 2800) (Nat.le_of_ble_eq_true rfl) (Nat.le_of_ble_eq_true rfl) ?_
  have X := g_W.rotR X
  refine lv_dup hx hb dX7_init_19 rfl ?_
  refine g_callvP (fun v : Nat => (qX0, .inr (0, [.ref v, .int 0])) :: (v, .inl (E.2.1, 144, .inl (fun _ => 0))) :: ((qX6, .inr (4, [.ref c2, .ref c3, .null, .int 0])) :: (c2, .inl (E.2.2.1, 1397, .inr (.inl (g_c 16)))) :: (c3, .inl (E.2.2.1, 1397, .inr (.inl (g_c 16)))) :: (h, .inr (5, [.ref qX6, .null, .null, .int 0])) :: ws)) X (g_runIN (As := []) (rest := [.ref qX0, .ref h]) C X (cI_Chain l E A qX0 ((qX6, .inr (4, [.ref c2, .ref c3, .null, .int 0])) :: (c2, .inl (E.2.2.1, 1397, .inr (.inl (g_c 16)))) :: (c3, .inl (E.2.2.1, 1397, .inr (.inl (g_c 16)))) :: (h, .inr (5, [.ref qX6, .null, .null, .int 0])) :: ws)) kX0_init n_1 hl.1 rfl ⟨Nat.le_of_ble_eq_true rfl, Nat.le_of_ble_eq_true rfl⟩ rfl (Nat.le_of_ble_eq_true rfl) dX7_init_20 ⟨Nat.le_of_ble_eq_true rfl, Nat.le_of_ble_eq_true rfl⟩) (fun H locs c5 _ X => ?_)
  refine W.widen (k := 5) (n := 2944) (Nat.le_of_ble_eq_true rfl) (Nat.le_of_ble_eq_true rfl) ?_
  have X : g_W E A s H locs ((qX0, .inr (0, [.ref c5, .int 0])) :: (c5, .inl (E.2.1, 144, .inl (fun _ => 0))) :: ((qX6, .inr (4, [.ref c2, .ref c3, .null, .int 0])) :: (c2, .inl (E.2.2.1, 1397, .inr (.inl (g_c 16)))) :: (c3, .inl (E.2.2.1, 1397, .inr (.inl (g_c 16)))) :: (h, .inr (5, [.ref qX6, .null, .null, .int 0])) :: ws)) := X
  refine g_putF C hnm X g_iX7 tyX7_ok nmX7 5 rfl rfl 1 (by decide) rfl rfl m_149 rfl rfl rfl (Nat.le_of_ble_eq_true rfl) dX7_init_23 rfl (fun H locs X => ?_)
  have X : g_W E A s H locs ((qX0, .inr (0, [.ref c5, .int 0])) :: (c5, .inl (E.2.1, 144, .inl (fun _ => 0))) :: (qX6, .inr (4, [.ref c2, .ref c3, .null, .int 0])) :: (c2, .inl (E.2.2.1, 1397, .inr (.inl (g_c 16)))) :: (c3, .inl (E.2.2.1, 1397, .inr (.inl (g_c 16)))) :: (h, .inr (5, [.ref qX6, .ref qX0, .null, .int 0])) :: ws) := X
  refine lv_aload_n hx hb dX7_init_26 rfl (lv_at hl 0 rfl) ?_
  refine g_new (ci := 3) (fs := [.null, .int 0, .int 0]) C X g_iX5 tyX5_ok m_128 m_129 m_75 rfl (fun j hj => by rcases (show j = 0 ∨ j = 1 ∨ j = 2 by omega) with rfl | rfl | rfl <;> rfl) (Nat.le_of_ble_eq_true rfl) (Nat.le_of_ble_eq_true rfl) dX7_init_27 (fun qX5 H X => ?_)
  refine W.widen (k := 6) (n := 2947) (Nat.le_of_ble_eq_true rfl) (Nat.le_of_ble_eq_true rfl) ?_
  have X := g_W.rotR X
  refine lv_dup hx hb dX7_init_30 rfl ?_
  refine g_callvP (fun v : Nat => (qX5, .inr (3, [.ref v, .int 0, .int 0])) :: (v, .inl (E.2.2.2.1, 16, .inr (.inr (.inr (.inr (fun _ => none)))))) :: ((qX0, .inr (0, [.ref c5, .int 0])) :: (c5, .inl (E.2.1, 144, .inl (fun _ => 0))) :: (qX6, .inr (4, [.ref c2, .ref c3, .null, .int 0])) :: (c2, .inl (E.2.2.1, 1397, .inr (.inl (g_c 16)))) :: (c3, .inl (E.2.2.1, 1397, .inr (.inl (g_c 16)))) :: (h, .inr (5, [.ref qX6, .ref qX0, .null, .int 0])) :: ws)) X (g_runIN (As := []) (rest := [.ref qX5, .ref h]) C X (cI_Sheet l E A qX5 ((qX0, .inr (0, [.ref c5, .int 0])) :: (c5, .inl (E.2.1, 144, .inl (fun _ => 0))) :: (qX6, .inr (4, [.ref c2, .ref c3, .null, .int 0])) :: (c2, .inl (E.2.2.1, 1397, .inr (.inl (g_c 16)))) :: (c3, .inl (E.2.2.1, 1397, .inr (.inl (g_c 16)))) :: (h, .inr (5, [.ref qX6, .ref qX0, .null, .int 0])) :: ws)) kX5_init n_3 hl.1 rfl ⟨Nat.le_of_ble_eq_true rfl, Nat.le_of_ble_eq_true rfl⟩ rfl (Nat.le_of_ble_eq_true rfl) dX7_init_31 ⟨Nat.le_of_ble_eq_true rfl, Nat.le_of_ble_eq_true rfl⟩) (fun H locs c7 _ X => ?_)
  refine W.widen (k := 7) (n := 2963) (Nat.le_of_ble_eq_true rfl) (Nat.le_of_ble_eq_true rfl) ?_
  have X : g_W E A s H locs ((qX5, .inr (3, [.ref c7, .int 0, .int 0])) :: (c7, .inl (E.2.2.2.1, 16, .inr (.inr (.inr (.inr (fun _ => none)))))) :: ((qX0, .inr (0, [.ref c5, .int 0])) :: (c5, .inl (E.2.1, 144, .inl (fun _ => 0))) :: (qX6, .inr (4, [.ref c2, .ref c3, .null, .int 0])) :: (c2, .inl (E.2.2.1, 1397, .inr (.inl (g_c 16)))) :: (c3, .inl (E.2.2.1, 1397, .inr (.inl (g_c 16)))) :: (h, .inr (5, [.ref qX6, .ref qX0, .null, .int 0])) :: ws)) := X
  refine g_putF C hnm X g_iX7 tyX7_ok nmX7 7 rfl rfl 2 (by decide) rfl rfl m_150 rfl rfl rfl (Nat.le_of_ble_eq_true rfl) dX7_init_34 rfl (fun H locs X => ?_)
  refine lv_aload_n hx hb dX7_init_37 rfl (lv_at hl 0 rfl) ?_
  refine lv_iconst (v := 0) hx hb dX7_init_38 (by decide) ?_
  refine g_put C X g_iX7 tyX7_ok nmX7 7 rfl rfl 3 (by decide) rfl m_151 rfl rfl rfl (Nat.le_of_ble_eq_true rfl) dX7_init_39 rfl (fun H locs X => ?_)
  have X : g_W E A s H locs ([(qX5, .inr (3, [.ref c7, .int 0, .int 0])), (c7, .inl (E.2.2.2.1, 16, .inr (.inr (.inr (.inr (fun _ => none)))))), (qX0, .inr (0, [.ref c5, .int 0])), (c5, .inl (E.2.1, 144, .inl (fun _ => 0))), (qX6, .inr (4, [.ref c2, .ref c3, .null, .int 0])), (c2, .inl (E.2.2.1, 1397, .inr (.inl (g_c 16)))), (c3, .inl (E.2.2.1, 1397, .inr (.inl (g_c 16)))), (h, .inr (5, [.ref qX6, .ref qX0, .ref qX5, .int 0]))] ++ ws) := X
  have X := g_W.permP (pre1 := [(qX5, .inr (3, [.ref c7, .int 0, .int 0])), (c7, .inl (E.2.2.2.1, 16, .inr (.inr (.inr (.inr (fun _ => none)))))), (qX0, .inr (0, [.ref c5, .int 0])), (c5, .inl (E.2.1, 144, .inl (fun _ => 0))), (qX6, .inr (4, [.ref c2, .ref c3, .null, .int 0])), (c2, .inl (E.2.2.1, 1397, .inr (.inl (g_c 16)))), (c3, .inl (E.2.2.1, 1397, .inr (.inl (g_c 16)))), (h, .inr (5, [.ref qX6, .ref qX0, .ref qX5, .int 0]))]) (pre2 := [(h, .inr (5, [.ref qX6, .ref qX0, .ref qX5, .int 0])), (qX6, .inr (4, [.ref c2, .ref c3, .null, .int 0])), (c2, .inl (E.2.2.1, 1397, .inr (.inl (g_c 16)))), (c3, .inl (E.2.2.1, 1397, .inr (.inl (g_c 16)))), (qX0, .inr (0, [.ref c5, .int 0])), (c5, .inl (E.2.1, 144, .inl (fun _ => 0))), (qX5, .inr (3, [.ref c7, .int 0, .int 0])), (c7, .inl (E.2.2.2.1, 16, .inr (.inr (.inr (.inr (fun _ => none))))))]) [7, 4, 5, 6, 2, 3, 0, 1] rfl (by decide) rfl X
  exact g_vretP (fun v : Nat → Nat => wsC E v (cs0 ws)) (w1 := (fun k => match k with | 0 => h | 1 => qX6 | 2 => c2 | 3 => c3 | 4 => qX0 | 5 => c5 | 6 => qX5 | _ => c7 : Nat → Nat)) (Q' := fun v => v 0 = h) C hr hk X rfl dX7_init_42
set_option maxRecDepth 100000 in
set_option maxHeartbeats 4000000 in
theorem cI_Model (l : Launch) (E : g_Env) (A : Nat → Prop) (h : Nat) (ws : va_W) : Met l yX8_init (.code yX8_init cX8_init 1 none :: g_tbl) ({ frames := 1, cells := 12, slots := 9775, locals := 30 }) (va_Pc [.ref h] (g_at E A ((h, .inr (6, [.null, .null, .null, .null, .null, .null, .null, .null, .int 0, .null, .null, .int 0, .int 0, .int 0, .int 0, .int 0, .null, .null])) :: ws))) (va_Qv (fun (u' : va_W) => ∃ w' : Nat → Nat, u' = (wsR E h w' rs0 ++ ws) ∧ True) (g_B E A) A) 12 9775 A := by
  refine g_start (rm := { frames := 1, cells := 12, slots := 9775, locals := 30 }) (by decide) (Nat.le_of_ble_eq_true rfl) ?_
  intro p e s m below meth c C hr hk hnm ls hl H locs X
  have hx := C.1.1
  have hb := C.1.2.1
  have hl : lv_has ls 1 [(0, .ref h)] := hl
  refine lv_aload_n hx hb dX8_init_0 rfl (lv_at hl 0 rfl) ?_
  refine g_objInit C hl.1 m_640 m_89 m_90 dX8_init_1 (Nat.le_of_ble_eq_true rfl) (Nat.le_of_ble_eq_true rfl) ?_
  refine lv_aload_n hx hb dX8_init_4 rfl (lv_at hl 0 rfl) ?_
  refine lv_bipush (v := 13) hx hb dX8_init_5 (by decide) ?_
  refine g_newI (N := 13) C X m_127 (by decide) (by decide) (by decide) (Nat.le_of_ble_eq_true rfl) (Nat.le_of_ble_eq_true rfl) dX8_init_7 (fun p7 H X => ?_)
  refine W.widen (k := 1) (n := 13) (Nat.le_of_ble_eq_true rfl) (Nat.le_of_ble_eq_true rfl) ?_
  have X := g_W.rotP (ws := ws) [(h, .inr (6, [.null, .null, .null, .null, .null, .null, .null, .null, .int 0, .null, .null, .int 0, .int 0, .int 0, .int 0, .int 0, .null, .null]))] X
  have X : g_W E A s H locs ((h, .inr (6, [.null, .null, .null, .null, .null, .null, .null, .null, .int 0, .null, .null, .int 0, .int 0, .int 0, .int 0, .int 0, .null, .null])) :: (p7, .inl (E.2.1, 13, .inl (fun _ => 0))) :: ws) := X
  refine lv_dup hx hb dX8_init_9 rfl ?_
  refine lv_iconst (v := 0) hx hb dX8_init_10 (by decide) ?_
  refine lv_iconst (v := (-1)) hx hb dX8_init_11 (by decide) ?_
  refine g_iast C X 1 rfl (by unfold vp_in; decide) dX8_init_12 rfl (fun H locs X => ?_)
  refine lv_dup hx hb dX8_init_13 rfl ?_
  refine lv_iconst (v := 1) hx hb dX8_init_14 (by decide) ?_
  refine lv_iconst (v := 0) hx hb dX8_init_15 (by decide) ?_
  refine g_iast C X 1 rfl (by unfold vp_in; decide) dX8_init_16 rfl (fun H locs X => ?_)
  refine lv_dup hx hb dX8_init_17 rfl ?_
  refine lv_iconst (v := 2) hx hb dX8_init_18 (by decide) ?_
  refine lv_iconst (v := 1) hx hb dX8_init_19 (by decide) ?_
  refine g_iast C X 1 rfl (by unfold vp_in; decide) dX8_init_20 rfl (fun H locs X => ?_)
  refine lv_dup hx hb dX8_init_21 rfl ?_
  refine lv_iconst (v := 3) hx hb dX8_init_22 (by decide) ?_
  refine lv_iconst (v := 2) hx hb dX8_init_23 (by decide) ?_
  refine g_iast C X 1 rfl (by unfold vp_in; decide) dX8_init_24 rfl (fun H locs X => ?_)
  refine lv_dup hx hb dX8_init_25 rfl ?_
  refine lv_iconst (v := 4) hx hb dX8_init_26 (by decide) ?_
  refine lv_iconst (v := 3) hx hb dX8_init_27 (by decide) ?_
  refine g_iast C X 1 rfl (by unfold vp_in; decide) dX8_init_28 rfl (fun H locs X => ?_)
  refine lv_dup hx hb dX8_init_29 rfl ?_
  refine lv_iconst (v := 5) hx hb dX8_init_30 (by decide) ?_
  refine lv_iconst (v := 0) hx hb dX8_init_31 (by decide) ?_
  refine g_iast C X 1 rfl (by unfold vp_in; decide) dX8_init_32 rfl (fun H locs X => ?_)
  refine lv_dup hx hb dX8_init_33 rfl ?_
  refine lv_bipush (v := 6) hx hb dX8_init_34 (by decide) ?_
  refine lv_iconst (v := 5) hx hb dX8_init_36 (by decide) ?_
  refine g_iast C X 1 rfl (by unfold vp_in; decide) dX8_init_37 rfl (fun H locs X => ?_)
  refine lv_dup hx hb dX8_init_38 rfl ?_
  refine lv_bipush (v := 7) hx hb dX8_init_39 (by decide) ?_
  refine lv_bipush (v := 6) hx hb dX8_init_41 (by decide) ?_
  refine g_iast C X 1 rfl (by unfold vp_in; decide) dX8_init_43 rfl (fun H locs X => ?_)
  refine lv_dup hx hb dX8_init_44 rfl ?_
  refine lv_bipush (v := 8) hx hb dX8_init_45 (by decide) ?_
  refine lv_bipush (v := 7) hx hb dX8_init_47 (by decide) ?_
  refine g_iast C X 1 rfl (by unfold vp_in; decide) dX8_init_49 rfl (fun H locs X => ?_)
  refine lv_dup hx hb dX8_init_50 rfl ?_
  refine lv_bipush (v := 9) hx hb dX8_init_51 (by decide) ?_
  refine lv_iconst (v := 0) hx hb dX8_init_53 (by decide) ?_
  refine g_iast C X 1 rfl (by unfold vp_in; decide) dX8_init_54 rfl (fun H locs X => ?_)
  refine lv_dup hx hb dX8_init_55 rfl ?_
  refine lv_bipush (v := 10) hx hb dX8_init_56 (by decide) ?_
  refine lv_bipush (v := 9) hx hb dX8_init_58 (by decide) ?_
  refine g_iast C X 1 rfl (by unfold vp_in; decide) dX8_init_60 rfl (fun H locs X => ?_)
  refine lv_dup hx hb dX8_init_61 rfl ?_
  refine lv_bipush (v := 11) hx hb dX8_init_62 (by decide) ?_
  refine lv_bipush (v := 12) hx hb dX8_init_64 (by decide) ?_
  refine g_iast C X 1 rfl (by unfold vp_in; decide) dX8_init_66 rfl (fun H locs X => ?_)
  refine lv_dup hx hb dX8_init_67 rfl ?_
  refine lv_bipush (v := 12) hx hb dX8_init_68 (by decide) ?_
  refine lv_iconst (v := (-1)) hx hb dX8_init_70 (by decide) ?_
  refine g_iast C X 1 rfl (by unfold vp_in; decide) dX8_init_71 rfl (fun H locs X => ?_)
  refine g_putF C hnm X g_iX8 tyX8_ok nmX8 0 rfl rfl 0 (by decide) rfl rfl m_641 rfl rfl rfl (Nat.le_of_ble_eq_true rfl) dX8_init_72 rfl (fun H locs X => ?_)
  have X : g_W E A s H locs ((h, .inr (6, [.ref p7, .null, .null, .null, .null, .null, .null, .null, .int 0, .null, .null, .int 0, .int 0, .int 0, .int 0, .int 0, .null, .null])) :: (p7, .inl (E.2.1, 13, .inl (upd (upd (upd (upd (upd (upd (upd (upd (upd (upd (upd (upd (upd (fun _ => 0) 0 (-1)) 1 (0)) 2 (1)) 3 (2)) 4 (3)) 5 (0)) 6 (5)) 7 (6)) 8 (7)) 9 (0)) 10 (9)) 11 (12)) 12 (-1)))) :: ws) := X
  refine lv_aload_n hx hb dX8_init_75 rfl (lv_at hl 0 rfl) ?_
  refine lv_bipush (v := 8) hx hb dX8_init_76 (by decide) ?_
  refine g_newI (N := 8) C X m_127 (by decide) (by decide) (by decide) (Nat.le_of_ble_eq_true rfl) (Nat.le_of_ble_eq_true rfl) dX8_init_78 (fun p78 H X => ?_)
  refine W.widen (k := 2) (n := 21) (Nat.le_of_ble_eq_true rfl) (Nat.le_of_ble_eq_true rfl) ?_
  have X := g_W.rotP (ws := ws) [(h, .inr (6, [.ref p7, .null, .null, .null, .null, .null, .null, .null, .int 0, .null, .null, .int 0, .int 0, .int 0, .int 0, .int 0, .null, .null])), (p7, .inl (E.2.1, 13, .inl (upd (upd (upd (upd (upd (upd (upd (upd (upd (upd (upd (upd (upd (fun _ => 0) 0 (-1)) 1 (0)) 2 (1)) 3 (2)) 4 (3)) 5 (0)) 6 (5)) 7 (6)) 8 (7)) 9 (0)) 10 (9)) 11 (12)) 12 (-1))))] X
  have X : g_W E A s H locs ((h, .inr (6, [.ref p7, .null, .null, .null, .null, .null, .null, .null, .int 0, .null, .null, .int 0, .int 0, .int 0, .int 0, .int 0, .null, .null])) :: (p7, .inl (E.2.1, 13, .inl (upd (upd (upd (upd (upd (upd (upd (upd (upd (upd (upd (upd (upd (fun _ => 0) 0 (-1)) 1 (0)) 2 (1)) 3 (2)) 4 (3)) 5 (0)) 6 (5)) 7 (6)) 8 (7)) 9 (0)) 10 (9)) 11 (12)) 12 (-1)))) :: (p78, .inl (E.2.1, 8, .inl (fun _ => 0))) :: ws) := X
  refine lv_dup hx hb dX8_init_80 rfl ?_
  refine lv_iconst (v := 0) hx hb dX8_init_81 (by decide) ?_
  refine lv_iconst (v := 0) hx hb dX8_init_82 (by decide) ?_
  refine g_iast C X 2 rfl (by unfold vp_in; decide) dX8_init_83 rfl (fun H locs X => ?_)
  refine lv_dup hx hb dX8_init_84 rfl ?_
  refine lv_iconst (v := 1) hx hb dX8_init_85 (by decide) ?_
  refine lv_iconst (v := 1) hx hb dX8_init_86 (by decide) ?_
  refine g_iast C X 2 rfl (by unfold vp_in; decide) dX8_init_87 rfl (fun H locs X => ?_)
  refine lv_dup hx hb dX8_init_88 rfl ?_
  refine lv_iconst (v := 2) hx hb dX8_init_89 (by decide) ?_
  refine lv_iconst (v := 2) hx hb dX8_init_90 (by decide) ?_
  refine g_iast C X 2 rfl (by unfold vp_in; decide) dX8_init_91 rfl (fun H locs X => ?_)
  refine lv_dup hx hb dX8_init_92 rfl ?_
  refine lv_iconst (v := 3) hx hb dX8_init_93 (by decide) ?_
  refine lv_bipush (v := 7) hx hb dX8_init_94 (by decide) ?_
  refine g_iast C X 2 rfl (by unfold vp_in; decide) dX8_init_96 rfl (fun H locs X => ?_)
  refine lv_dup hx hb dX8_init_97 rfl ?_
  refine lv_iconst (v := 4) hx hb dX8_init_98 (by decide) ?_
  refine lv_bipush (v := 12) hx hb dX8_init_99 (by decide) ?_
  refine g_iast C X 2 rfl (by unfold vp_in; decide) dX8_init_101 rfl (fun H locs X => ?_)
  refine lv_dup hx hb dX8_init_102 rfl ?_
  refine lv_iconst (v := 5) hx hb dX8_init_103 (by decide) ?_
  refine lv_bipush (v := 10) hx hb dX8_init_104 (by decide) ?_
  refine g_iast C X 2 rfl (by unfold vp_in; decide) dX8_init_106 rfl (fun H locs X => ?_)
  refine lv_dup hx hb dX8_init_107 rfl ?_
  refine lv_bipush (v := 6) hx hb dX8_init_108 (by decide) ?_
  refine lv_iconst (v := 0) hx hb dX8_init_110 (by decide) ?_
  refine g_iast C X 2 rfl (by unfold vp_in; decide) dX8_init_111 rfl (fun H locs X => ?_)
  refine lv_dup hx hb dX8_init_112 rfl ?_
  refine lv_bipush (v := 7) hx hb dX8_init_113 (by decide) ?_
  refine lv_iconst (v := 2) hx hb dX8_init_115 (by decide) ?_
  refine g_iast C X 2 rfl (by unfold vp_in; decide) dX8_init_116 rfl (fun H locs X => ?_)
  refine g_putF C hnm X g_iX8 tyX8_ok nmX8 0 rfl rfl 1 (by decide) rfl rfl m_642 rfl rfl rfl (Nat.le_of_ble_eq_true rfl) dX8_init_117 rfl (fun H locs X => ?_)
  have X : g_W E A s H locs ((h, .inr (6, [.ref p7, .ref p78, .null, .null, .null, .null, .null, .null, .int 0, .null, .null, .int 0, .int 0, .int 0, .int 0, .int 0, .null, .null])) :: (p7, .inl (E.2.1, 13, .inl (upd (upd (upd (upd (upd (upd (upd (upd (upd (upd (upd (upd (upd (fun _ => 0) 0 (-1)) 1 (0)) 2 (1)) 3 (2)) 4 (3)) 5 (0)) 6 (5)) 7 (6)) 8 (7)) 9 (0)) 10 (9)) 11 (12)) 12 (-1)))) :: (p78, .inl (E.2.1, 8, .inl (upd (upd (upd (upd (upd (upd (upd (upd (fun _ => 0) 0 (0)) 1 (1)) 2 (2)) 3 (7)) 4 (12)) 5 (10)) 6 (0)) 7 (2)))) :: ws) := X
  refine lv_aload_n hx hb dX8_init_120 rfl (lv_at hl 0 rfl) ?_
  refine lv_sipush (v := 557) hx hb dX8_init_121 (by decide) ?_
  refine g_newI (N := 557) C X m_127 (by decide) (by decide) (by decide) (Nat.le_of_ble_eq_true rfl) (Nat.le_of_ble_eq_true rfl) dX8_init_124 (fun p124 H X => ?_)
  refine W.widen (k := 3) (n := 578) (Nat.le_of_ble_eq_true rfl) (Nat.le_of_ble_eq_true rfl) ?_
  have X := g_W.rotP (ws := ws) [(h, .inr (6, [.ref p7, .ref p78, .null, .null, .null, .null, .null, .null, .int 0, .null, .null, .int 0, .int 0, .int 0, .int 0, .int 0, .null, .null])), (p7, .inl (E.2.1, 13, .inl (upd (upd (upd (upd (upd (upd (upd (upd (upd (upd (upd (upd (upd (fun _ => 0) 0 (-1)) 1 (0)) 2 (1)) 3 (2)) 4 (3)) 5 (0)) 6 (5)) 7 (6)) 8 (7)) 9 (0)) 10 (9)) 11 (12)) 12 (-1)))), (p78, .inl (E.2.1, 8, .inl (upd (upd (upd (upd (upd (upd (upd (upd (fun _ => 0) 0 (0)) 1 (1)) 2 (2)) 3 (7)) 4 (12)) 5 (10)) 6 (0)) 7 (2))))] X
  have X : g_W E A s H locs ((h, .inr (6, [.ref p7, .ref p78, .null, .null, .null, .null, .null, .null, .int 0, .null, .null, .int 0, .int 0, .int 0, .int 0, .int 0, .null, .null])) :: (p7, .inl (E.2.1, 13, .inl (upd (upd (upd (upd (upd (upd (upd (upd (upd (upd (upd (upd (upd (fun _ => 0) 0 (-1)) 1 (0)) 2 (1)) 3 (2)) 4 (3)) 5 (0)) 6 (5)) 7 (6)) 8 (7)) 9 (0)) 10 (9)) 11 (12)) 12 (-1)))) :: (p78, .inl (E.2.1, 8, .inl (upd (upd (upd (upd (upd (upd (upd (upd (fun _ => 0) 0 (0)) 1 (1)) 2 (2)) 3 (7)) 4 (12)) 5 (10)) 6 (0)) 7 (2)))) :: (p124, .inl (E.2.1, 557, .inl (fun _ => 0))) :: ws) := X
  refine g_putF C hnm X g_iX8 tyX8_ok nmX8 0 rfl rfl 2 (by decide) rfl rfl m_643 rfl rfl rfl (Nat.le_of_ble_eq_true rfl) dX8_init_126 rfl (fun H locs X => ?_)
  have X : g_W E A s H locs ((h, .inr (6, [.ref p7, .ref p78, .ref p124, .null, .null, .null, .null, .null, .int 0, .null, .null, .int 0, .int 0, .int 0, .int 0, .int 0, .null, .null])) :: (p7, .inl (E.2.1, 13, .inl (upd (upd (upd (upd (upd (upd (upd (upd (upd (upd (upd (upd (upd (fun _ => 0) 0 (-1)) 1 (0)) 2 (1)) 3 (2)) 4 (3)) 5 (0)) 6 (5)) 7 (6)) 8 (7)) 9 (0)) 10 (9)) 11 (12)) 12 (-1)))) :: (p78, .inl (E.2.1, 8, .inl (upd (upd (upd (upd (upd (upd (upd (upd (fun _ => 0) 0 (0)) 1 (1)) 2 (2)) 3 (7)) 4 (12)) 5 (10)) 6 (0)) 7 (2)))) :: (p124, .inl (E.2.1, 557, .inl (fun _ => 0))) :: ws) := X
  refine lv_aload_n hx hb dX8_init_129 rfl (lv_at hl 0 rfl) ?_
  refine lv_sipush (v := 720) hx hb dX8_init_130 (by decide) ?_
  refine g_newJ (N := 720) C X m_112 (by decide) (by decide) (by decide) (Nat.le_of_ble_eq_true rfl) (Nat.le_of_ble_eq_true rfl) dX8_init_133 (fun p133 H X => ?_)
  refine W.widen (k := 4) (n := 1298) (Nat.le_of_ble_eq_true rfl) (Nat.le_of_ble_eq_true rfl) ?_
  have X := g_W.rotP (ws := ws) [(h, .inr (6, [.ref p7, .ref p78, .ref p124, .null, .null, .null, .null, .null, .int 0, .null, .null, .int 0, .int 0, .int 0, .int 0, .int 0, .null, .null])), (p7, .inl (E.2.1, 13, .inl (upd (upd (upd (upd (upd (upd (upd (upd (upd (upd (upd (upd (upd (fun _ => 0) 0 (-1)) 1 (0)) 2 (1)) 3 (2)) 4 (3)) 5 (0)) 6 (5)) 7 (6)) 8 (7)) 9 (0)) 10 (9)) 11 (12)) 12 (-1)))), (p78, .inl (E.2.1, 8, .inl (upd (upd (upd (upd (upd (upd (upd (upd (fun _ => 0) 0 (0)) 1 (1)) 2 (2)) 3 (7)) 4 (12)) 5 (10)) 6 (0)) 7 (2)))), (p124, .inl (E.2.1, 557, .inl (fun _ => 0)))] X
  have X : g_W E A s H locs ((h, .inr (6, [.ref p7, .ref p78, .ref p124, .null, .null, .null, .null, .null, .int 0, .null, .null, .int 0, .int 0, .int 0, .int 0, .int 0, .null, .null])) :: (p7, .inl (E.2.1, 13, .inl (upd (upd (upd (upd (upd (upd (upd (upd (upd (upd (upd (upd (upd (fun _ => 0) 0 (-1)) 1 (0)) 2 (1)) 3 (2)) 4 (3)) 5 (0)) 6 (5)) 7 (6)) 8 (7)) 9 (0)) 10 (9)) 11 (12)) 12 (-1)))) :: (p78, .inl (E.2.1, 8, .inl (upd (upd (upd (upd (upd (upd (upd (upd (fun _ => 0) 0 (0)) 1 (1)) 2 (2)) 3 (7)) 4 (12)) 5 (10)) 6 (0)) 7 (2)))) :: (p124, .inl (E.2.1, 557, .inl (fun _ => 0))) :: (p133, .inl (E.2.2.1, 720, .inr (.inl (fun _ => 0)))) :: ws) := X
  refine g_putF C hnm X g_iX8 tyX8_ok nmX8 0 rfl rfl 3 (by decide) rfl rfl m_644 rfl rfl rfl (Nat.le_of_ble_eq_true rfl) dX8_init_135 rfl (fun H locs X => ?_)
  have X : g_W E A s H locs ((h, .inr (6, [.ref p7, .ref p78, .ref p124, .ref p133, .null, .null, .null, .null, .int 0, .null, .null, .int 0, .int 0, .int 0, .int 0, .int 0, .null, .null])) :: (p7, .inl (E.2.1, 13, .inl (upd (upd (upd (upd (upd (upd (upd (upd (upd (upd (upd (upd (upd (fun _ => 0) 0 (-1)) 1 (0)) 2 (1)) 3 (2)) 4 (3)) 5 (0)) 6 (5)) 7 (6)) 8 (7)) 9 (0)) 10 (9)) 11 (12)) 12 (-1)))) :: (p78, .inl (E.2.1, 8, .inl (upd (upd (upd (upd (upd (upd (upd (upd (fun _ => 0) 0 (0)) 1 (1)) 2 (2)) 3 (7)) 4 (12)) 5 (10)) 6 (0)) 7 (2)))) :: (p124, .inl (E.2.1, 557, .inl (fun _ => 0))) :: (p133, .inl (E.2.2.1, 720, .inr (.inl (fun _ => 0)))) :: ws) := X
  refine lv_aload_n hx hb dX8_init_138 rfl (lv_at hl 0 rfl) ?_
  refine lv_sipush (v := 557) hx hb dX8_init_139 (by decide) ?_
  refine g_newI (N := 557) C X m_127 (by decide) (by decide) (by decide) (Nat.le_of_ble_eq_true rfl) (Nat.le_of_ble_eq_true rfl) dX8_init_142 (fun p142 H X => ?_)
  refine W.widen (k := 5) (n := 1855) (Nat.le_of_ble_eq_true rfl) (Nat.le_of_ble_eq_true rfl) ?_
  have X := g_W.rotP (ws := ws) [(h, .inr (6, [.ref p7, .ref p78, .ref p124, .ref p133, .null, .null, .null, .null, .int 0, .null, .null, .int 0, .int 0, .int 0, .int 0, .int 0, .null, .null])), (p7, .inl (E.2.1, 13, .inl (upd (upd (upd (upd (upd (upd (upd (upd (upd (upd (upd (upd (upd (fun _ => 0) 0 (-1)) 1 (0)) 2 (1)) 3 (2)) 4 (3)) 5 (0)) 6 (5)) 7 (6)) 8 (7)) 9 (0)) 10 (9)) 11 (12)) 12 (-1)))), (p78, .inl (E.2.1, 8, .inl (upd (upd (upd (upd (upd (upd (upd (upd (fun _ => 0) 0 (0)) 1 (1)) 2 (2)) 3 (7)) 4 (12)) 5 (10)) 6 (0)) 7 (2)))), (p124, .inl (E.2.1, 557, .inl (fun _ => 0))), (p133, .inl (E.2.2.1, 720, .inr (.inl (fun _ => 0))))] X
  have X : g_W E A s H locs ((h, .inr (6, [.ref p7, .ref p78, .ref p124, .ref p133, .null, .null, .null, .null, .int 0, .null, .null, .int 0, .int 0, .int 0, .int 0, .int 0, .null, .null])) :: (p7, .inl (E.2.1, 13, .inl (upd (upd (upd (upd (upd (upd (upd (upd (upd (upd (upd (upd (upd (fun _ => 0) 0 (-1)) 1 (0)) 2 (1)) 3 (2)) 4 (3)) 5 (0)) 6 (5)) 7 (6)) 8 (7)) 9 (0)) 10 (9)) 11 (12)) 12 (-1)))) :: (p78, .inl (E.2.1, 8, .inl (upd (upd (upd (upd (upd (upd (upd (upd (fun _ => 0) 0 (0)) 1 (1)) 2 (2)) 3 (7)) 4 (12)) 5 (10)) 6 (0)) 7 (2)))) :: (p124, .inl (E.2.1, 557, .inl (fun _ => 0))) :: (p133, .inl (E.2.2.1, 720, .inr (.inl (fun _ => 0)))) :: (p142, .inl (E.2.1, 557, .inl (fun _ => 0))) :: ws) := X
  refine g_putF C hnm X g_iX8 tyX8_ok nmX8 0 rfl rfl 4 (by decide) rfl rfl m_645 rfl rfl rfl (Nat.le_of_ble_eq_true rfl) dX8_init_144 rfl (fun H locs X => ?_)
  have X : g_W E A s H locs ((h, .inr (6, [.ref p7, .ref p78, .ref p124, .ref p133, .ref p142, .null, .null, .null, .int 0, .null, .null, .int 0, .int 0, .int 0, .int 0, .int 0, .null, .null])) :: (p7, .inl (E.2.1, 13, .inl (upd (upd (upd (upd (upd (upd (upd (upd (upd (upd (upd (upd (upd (fun _ => 0) 0 (-1)) 1 (0)) 2 (1)) 3 (2)) 4 (3)) 5 (0)) 6 (5)) 7 (6)) 8 (7)) 9 (0)) 10 (9)) 11 (12)) 12 (-1)))) :: (p78, .inl (E.2.1, 8, .inl (upd (upd (upd (upd (upd (upd (upd (upd (fun _ => 0) 0 (0)) 1 (1)) 2 (2)) 3 (7)) 4 (12)) 5 (10)) 6 (0)) 7 (2)))) :: (p124, .inl (E.2.1, 557, .inl (fun _ => 0))) :: (p133, .inl (E.2.2.1, 720, .inr (.inl (fun _ => 0)))) :: (p142, .inl (E.2.1, 557, .inl (fun _ => 0))) :: ws) := X
  refine lv_aload_n hx hb dX8_init_147 rfl (lv_at hl 0 rfl) ?_
  refine lv_sipush (v := 720) hx hb dX8_init_148 (by decide) ?_
  refine g_newJ (N := 720) C X m_112 (by decide) (by decide) (by decide) (Nat.le_of_ble_eq_true rfl) (Nat.le_of_ble_eq_true rfl) dX8_init_151 (fun p151 H X => ?_)
  refine W.widen (k := 6) (n := 2575) (Nat.le_of_ble_eq_true rfl) (Nat.le_of_ble_eq_true rfl) ?_
  have X := g_W.rotP (ws := ws) [(h, .inr (6, [.ref p7, .ref p78, .ref p124, .ref p133, .ref p142, .null, .null, .null, .int 0, .null, .null, .int 0, .int 0, .int 0, .int 0, .int 0, .null, .null])), (p7, .inl (E.2.1, 13, .inl (upd (upd (upd (upd (upd (upd (upd (upd (upd (upd (upd (upd (upd (fun _ => 0) 0 (-1)) 1 (0)) 2 (1)) 3 (2)) 4 (3)) 5 (0)) 6 (5)) 7 (6)) 8 (7)) 9 (0)) 10 (9)) 11 (12)) 12 (-1)))), (p78, .inl (E.2.1, 8, .inl (upd (upd (upd (upd (upd (upd (upd (upd (fun _ => 0) 0 (0)) 1 (1)) 2 (2)) 3 (7)) 4 (12)) 5 (10)) 6 (0)) 7 (2)))), (p124, .inl (E.2.1, 557, .inl (fun _ => 0))), (p133, .inl (E.2.2.1, 720, .inr (.inl (fun _ => 0)))), (p142, .inl (E.2.1, 557, .inl (fun _ => 0)))] X
  have X : g_W E A s H locs ((h, .inr (6, [.ref p7, .ref p78, .ref p124, .ref p133, .ref p142, .null, .null, .null, .int 0, .null, .null, .int 0, .int 0, .int 0, .int 0, .int 0, .null, .null])) :: (p7, .inl (E.2.1, 13, .inl (upd (upd (upd (upd (upd (upd (upd (upd (upd (upd (upd (upd (upd (fun _ => 0) 0 (-1)) 1 (0)) 2 (1)) 3 (2)) 4 (3)) 5 (0)) 6 (5)) 7 (6)) 8 (7)) 9 (0)) 10 (9)) 11 (12)) 12 (-1)))) :: (p78, .inl (E.2.1, 8, .inl (upd (upd (upd (upd (upd (upd (upd (upd (fun _ => 0) 0 (0)) 1 (1)) 2 (2)) 3 (7)) 4 (12)) 5 (10)) 6 (0)) 7 (2)))) :: (p124, .inl (E.2.1, 557, .inl (fun _ => 0))) :: (p133, .inl (E.2.2.1, 720, .inr (.inl (fun _ => 0)))) :: (p142, .inl (E.2.1, 557, .inl (fun _ => 0))) :: (p151, .inl (E.2.2.1, 720, .inr (.inl (fun _ => 0)))) :: ws) := X
  refine g_putF C hnm X g_iX8 tyX8_ok nmX8 0 rfl rfl 5 (by decide) rfl rfl m_646 rfl rfl rfl (Nat.le_of_ble_eq_true rfl) dX8_init_153 rfl (fun H locs X => ?_)
  have X : g_W E A s H locs ((h, .inr (6, [.ref p7, .ref p78, .ref p124, .ref p133, .ref p142, .ref p151, .null, .null, .int 0, .null, .null, .int 0, .int 0, .int 0, .int 0, .int 0, .null, .null])) :: (p7, .inl (E.2.1, 13, .inl (upd (upd (upd (upd (upd (upd (upd (upd (upd (upd (upd (upd (upd (fun _ => 0) 0 (-1)) 1 (0)) 2 (1)) 3 (2)) 4 (3)) 5 (0)) 6 (5)) 7 (6)) 8 (7)) 9 (0)) 10 (9)) 11 (12)) 12 (-1)))) :: (p78, .inl (E.2.1, 8, .inl (upd (upd (upd (upd (upd (upd (upd (upd (fun _ => 0) 0 (0)) 1 (1)) 2 (2)) 3 (7)) 4 (12)) 5 (10)) 6 (0)) 7 (2)))) :: (p124, .inl (E.2.1, 557, .inl (fun _ => 0))) :: (p133, .inl (E.2.2.1, 720, .inr (.inl (fun _ => 0)))) :: (p142, .inl (E.2.1, 557, .inl (fun _ => 0))) :: (p151, .inl (E.2.2.1, 720, .inr (.inl (fun _ => 0)))) :: ws) := X
  refine lv_aload_n hx hb dX8_init_156 rfl (lv_at hl 0 rfl) ?_
  refine lv_sipush (v := 3078) hx hb dX8_init_157 (by decide) ?_
  refine g_newI (N := 3078) C X m_127 (by decide) (by decide) (by decide) (Nat.le_of_ble_eq_true rfl) (Nat.le_of_ble_eq_true rfl) dX8_init_160 (fun p160 H X => ?_)
  refine W.widen (k := 7) (n := 5653) (Nat.le_of_ble_eq_true rfl) (Nat.le_of_ble_eq_true rfl) ?_
  have X := g_W.rotP (ws := ws) [(h, .inr (6, [.ref p7, .ref p78, .ref p124, .ref p133, .ref p142, .ref p151, .null, .null, .int 0, .null, .null, .int 0, .int 0, .int 0, .int 0, .int 0, .null, .null])), (p7, .inl (E.2.1, 13, .inl (upd (upd (upd (upd (upd (upd (upd (upd (upd (upd (upd (upd (upd (fun _ => 0) 0 (-1)) 1 (0)) 2 (1)) 3 (2)) 4 (3)) 5 (0)) 6 (5)) 7 (6)) 8 (7)) 9 (0)) 10 (9)) 11 (12)) 12 (-1)))), (p78, .inl (E.2.1, 8, .inl (upd (upd (upd (upd (upd (upd (upd (upd (fun _ => 0) 0 (0)) 1 (1)) 2 (2)) 3 (7)) 4 (12)) 5 (10)) 6 (0)) 7 (2)))), (p124, .inl (E.2.1, 557, .inl (fun _ => 0))), (p133, .inl (E.2.2.1, 720, .inr (.inl (fun _ => 0)))), (p142, .inl (E.2.1, 557, .inl (fun _ => 0))), (p151, .inl (E.2.2.1, 720, .inr (.inl (fun _ => 0))))] X
  have X : g_W E A s H locs ((h, .inr (6, [.ref p7, .ref p78, .ref p124, .ref p133, .ref p142, .ref p151, .null, .null, .int 0, .null, .null, .int 0, .int 0, .int 0, .int 0, .int 0, .null, .null])) :: (p7, .inl (E.2.1, 13, .inl (upd (upd (upd (upd (upd (upd (upd (upd (upd (upd (upd (upd (upd (fun _ => 0) 0 (-1)) 1 (0)) 2 (1)) 3 (2)) 4 (3)) 5 (0)) 6 (5)) 7 (6)) 8 (7)) 9 (0)) 10 (9)) 11 (12)) 12 (-1)))) :: (p78, .inl (E.2.1, 8, .inl (upd (upd (upd (upd (upd (upd (upd (upd (fun _ => 0) 0 (0)) 1 (1)) 2 (2)) 3 (7)) 4 (12)) 5 (10)) 6 (0)) 7 (2)))) :: (p124, .inl (E.2.1, 557, .inl (fun _ => 0))) :: (p133, .inl (E.2.2.1, 720, .inr (.inl (fun _ => 0)))) :: (p142, .inl (E.2.1, 557, .inl (fun _ => 0))) :: (p151, .inl (E.2.2.1, 720, .inr (.inl (fun _ => 0)))) :: (p160, .inl (E.2.1, 3078, .inl (fun _ => 0))) :: ws) := X
  refine g_putF C hnm X g_iX8 tyX8_ok nmX8 0 rfl rfl 6 (by decide) rfl rfl m_647 rfl rfl rfl (Nat.le_of_ble_eq_true rfl) dX8_init_162 rfl (fun H locs X => ?_)
  have X : g_W E A s H locs ((h, .inr (6, [.ref p7, .ref p78, .ref p124, .ref p133, .ref p142, .ref p151, .ref p160, .null, .int 0, .null, .null, .int 0, .int 0, .int 0, .int 0, .int 0, .null, .null])) :: (p7, .inl (E.2.1, 13, .inl (upd (upd (upd (upd (upd (upd (upd (upd (upd (upd (upd (upd (upd (fun _ => 0) 0 (-1)) 1 (0)) 2 (1)) 3 (2)) 4 (3)) 5 (0)) 6 (5)) 7 (6)) 8 (7)) 9 (0)) 10 (9)) 11 (12)) 12 (-1)))) :: (p78, .inl (E.2.1, 8, .inl (upd (upd (upd (upd (upd (upd (upd (upd (fun _ => 0) 0 (0)) 1 (1)) 2 (2)) 3 (7)) 4 (12)) 5 (10)) 6 (0)) 7 (2)))) :: (p124, .inl (E.2.1, 557, .inl (fun _ => 0))) :: (p133, .inl (E.2.2.1, 720, .inr (.inl (fun _ => 0)))) :: (p142, .inl (E.2.1, 557, .inl (fun _ => 0))) :: (p151, .inl (E.2.2.1, 720, .inr (.inl (fun _ => 0)))) :: (p160, .inl (E.2.1, 3078, .inl (fun _ => 0))) :: ws) := X
  refine lv_aload_n hx hb dX8_init_165 rfl (lv_at hl 0 rfl) ?_
  refine lv_sipush (v := 513) hx hb dX8_init_166 (by decide) ?_
  refine g_newJ (N := 513) C X m_112 (by decide) (by decide) (by decide) (Nat.le_of_ble_eq_true rfl) (Nat.le_of_ble_eq_true rfl) dX8_init_169 (fun p169 H X => ?_)
  refine W.widen (k := 8) (n := 6166) (Nat.le_of_ble_eq_true rfl) (Nat.le_of_ble_eq_true rfl) ?_
  have X := g_W.rotP (ws := ws) [(h, .inr (6, [.ref p7, .ref p78, .ref p124, .ref p133, .ref p142, .ref p151, .ref p160, .null, .int 0, .null, .null, .int 0, .int 0, .int 0, .int 0, .int 0, .null, .null])), (p7, .inl (E.2.1, 13, .inl (upd (upd (upd (upd (upd (upd (upd (upd (upd (upd (upd (upd (upd (fun _ => 0) 0 (-1)) 1 (0)) 2 (1)) 3 (2)) 4 (3)) 5 (0)) 6 (5)) 7 (6)) 8 (7)) 9 (0)) 10 (9)) 11 (12)) 12 (-1)))), (p78, .inl (E.2.1, 8, .inl (upd (upd (upd (upd (upd (upd (upd (upd (fun _ => 0) 0 (0)) 1 (1)) 2 (2)) 3 (7)) 4 (12)) 5 (10)) 6 (0)) 7 (2)))), (p124, .inl (E.2.1, 557, .inl (fun _ => 0))), (p133, .inl (E.2.2.1, 720, .inr (.inl (fun _ => 0)))), (p142, .inl (E.2.1, 557, .inl (fun _ => 0))), (p151, .inl (E.2.2.1, 720, .inr (.inl (fun _ => 0)))), (p160, .inl (E.2.1, 3078, .inl (fun _ => 0)))] X
  have X : g_W E A s H locs ((h, .inr (6, [.ref p7, .ref p78, .ref p124, .ref p133, .ref p142, .ref p151, .ref p160, .null, .int 0, .null, .null, .int 0, .int 0, .int 0, .int 0, .int 0, .null, .null])) :: (p7, .inl (E.2.1, 13, .inl (upd (upd (upd (upd (upd (upd (upd (upd (upd (upd (upd (upd (upd (fun _ => 0) 0 (-1)) 1 (0)) 2 (1)) 3 (2)) 4 (3)) 5 (0)) 6 (5)) 7 (6)) 8 (7)) 9 (0)) 10 (9)) 11 (12)) 12 (-1)))) :: (p78, .inl (E.2.1, 8, .inl (upd (upd (upd (upd (upd (upd (upd (upd (fun _ => 0) 0 (0)) 1 (1)) 2 (2)) 3 (7)) 4 (12)) 5 (10)) 6 (0)) 7 (2)))) :: (p124, .inl (E.2.1, 557, .inl (fun _ => 0))) :: (p133, .inl (E.2.2.1, 720, .inr (.inl (fun _ => 0)))) :: (p142, .inl (E.2.1, 557, .inl (fun _ => 0))) :: (p151, .inl (E.2.2.1, 720, .inr (.inl (fun _ => 0)))) :: (p160, .inl (E.2.1, 3078, .inl (fun _ => 0))) :: (p169, .inl (E.2.2.1, 513, .inr (.inl (fun _ => 0)))) :: ws) := X
  refine g_putF C hnm X g_iX8 tyX8_ok nmX8 0 rfl rfl 7 (by decide) rfl rfl m_648 rfl rfl rfl (Nat.le_of_ble_eq_true rfl) dX8_init_171 rfl (fun H locs X => ?_)
  have X : g_W E A s H locs ((h, .inr (6, [.ref p7, .ref p78, .ref p124, .ref p133, .ref p142, .ref p151, .ref p160, .ref p169, .int 0, .null, .null, .int 0, .int 0, .int 0, .int 0, .int 0, .null, .null])) :: (p7, .inl (E.2.1, 13, .inl (upd (upd (upd (upd (upd (upd (upd (upd (upd (upd (upd (upd (upd (fun _ => 0) 0 (-1)) 1 (0)) 2 (1)) 3 (2)) 4 (3)) 5 (0)) 6 (5)) 7 (6)) 8 (7)) 9 (0)) 10 (9)) 11 (12)) 12 (-1)))) :: (p78, .inl (E.2.1, 8, .inl (upd (upd (upd (upd (upd (upd (upd (upd (fun _ => 0) 0 (0)) 1 (1)) 2 (2)) 3 (7)) 4 (12)) 5 (10)) 6 (0)) 7 (2)))) :: (p124, .inl (E.2.1, 557, .inl (fun _ => 0))) :: (p133, .inl (E.2.2.1, 720, .inr (.inl (fun _ => 0)))) :: (p142, .inl (E.2.1, 557, .inl (fun _ => 0))) :: (p151, .inl (E.2.2.1, 720, .inr (.inl (fun _ => 0)))) :: (p160, .inl (E.2.1, 3078, .inl (fun _ => 0))) :: (p169, .inl (E.2.2.1, 513, .inr (.inl (fun _ => 0)))) :: ws) := X
  refine lv_aload_n hx hb dX8_init_174 rfl (lv_at hl 0 rfl) ?_
  refine lv_sipush (v := 3078) hx hb dX8_init_175 (by decide) ?_
  refine g_newI (N := 3078) C X m_127 (by decide) (by decide) (by decide) (Nat.le_of_ble_eq_true rfl) (Nat.le_of_ble_eq_true rfl) dX8_init_178 (fun p178 H X => ?_)
  refine W.widen (k := 9) (n := 9244) (Nat.le_of_ble_eq_true rfl) (Nat.le_of_ble_eq_true rfl) ?_
  have X := g_W.rotP (ws := ws) [(h, .inr (6, [.ref p7, .ref p78, .ref p124, .ref p133, .ref p142, .ref p151, .ref p160, .ref p169, .int 0, .null, .null, .int 0, .int 0, .int 0, .int 0, .int 0, .null, .null])), (p7, .inl (E.2.1, 13, .inl (upd (upd (upd (upd (upd (upd (upd (upd (upd (upd (upd (upd (upd (fun _ => 0) 0 (-1)) 1 (0)) 2 (1)) 3 (2)) 4 (3)) 5 (0)) 6 (5)) 7 (6)) 8 (7)) 9 (0)) 10 (9)) 11 (12)) 12 (-1)))), (p78, .inl (E.2.1, 8, .inl (upd (upd (upd (upd (upd (upd (upd (upd (fun _ => 0) 0 (0)) 1 (1)) 2 (2)) 3 (7)) 4 (12)) 5 (10)) 6 (0)) 7 (2)))), (p124, .inl (E.2.1, 557, .inl (fun _ => 0))), (p133, .inl (E.2.2.1, 720, .inr (.inl (fun _ => 0)))), (p142, .inl (E.2.1, 557, .inl (fun _ => 0))), (p151, .inl (E.2.2.1, 720, .inr (.inl (fun _ => 0)))), (p160, .inl (E.2.1, 3078, .inl (fun _ => 0))), (p169, .inl (E.2.2.1, 513, .inr (.inl (fun _ => 0))))] X
  have X : g_W E A s H locs ((h, .inr (6, [.ref p7, .ref p78, .ref p124, .ref p133, .ref p142, .ref p151, .ref p160, .ref p169, .int 0, .null, .null, .int 0, .int 0, .int 0, .int 0, .int 0, .null, .null])) :: (p7, .inl (E.2.1, 13, .inl (upd (upd (upd (upd (upd (upd (upd (upd (upd (upd (upd (upd (upd (fun _ => 0) 0 (-1)) 1 (0)) 2 (1)) 3 (2)) 4 (3)) 5 (0)) 6 (5)) 7 (6)) 8 (7)) 9 (0)) 10 (9)) 11 (12)) 12 (-1)))) :: (p78, .inl (E.2.1, 8, .inl (upd (upd (upd (upd (upd (upd (upd (upd (fun _ => 0) 0 (0)) 1 (1)) 2 (2)) 3 (7)) 4 (12)) 5 (10)) 6 (0)) 7 (2)))) :: (p124, .inl (E.2.1, 557, .inl (fun _ => 0))) :: (p133, .inl (E.2.2.1, 720, .inr (.inl (fun _ => 0)))) :: (p142, .inl (E.2.1, 557, .inl (fun _ => 0))) :: (p151, .inl (E.2.2.1, 720, .inr (.inl (fun _ => 0)))) :: (p160, .inl (E.2.1, 3078, .inl (fun _ => 0))) :: (p169, .inl (E.2.2.1, 513, .inr (.inl (fun _ => 0)))) :: (p178, .inl (E.2.1, 3078, .inl (fun _ => 0))) :: ws) := X
  refine g_putF C hnm X g_iX8 tyX8_ok nmX8 0 rfl rfl 9 (by decide) rfl rfl m_650 rfl rfl rfl (Nat.le_of_ble_eq_true rfl) dX8_init_180 rfl (fun H locs X => ?_)
  have X : g_W E A s H locs ((h, .inr (6, [.ref p7, .ref p78, .ref p124, .ref p133, .ref p142, .ref p151, .ref p160, .ref p169, .int 0, .ref p178, .null, .int 0, .int 0, .int 0, .int 0, .int 0, .null, .null])) :: (p7, .inl (E.2.1, 13, .inl (upd (upd (upd (upd (upd (upd (upd (upd (upd (upd (upd (upd (upd (fun _ => 0) 0 (-1)) 1 (0)) 2 (1)) 3 (2)) 4 (3)) 5 (0)) 6 (5)) 7 (6)) 8 (7)) 9 (0)) 10 (9)) 11 (12)) 12 (-1)))) :: (p78, .inl (E.2.1, 8, .inl (upd (upd (upd (upd (upd (upd (upd (upd (fun _ => 0) 0 (0)) 1 (1)) 2 (2)) 3 (7)) 4 (12)) 5 (10)) 6 (0)) 7 (2)))) :: (p124, .inl (E.2.1, 557, .inl (fun _ => 0))) :: (p133, .inl (E.2.2.1, 720, .inr (.inl (fun _ => 0)))) :: (p142, .inl (E.2.1, 557, .inl (fun _ => 0))) :: (p151, .inl (E.2.2.1, 720, .inr (.inl (fun _ => 0)))) :: (p160, .inl (E.2.1, 3078, .inl (fun _ => 0))) :: (p169, .inl (E.2.2.1, 513, .inr (.inl (fun _ => 0)))) :: (p178, .inl (E.2.1, 3078, .inl (fun _ => 0))) :: ws) := X
  refine lv_aload_n hx hb dX8_init_183 rfl (lv_at hl 0 rfl) ?_
  refine lv_sipush (v := 513) hx hb dX8_init_184 (by decide) ?_
  refine g_newJ (N := 513) C X m_112 (by decide) (by decide) (by decide) (Nat.le_of_ble_eq_true rfl) (Nat.le_of_ble_eq_true rfl) dX8_init_187 (fun p187 H X => ?_)
  refine W.widen (k := 10) (n := 9757) (Nat.le_of_ble_eq_true rfl) (Nat.le_of_ble_eq_true rfl) ?_
  have X := g_W.rotP (ws := ws) [(h, .inr (6, [.ref p7, .ref p78, .ref p124, .ref p133, .ref p142, .ref p151, .ref p160, .ref p169, .int 0, .ref p178, .null, .int 0, .int 0, .int 0, .int 0, .int 0, .null, .null])), (p7, .inl (E.2.1, 13, .inl (upd (upd (upd (upd (upd (upd (upd (upd (upd (upd (upd (upd (upd (fun _ => 0) 0 (-1)) 1 (0)) 2 (1)) 3 (2)) 4 (3)) 5 (0)) 6 (5)) 7 (6)) 8 (7)) 9 (0)) 10 (9)) 11 (12)) 12 (-1)))), (p78, .inl (E.2.1, 8, .inl (upd (upd (upd (upd (upd (upd (upd (upd (fun _ => 0) 0 (0)) 1 (1)) 2 (2)) 3 (7)) 4 (12)) 5 (10)) 6 (0)) 7 (2)))), (p124, .inl (E.2.1, 557, .inl (fun _ => 0))), (p133, .inl (E.2.2.1, 720, .inr (.inl (fun _ => 0)))), (p142, .inl (E.2.1, 557, .inl (fun _ => 0))), (p151, .inl (E.2.2.1, 720, .inr (.inl (fun _ => 0)))), (p160, .inl (E.2.1, 3078, .inl (fun _ => 0))), (p169, .inl (E.2.2.1, 513, .inr (.inl (fun _ => 0)))), (p178, .inl (E.2.1, 3078, .inl (fun _ => 0)))] X
  have X : g_W E A s H locs ((h, .inr (6, [.ref p7, .ref p78, .ref p124, .ref p133, .ref p142, .ref p151, .ref p160, .ref p169, .int 0, .ref p178, .null, .int 0, .int 0, .int 0, .int 0, .int 0, .null, .null])) :: (p7, .inl (E.2.1, 13, .inl (upd (upd (upd (upd (upd (upd (upd (upd (upd (upd (upd (upd (upd (fun _ => 0) 0 (-1)) 1 (0)) 2 (1)) 3 (2)) 4 (3)) 5 (0)) 6 (5)) 7 (6)) 8 (7)) 9 (0)) 10 (9)) 11 (12)) 12 (-1)))) :: (p78, .inl (E.2.1, 8, .inl (upd (upd (upd (upd (upd (upd (upd (upd (fun _ => 0) 0 (0)) 1 (1)) 2 (2)) 3 (7)) 4 (12)) 5 (10)) 6 (0)) 7 (2)))) :: (p124, .inl (E.2.1, 557, .inl (fun _ => 0))) :: (p133, .inl (E.2.2.1, 720, .inr (.inl (fun _ => 0)))) :: (p142, .inl (E.2.1, 557, .inl (fun _ => 0))) :: (p151, .inl (E.2.2.1, 720, .inr (.inl (fun _ => 0)))) :: (p160, .inl (E.2.1, 3078, .inl (fun _ => 0))) :: (p169, .inl (E.2.2.1, 513, .inr (.inl (fun _ => 0)))) :: (p178, .inl (E.2.1, 3078, .inl (fun _ => 0))) :: (p187, .inl (E.2.2.1, 513, .inr (.inl (fun _ => 0)))) :: ws) := X
  refine g_putF C hnm X g_iX8 tyX8_ok nmX8 0 rfl rfl 10 (by decide) rfl rfl m_651 rfl rfl rfl (Nat.le_of_ble_eq_true rfl) dX8_init_189 rfl (fun H locs X => ?_)
  have X : g_W E A s H locs ((h, .inr (6, [.ref p7, .ref p78, .ref p124, .ref p133, .ref p142, .ref p151, .ref p160, .ref p169, .int 0, .ref p178, .ref p187, .int 0, .int 0, .int 0, .int 0, .int 0, .null, .null])) :: (p7, .inl (E.2.1, 13, .inl (upd (upd (upd (upd (upd (upd (upd (upd (upd (upd (upd (upd (upd (fun _ => 0) 0 (-1)) 1 (0)) 2 (1)) 3 (2)) 4 (3)) 5 (0)) 6 (5)) 7 (6)) 8 (7)) 9 (0)) 10 (9)) 11 (12)) 12 (-1)))) :: (p78, .inl (E.2.1, 8, .inl (upd (upd (upd (upd (upd (upd (upd (upd (fun _ => 0) 0 (0)) 1 (1)) 2 (2)) 3 (7)) 4 (12)) 5 (10)) 6 (0)) 7 (2)))) :: (p124, .inl (E.2.1, 557, .inl (fun _ => 0))) :: (p133, .inl (E.2.2.1, 720, .inr (.inl (fun _ => 0)))) :: (p142, .inl (E.2.1, 557, .inl (fun _ => 0))) :: (p151, .inl (E.2.2.1, 720, .inr (.inl (fun _ => 0)))) :: (p160, .inl (E.2.1, 3078, .inl (fun _ => 0))) :: (p169, .inl (E.2.2.1, 513, .inr (.inl (fun _ => 0)))) :: (p178, .inl (E.2.1, 3078, .inl (fun _ => 0))) :: (p187, .inl (E.2.2.1, 513, .inr (.inl (fun _ => 0)))) :: ws) := X
  refine lv_aload_n hx hb dX8_init_192 rfl (lv_at hl 0 rfl) ?_
  refine lv_bipush (v := 12) hx hb dX8_init_193 (by decide) ?_
  refine g_newJ (N := 12) C X m_112 (by decide) (by decide) (by decide) (Nat.le_of_ble_eq_true rfl) (Nat.le_of_ble_eq_true rfl) dX8_init_195 (fun p195 H X => ?_)
  refine W.widen (k := 11) (n := 9769) (Nat.le_of_ble_eq_true rfl) (Nat.le_of_ble_eq_true rfl) ?_
  have X := g_W.rotP (ws := ws) [(h, .inr (6, [.ref p7, .ref p78, .ref p124, .ref p133, .ref p142, .ref p151, .ref p160, .ref p169, .int 0, .ref p178, .ref p187, .int 0, .int 0, .int 0, .int 0, .int 0, .null, .null])), (p7, .inl (E.2.1, 13, .inl (upd (upd (upd (upd (upd (upd (upd (upd (upd (upd (upd (upd (upd (fun _ => 0) 0 (-1)) 1 (0)) 2 (1)) 3 (2)) 4 (3)) 5 (0)) 6 (5)) 7 (6)) 8 (7)) 9 (0)) 10 (9)) 11 (12)) 12 (-1)))), (p78, .inl (E.2.1, 8, .inl (upd (upd (upd (upd (upd (upd (upd (upd (fun _ => 0) 0 (0)) 1 (1)) 2 (2)) 3 (7)) 4 (12)) 5 (10)) 6 (0)) 7 (2)))), (p124, .inl (E.2.1, 557, .inl (fun _ => 0))), (p133, .inl (E.2.2.1, 720, .inr (.inl (fun _ => 0)))), (p142, .inl (E.2.1, 557, .inl (fun _ => 0))), (p151, .inl (E.2.2.1, 720, .inr (.inl (fun _ => 0)))), (p160, .inl (E.2.1, 3078, .inl (fun _ => 0))), (p169, .inl (E.2.2.1, 513, .inr (.inl (fun _ => 0)))), (p178, .inl (E.2.1, 3078, .inl (fun _ => 0))), (p187, .inl (E.2.2.1, 513, .inr (.inl (fun _ => 0))))] X
  have X : g_W E A s H locs ((h, .inr (6, [.ref p7, .ref p78, .ref p124, .ref p133, .ref p142, .ref p151, .ref p160, .ref p169, .int 0, .ref p178, .ref p187, .int 0, .int 0, .int 0, .int 0, .int 0, .null, .null])) :: (p7, .inl (E.2.1, 13, .inl (upd (upd (upd (upd (upd (upd (upd (upd (upd (upd (upd (upd (upd (fun _ => 0) 0 (-1)) 1 (0)) 2 (1)) 3 (2)) 4 (3)) 5 (0)) 6 (5)) 7 (6)) 8 (7)) 9 (0)) 10 (9)) 11 (12)) 12 (-1)))) :: (p78, .inl (E.2.1, 8, .inl (upd (upd (upd (upd (upd (upd (upd (upd (fun _ => 0) 0 (0)) 1 (1)) 2 (2)) 3 (7)) 4 (12)) 5 (10)) 6 (0)) 7 (2)))) :: (p124, .inl (E.2.1, 557, .inl (fun _ => 0))) :: (p133, .inl (E.2.2.1, 720, .inr (.inl (fun _ => 0)))) :: (p142, .inl (E.2.1, 557, .inl (fun _ => 0))) :: (p151, .inl (E.2.2.1, 720, .inr (.inl (fun _ => 0)))) :: (p160, .inl (E.2.1, 3078, .inl (fun _ => 0))) :: (p169, .inl (E.2.2.1, 513, .inr (.inl (fun _ => 0)))) :: (p178, .inl (E.2.1, 3078, .inl (fun _ => 0))) :: (p187, .inl (E.2.2.1, 513, .inr (.inl (fun _ => 0)))) :: (p195, .inl (E.2.2.1, 12, .inr (.inl (fun _ => 0)))) :: ws) := X
  refine g_putF C hnm X g_iX8 tyX8_ok nmX8 0 rfl rfl 16 (by decide) rfl rfl m_657 rfl rfl rfl (Nat.le_of_ble_eq_true rfl) dX8_init_197 rfl (fun H locs X => ?_)
  have X : g_W E A s H locs ((h, .inr (6, [.ref p7, .ref p78, .ref p124, .ref p133, .ref p142, .ref p151, .ref p160, .ref p169, .int 0, .ref p178, .ref p187, .int 0, .int 0, .int 0, .int 0, .int 0, .ref p195, .null])) :: (p7, .inl (E.2.1, 13, .inl (upd (upd (upd (upd (upd (upd (upd (upd (upd (upd (upd (upd (upd (fun _ => 0) 0 (-1)) 1 (0)) 2 (1)) 3 (2)) 4 (3)) 5 (0)) 6 (5)) 7 (6)) 8 (7)) 9 (0)) 10 (9)) 11 (12)) 12 (-1)))) :: (p78, .inl (E.2.1, 8, .inl (upd (upd (upd (upd (upd (upd (upd (upd (fun _ => 0) 0 (0)) 1 (1)) 2 (2)) 3 (7)) 4 (12)) 5 (10)) 6 (0)) 7 (2)))) :: (p124, .inl (E.2.1, 557, .inl (fun _ => 0))) :: (p133, .inl (E.2.2.1, 720, .inr (.inl (fun _ => 0)))) :: (p142, .inl (E.2.1, 557, .inl (fun _ => 0))) :: (p151, .inl (E.2.2.1, 720, .inr (.inl (fun _ => 0)))) :: (p160, .inl (E.2.1, 3078, .inl (fun _ => 0))) :: (p169, .inl (E.2.2.1, 513, .inr (.inl (fun _ => 0)))) :: (p178, .inl (E.2.1, 3078, .inl (fun _ => 0))) :: (p187, .inl (E.2.2.1, 513, .inr (.inl (fun _ => 0)))) :: (p195, .inl (E.2.2.1, 12, .inr (.inl (fun _ => 0)))) :: ws) := X
  refine lv_aload_n hx hb dX8_init_200 rfl (lv_at hl 0 rfl) ?_
  refine lv_bipush (v := 6) hx hb dX8_init_201 (by decide) ?_
  refine g_newI (N := 6) C X m_127 (by decide) (by decide) (by decide) (Nat.le_of_ble_eq_true rfl) (Nat.le_of_ble_eq_true rfl) dX8_init_203 (fun p203 H X => ?_)
  refine W.widen (k := 12) (n := 9775) (Nat.le_of_ble_eq_true rfl) (Nat.le_of_ble_eq_true rfl) ?_
  have X := g_W.rotP (ws := ws) [(h, .inr (6, [.ref p7, .ref p78, .ref p124, .ref p133, .ref p142, .ref p151, .ref p160, .ref p169, .int 0, .ref p178, .ref p187, .int 0, .int 0, .int 0, .int 0, .int 0, .ref p195, .null])), (p7, .inl (E.2.1, 13, .inl (upd (upd (upd (upd (upd (upd (upd (upd (upd (upd (upd (upd (upd (fun _ => 0) 0 (-1)) 1 (0)) 2 (1)) 3 (2)) 4 (3)) 5 (0)) 6 (5)) 7 (6)) 8 (7)) 9 (0)) 10 (9)) 11 (12)) 12 (-1)))), (p78, .inl (E.2.1, 8, .inl (upd (upd (upd (upd (upd (upd (upd (upd (fun _ => 0) 0 (0)) 1 (1)) 2 (2)) 3 (7)) 4 (12)) 5 (10)) 6 (0)) 7 (2)))), (p124, .inl (E.2.1, 557, .inl (fun _ => 0))), (p133, .inl (E.2.2.1, 720, .inr (.inl (fun _ => 0)))), (p142, .inl (E.2.1, 557, .inl (fun _ => 0))), (p151, .inl (E.2.2.1, 720, .inr (.inl (fun _ => 0)))), (p160, .inl (E.2.1, 3078, .inl (fun _ => 0))), (p169, .inl (E.2.2.1, 513, .inr (.inl (fun _ => 0)))), (p178, .inl (E.2.1, 3078, .inl (fun _ => 0))), (p187, .inl (E.2.2.1, 513, .inr (.inl (fun _ => 0)))), (p195, .inl (E.2.2.1, 12, .inr (.inl (fun _ => 0))))] X
  have X : g_W E A s H locs ((h, .inr (6, [.ref p7, .ref p78, .ref p124, .ref p133, .ref p142, .ref p151, .ref p160, .ref p169, .int 0, .ref p178, .ref p187, .int 0, .int 0, .int 0, .int 0, .int 0, .ref p195, .null])) :: (p7, .inl (E.2.1, 13, .inl (upd (upd (upd (upd (upd (upd (upd (upd (upd (upd (upd (upd (upd (fun _ => 0) 0 (-1)) 1 (0)) 2 (1)) 3 (2)) 4 (3)) 5 (0)) 6 (5)) 7 (6)) 8 (7)) 9 (0)) 10 (9)) 11 (12)) 12 (-1)))) :: (p78, .inl (E.2.1, 8, .inl (upd (upd (upd (upd (upd (upd (upd (upd (fun _ => 0) 0 (0)) 1 (1)) 2 (2)) 3 (7)) 4 (12)) 5 (10)) 6 (0)) 7 (2)))) :: (p124, .inl (E.2.1, 557, .inl (fun _ => 0))) :: (p133, .inl (E.2.2.1, 720, .inr (.inl (fun _ => 0)))) :: (p142, .inl (E.2.1, 557, .inl (fun _ => 0))) :: (p151, .inl (E.2.2.1, 720, .inr (.inl (fun _ => 0)))) :: (p160, .inl (E.2.1, 3078, .inl (fun _ => 0))) :: (p169, .inl (E.2.2.1, 513, .inr (.inl (fun _ => 0)))) :: (p178, .inl (E.2.1, 3078, .inl (fun _ => 0))) :: (p187, .inl (E.2.2.1, 513, .inr (.inl (fun _ => 0)))) :: (p195, .inl (E.2.2.1, 12, .inr (.inl (fun _ => 0)))) :: (p203, .inl (E.2.1, 6, .inl (fun _ => 0))) :: ws) := X
  refine g_putF C hnm X g_iX8 tyX8_ok nmX8 0 rfl rfl 17 (by decide) rfl rfl m_658 rfl rfl rfl (Nat.le_of_ble_eq_true rfl) dX8_init_205 rfl (fun H locs X => ?_)
  have X : g_W E A s H locs ((h, .inr (6, [.ref p7, .ref p78, .ref p124, .ref p133, .ref p142, .ref p151, .ref p160, .ref p169, .int 0, .ref p178, .ref p187, .int 0, .int 0, .int 0, .int 0, .int 0, .ref p195, .ref p203])) :: (p7, .inl (E.2.1, 13, .inl (upd (upd (upd (upd (upd (upd (upd (upd (upd (upd (upd (upd (upd (fun _ => 0) 0 (-1)) 1 (0)) 2 (1)) 3 (2)) 4 (3)) 5 (0)) 6 (5)) 7 (6)) 8 (7)) 9 (0)) 10 (9)) 11 (12)) 12 (-1)))) :: (p78, .inl (E.2.1, 8, .inl (upd (upd (upd (upd (upd (upd (upd (upd (fun _ => 0) 0 (0)) 1 (1)) 2 (2)) 3 (7)) 4 (12)) 5 (10)) 6 (0)) 7 (2)))) :: (p124, .inl (E.2.1, 557, .inl (fun _ => 0))) :: (p133, .inl (E.2.2.1, 720, .inr (.inl (fun _ => 0)))) :: (p142, .inl (E.2.1, 557, .inl (fun _ => 0))) :: (p151, .inl (E.2.2.1, 720, .inr (.inl (fun _ => 0)))) :: (p160, .inl (E.2.1, 3078, .inl (fun _ => 0))) :: (p169, .inl (E.2.2.1, 513, .inr (.inl (fun _ => 0)))) :: (p178, .inl (E.2.1, 3078, .inl (fun _ => 0))) :: (p187, .inl (E.2.2.1, 513, .inr (.inl (fun _ => 0)))) :: (p195, .inl (E.2.2.1, 12, .inr (.inl (fun _ => 0)))) :: (p203, .inl (E.2.1, 6, .inl (fun _ => 0))) :: ws) := X
  exact g_vretP (fun v : Nat → Nat => wsR E h v rs0 ++ ws) (w1 := (fun k => match k with | 0 => p7 | 1 => p78 | 2 => p124 | 3 => p133 | 4 => p142 | 5 => p151 | 6 => p160 | 7 => p169 | 9 => p178 | 10 => p187 | 16 => p195 | _ => p203 : Nat → Nat)) (Q' := fun _ => True) C hr hk X trivial dX8_init_208
