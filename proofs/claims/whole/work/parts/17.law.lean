/-! THE CLAIM OUT OF ONE WALK OF THE LAW'S BODY. Your part is whole_start (and what it stands on); all else here is the same for every law, but numbers. -/
def R_law : String := "PatchHallLaw"
def lw_P (b : Addr) (xs : List Int32) (args : Array Value) (s : State) : Prop := args = #[.ref b] ∧ s.IntsAt b xs ∧ xs.length ≤ 3072 ∧ (Jvm.Cond.and given_1 narrow_1).before args s = true
def lw_Q (_ : Array Value) (s : State) (o : Outcome) (t : State) : Prop := o = .returned (some (.int 1)) ∧ Framed s o t [] 600000 7302250
def lw_Z (below : List Frame) (a : Array Value) (s : State) : State → Prop := fun t => ∃ o, t.status = .running ∧ Ended t below o ∧ lw_Q a s o t
/-- the law's own end, with 1 on the stack, nothing written that was there before, its room as the claim has it -/
theorem lw_ret {p : Program} {l : Launch} {e : Env} {s : State} {m : MethodId} {below : List Frame} {meth : Method} {c : Code} {b : Nat} (hx : p.tables.exec = Jvm.exec) (hb : c.code = code) (hr : meth.sig.returnType = ret) (hlocks : meth.locks = false) {pc : Nat} {H : Heap} {ls : Array Slot} (hdg : decode code pc = .ok (.ireturn, 1)) : W p l e room_1 s m #[Value.ref b] below meth c H [] 600000 7302250 (lw_Z below #[Value.ref b] s) (F0 m pc ls [.int 1]) := by
  intro T hT X
  obtain ⟨fs, hret, hrun, hended, hW, hframe⟩ := X.leave (v := some (.int 1)) (hlocks := hlocks) (fun h => by rw [hr] at h; cases h)
  have hmeth' : T.vm.method? m = some meth := X.method'
  refine ⟨T.setFrames fs, ?_, .returned (some (.int 1)), hrun, hended, rfl, ⟨_, rfl⟩, hW, hframe⟩
  jvm_step X.here [X.here.top, hx, hb, hdg, hmeth', hr, ret, narrow_b1]
  (try refine ⟨rfl, ?_⟩); (try refine ⟨rfl, ?_⟩)
  first | (intro acts; rw [hret _ acts rfl rfl rfl]) | rw [hret _ _ rfl rfl rfl]
  exact Steps.refl _
/-- what holds at the law's entry: the machine, the code, the tables' words (any of lw_tbl by 'hts w (by decide +kernel)'), the script of L ints xs at the cell b, what the Statement gives of the start (any of its parts by flat_of_before) -/
def lw_At (p : Program) (s : State) (m : MethodId) (meth : Method) (c : Code) (b L : Nat) (xs : Nat → Int32) : Prop :=
  p.tables.exec = Jvm.exec ∧ c.code = code ∧ meth.sig.returnType = ret ∧ c.maxLocals = 4 ∧ s.vm.findClass R_law = some m.cls ∧ (∀ w ∈ lw_tbl, w.before #[Value.ref b] s = true) ∧ va_X b L xs s s.heap ∧ b < s.heap.size ∧ meth.locks = false ∧ (Jvm.Cond.and given_1 narrow_1).before #[Value.ref b] s = true
theorem g_W.swap {E : g_Env} {A : Nat → Prop} {s : State} {H : Heap} {locs : List Loc} {wa wb : va_W} (X : g_W E A s H locs (wa ++ wb)) : g_W E A s H locs (wb ++ wa) := by
  refine X.idx (fun k => if k < wb.length then wa.length + k else k - wb.length) ?_ ?_
  · intro k q h
    by_cases h1 : k < wb.length
    · simp only [h1, if_true]
      rw [List.getElem?_append_left h1] at h
      rw [List.getElem?_append_right (Nat.le_add_right _ _), Nat.add_sub_cancel_left]
      exact h
    · simp only [h1, if_false]
      rw [List.getElem?_append_right (Nat.le_of_not_lt h1)] at h
      rw [List.getElem?_append_left (List.getElem?_eq_some_iff.mp h).1]
      exact h
  · intro i j hi hj h
    simp only [List.length_append] at hi hj
    by_cases h1 : i < wb.length <;> by_cases h2 : j < wb.length <;> simp only [h1, h2, if_true, if_false] at h <;> omega
theorem g_W.join {E : g_Env} {A0 : Nat → Prop} {s : State} {H H1 : Heap} {locs locs1 : List Loc} {wr wc w1 : va_W} (X : g_W E A0 s H locs (wr ++ wc)) (hF : ∀ q, va_A wc H.size q → A0 q) (hk : ∀ q : Nat, q < H.size → ¬ va_A wc H.size q → H1[q]? = H[q]?) (hP1 : va_P E.1 vwCl w1 H1) (hD1 : va_D (va_A wc H.size) w1) (hS1 : va_S A0 s.heap H1 locs1) : g_W E A0 s H1 locs1 (wr ++ w1) := by
  have at' : ∀ (k : Nat) (q : Nat × va_E), wr[k]? = some q → (wr ++ wc)[k]? = some q := fun k q h => by rw [List.getElem?_append_left (List.getElem?_eq_some_iff.mp h).1]; exact h
  have apart : ∀ (k : Nat) (q : Nat × va_E), wr[k]? = some q → q.1 < H.size ∧ ¬ va_A wc H.size q.1 := by
    intro k q hq
    have hl := (X.1 k q (at' k q hq)).lt
    refine ⟨hl, fun h => ?_⟩
    rcases h with ⟨k2, e, h⟩ | h
    · have h2 : (wr ++ wc)[wr.length + k2]? = some (q.1, e) := by rw [List.getElem?_append_right (Nat.le_add_right _ _), Nat.add_sub_cancel_left]; exact h
      have hij := X.2.1.1 k (wr.length + k2) q (q.1, e) (at' k q hq) h2 rfl
      have := (List.getElem?_eq_some_iff.mp hq).1
      omega
    · omega
  refine ⟨va_P.app (fun k q hq => ?_) hP1, va_D.app ⟨fun i j x y hx hy he => X.2.1.1 i j x y (at' i x hx) (at' j y hy) he, fun k q hq => X.2.1.2 k q (at' k q hq)⟩ (hD1.weaken (fun k q _ h => hF q.1 h)) (fun i j x y hx hy hxy => ?_), hS1⟩
  · obtain ⟨g1, g2⟩ := apart k q hq
    exact (X.1 k q (at' k q hq)).kept (hk q.1 g1 g2)
  · exact (apart i x hx).2 (by rw [hxy]; exact hD1.2 j y hy)
section GL
variable {p : Program} {l : Launch} {e : Env} {R : Room} {s : State} {m : MethodId} {args : Array Value} {below : List Frame} {meth : Method} {c : Code} {H : Heap} {locs : List Loc} {cells slots : Nat} {Q : State → Prop}
variable {cc : ByteArray} {pc nL : Nat} {ls : Array Slot} {rest : List Value} {A0 : Nat → Prop} {wR wC : va_W} {E : g_Env} {own : String} {a : Nat}
variable {y : MethodName} {b' : ByteArray} {n' k' index : Nat} {ret' : Option FieldType} {rm : Room} {As : List Value} {T : u_T} {N : Nat} {fs : List Value} {st : List Value}
theorem L_free (X : g_W E A0 s H locs (wR ++ wC)) (hA : ∀ q, s.heap.size ≤ q → A0 q) : ∀ q, va_A wC H.size q → A0 q := by
  intro q h
  rcases h with ⟨k, e, h⟩ | h
  · have h2 : (wR ++ wC)[wR.length + k]? = some (q, e) := by rw [List.getElem?_append_right (Nat.le_add_right _ _), Nat.add_sub_cancel_left]; exact h
    exact X.2.1.2 _ _ h2
  · exact hA q (Nat.le_trans X.2.2.1 h)
theorem L_run (C : g_C E A0 p s m args c cc nL own) (X : g_W E A0 s H locs (wR ++ wC)) {Qc : (Nat → Prop) → Array Value → State → Outcome → State → Prop} (hM : ∀ A : Nat → Prop, Met l y (.code y b' n' ret' :: g_tbl) rm (va_Pc (.ref a :: As) (g_at E A wC)) (Qc A) rm.cells rm.slots A) (K : g_KV y b' n' ret' k') (hlink : Cond.methodLink own index y ∈ g_tbl) (q0 ci : Nat) (he : wC[q0]? = some (a, .inr (ci, fs))) (hc : vwCl[ci]? = some (y.cls, T, N)) (hl : ls.size = nL) (hn : As.length = k') (hR : rm.frames + 1 ≤ R.frames ∧ 8 + (n' + 11) + rm.locals ≤ R.locals) (hst : st = As.reverse ++ .ref a :: rest) (hre : (rest.map fun v => v.category).sum ≤ 8) (hdg : decode cc pc = .ok (.invokevirtual index, 3)) (hcs : cells + rm.cells ≤ R.cells ∧ slots + rm.slots ≤ R.slots) :
    va_Run p l e R s m args below meth c H locs cells slots rm.cells rm.slots (F0 m pc ls st) rest (Qc (va_A wC H.size) (Value.ref a :: As).toArray) (va_A wC H.size) := by
  have hts := C.1.2.2.2.2
  have hF := L_free X C.2.2.1
  have at' : ∀ (k : Nat) (q : Nat × va_E), wC[k]? = some q → (wR ++ wC)[wR.length + k]? = some q := fun k q h => by rw [List.getElem?_append_right (Nat.le_add_right _ _), Nat.add_sub_cancel_left]; exact h
  refine va_runV (As := As) (rest := rest) C.1 (hM (va_A wC H.size)) ⟨callB_of k' hts (g_good K.1) rfl rfl rfl (hts _ K.2.2.2.1) (hts _ hlink) K.2.2.2.2 hR, hts _ K.2.1, hts _ K.2.2.1⟩ ⟨g_blind, va_recv C.2.1 X.1 hc (at' _ _ he), fun U hU hW => ⟨rfl, ?_⟩⟩ rfl hn hl hst (lv_room hre) hdg hcs
  refine ⟨fun k q hk => by rw [hU]; exact X.1 _ q (at' k q hk), va_K.moved hW.alike C.2.1, ⟨fun i j x z hx hz hxz => ?_, fun k q hk => va_A.in hk⟩, fun q hq => Or.inr (by rw [hU] at hq; exact hq), fun w hw => g_nest_ok w hw s U hW (C.2.2.2.1 w hw), ?_⟩
  · have := X.2.1.1 _ _ x z (at' i x hx) (at' j z hz) hxz
    omega
  · rw [hU]
    exact ((C.2.2.2.2.kept X.2.2.2.1).narrow hF).moved hW.alike
theorem L_runi {P : Int32 → va_W → Prop} (C : g_C E A0 p s m args c cc nL own) (X : g_W E A0 s H locs (wR ++ wC)) (hM : ∀ A : Nat → Prop, Met l y (.code y b' n' ret' :: g_tbl) rm (va_Pc (.ref a :: As) (g_at E A wC)) (va_Qi P (g_B E A) A) rm.cells rm.slots A) (K : g_KV y b' n' ret' k') (hlink : Cond.methodLink own index y ∈ g_tbl) (q0 ci : Nat) (he : wC[q0]? = some (a, .inr (ci, fs))) (hc : vwCl[ci]? = some (y.cls, T, N)) (hl : ls.size = nL) (hn : As.length = k') (hR : rm.frames + 1 ≤ R.frames ∧ 8 + (n' + 11) + rm.locals ≤ R.locals) (hst : st = As.reverse ++ .ref a :: rest) (hre : (rest.map fun v => v.category).sum ≤ 8) (hdg : decode cc pc = .ok (.invokevirtual index, 3)) (hcs : cells + rm.cells ≤ R.cells ∧ slots + rm.slots ≤ R.slots) :
    va_Run p l e R s m args below meth c H locs cells slots rm.cells rm.slots (F0 m pc ls st) rest (va_Qi P (g_B E (va_A wC H.size)) (va_A wC H.size) (Value.ref a :: As).toArray) (va_A wC H.size) :=
  L_run (Qc := fun A => va_Qi P (g_B E A) A) C X hM K hlink q0 ci he hc hl hn hR hst hre hdg hcs
theorem L_runl {P : Int64 → va_W → Prop} (C : g_C E A0 p s m args c cc nL own) (X : g_W E A0 s H locs (wR ++ wC)) (hM : ∀ A : Nat → Prop, Met l y (.code y b' n' ret' :: g_tbl) rm (va_Pc (.ref a :: As) (g_at E A wC)) (va_Ql P (g_B E A) A) rm.cells rm.slots A) (K : g_KV y b' n' ret' k') (hlink : Cond.methodLink own index y ∈ g_tbl) (q0 ci : Nat) (he : wC[q0]? = some (a, .inr (ci, fs))) (hc : vwCl[ci]? = some (y.cls, T, N)) (hl : ls.size = nL) (hn : As.length = k') (hR : rm.frames + 1 ≤ R.frames ∧ 8 + (n' + 11) + rm.locals ≤ R.locals) (hst : st = As.reverse ++ .ref a :: rest) (hre : (rest.map fun v => v.category).sum ≤ 8) (hdg : decode cc pc = .ok (.invokevirtual index, 3)) (hcs : cells + rm.cells ≤ R.cells ∧ slots + rm.slots ≤ R.slots) :
    va_Run p l e R s m args below meth c H locs cells slots rm.cells rm.slots (F0 m pc ls st) rest (va_Ql P (g_B E (va_A wC H.size)) (va_A wC H.size) (Value.ref a :: As).toArray) (va_A wC H.size) :=
  L_run (Qc := fun A => va_Ql P (g_B E A) A) C X hM K hlink q0 ci he hc hl hn hR hst hre hdg hcs
theorem L_calli {P : Int32 → va_W → Prop} {mc ms : Nat} {a' : Array Value} (C : g_C E A0 p s m args c cc nL own) (X : g_W E A0 s H locs (wR ++ wC)) (hr : va_Run p l e R s m args below meth c H locs cells slots mc ms (F0 m pc ls st) rest (va_Qi P (g_B E (va_A wC H.size)) (va_A wC H.size) a') (va_A wC H.size))
    (kk : ∀ (H1 : Heap) (locs1 : List Loc) (r : Int32) (u : va_W), P r u → g_W E A0 s H1 locs1 (wR ++ u) → W p l e R s m args below meth c H1 locs1 (cells + mc) (slots + ms) Q (F0 m (pc + 3) ls (.int r :: rest))) : W p l e R s m args below meth c H locs cells slots Q (F0 m pc ls st) := by
  have hF := L_free X C.2.2.1
  refine va_calli hr X.2.2 (fun q _ h => hF q h) hF (fun r1 u t H1 locs1 ht hvm hw hB hz hk hS => ?_)
  exact kk H1 locs1 r1 u hw (X.join hF hk (by rw [← ht]; exact hB.1) hB.2 hS)
theorem L_calll {P : Int64 → va_W → Prop} {mc ms : Nat} {a' : Array Value} (C : g_C E A0 p s m args c cc nL own) (X : g_W E A0 s H locs (wR ++ wC)) (hr : va_Run p l e R s m args below meth c H locs cells slots mc ms (F0 m pc ls st) rest (va_Ql P (g_B E (va_A wC H.size)) (va_A wC H.size) a') (va_A wC H.size))
    (kk : ∀ (H1 : Heap) (locs1 : List Loc) (r : Int64) (u : va_W), P r u → g_W E A0 s H1 locs1 (wR ++ u) → W p l e R s m args below meth c H1 locs1 (cells + mc) (slots + ms) Q (F0 m (pc + 3) ls (.long r :: rest))) : W p l e R s m args below meth c H locs cells slots Q (F0 m pc ls st) := by
  have hF := L_free X C.2.2.1
  refine va_calll hr X.2.2 (fun q _ h => hF q h) hF (fun r1 u t H1 locs1 ht hvm hw hB hz hk hS => ?_)
  exact kk H1 locs1 r1 u hw (X.join hF hk (by rw [← ht]; exact hB.1) hB.2 hS)
end GL
def stW (I : RS → CS → Prop) (x : Option (Int32 × RS)) (z : (Int32 → CS → Prop) → Prop) : Prop := ∃ (r : Int32) (v' : RS), x = some (r, v') ∧ z (fun r' w' => r' = r ∧ I v' w')
def stF (I : RS → CS → Prop) (x : Option (Int32 × RS)) (z : Option (Int32 × CS)) : Prop := ∃ (r : Int32) (v' : RS) (w' : CS), x = some (r, v') ∧ z = some (r, w') ∧ I v' w'
def stL (I : RS → CS → Prop) (x : Option (Int64 × RS)) (z : Option (Int64 × CS)) : Prop := ∃ (r : Int64) (v' : RS) (w' : CS), x = some (r, v') ∧ z = some (r, w') ∧ I v' w'
theorem kX7_make : g_KV yX7_make cX7_make 4 ((some .int)) 3 := ⟨m_164, m_162, m_163, m_72, ⟨by decide +kernel, by decide +kernel, by decide +kernel⟩⟩
theorem kX8_make : g_KV yX8_make cX8_make 4 ((some .int)) 3 := ⟨m_699, m_697, m_698, m_76, ⟨by decide +kernel, by decide +kernel, by decide +kernel⟩⟩
theorem kX7_lay : g_KV yX7_lay cX7_lay 3 ((some .int)) 2 := ⟨m_328, m_326, m_327, m_72, ⟨by decide +kernel, by decide +kernel, by decide +kernel⟩⟩
theorem kX8_lay : g_KV yX8_lay cX8_lay 3 ((some .int)) 2 := ⟨m_876, m_874, m_875, m_76, ⟨by decide +kernel, by decide +kernel, by decide +kernel⟩⟩
theorem kX7_plug : g_KV yX7_plug cX7_plug 4 ((some .int)) 3 := ⟨m_344, m_342, m_343, m_72, ⟨by decide +kernel, by decide +kernel, by decide +kernel⟩⟩
theorem kX8_plug : g_KV yX8_plug cX8_plug 4 ((some .int)) 3 := ⟨m_880, m_878, m_879, m_76, ⟨by decide +kernel, by decide +kernel, by decide +kernel⟩⟩
theorem kX7_pull : g_KV yX7_pull cX7_pull 4 ((some .int)) 3 := ⟨m_382, m_380, m_381, m_72, ⟨by decide +kernel, by decide +kernel, by decide +kernel⟩⟩
theorem kX8_pull : g_KV yX8_pull cX8_pull 4 ((some .int)) 3 := ⟨m_884, m_882, m_883, m_76, ⟨by decide +kernel, by decide +kernel, by decide +kernel⟩⟩
theorem kX7_copy : g_KV yX7_copy cX7_copy 7 ((some .int)) 5 := ⟨m_390, m_388, m_389, m_72, ⟨by decide +kernel, by decide +kernel, by decide +kernel⟩⟩
theorem kX8_copy : g_KV yX8_copy cX8_copy 6 ((some .int)) 5 := ⟨m_888, m_886, m_887, m_76, ⟨by decide +kernel, by decide +kernel, by decide +kernel⟩⟩
theorem kX7_write : g_KV yX7_write cX7_write 5 ((some .int)) 3 := ⟨m_425, m_423, m_424, m_72, ⟨by decide +kernel, by decide +kernel, by decide +kernel⟩⟩
theorem kX8_write : g_KV yX8_write cX8_write 5 ((some .int)) 3 := ⟨m_892, m_890, m_891, m_76, ⟨by decide +kernel, by decide +kernel, by decide +kernel⟩⟩
theorem kX7_knob : g_KV yX7_knob cX7_knob 3 ((some .int)) 2 := ⟨m_437, m_435, m_436, m_72, ⟨by decide +kernel, by decide +kernel, by decide +kernel⟩⟩
theorem kX8_knob : g_KV yX8_knob cX8_knob 3 ((some .int)) 2 := ⟨m_896, m_894, m_895, m_76, ⟨by decide +kernel, by decide +kernel, by decide +kernel⟩⟩
theorem kX7_play : g_KV yX7_play cX7_play 3 ((some .int)) 2 := ⟨m_446, m_444, m_445, m_72, ⟨by decide +kernel, by decide +kernel, by decide +kernel⟩⟩
theorem kX8_play : g_KV yX8_play cX8_play 3 ((some .int)) 2 := ⟨m_900, m_898, m_899, m_76, ⟨by decide +kernel, by decide +kernel, by decide +kernel⟩⟩
theorem kX7_run : g_KV yX7_run cX7_run 3 ((some .int)) 2 := ⟨m_511, m_509, m_510, m_72, ⟨by decide +kernel, by decide +kernel, by decide +kernel⟩⟩
theorem kX8_run : g_KV yX8_run cX8_run 3 ((some .int)) 2 := ⟨m_904, m_902, m_903, m_76, ⟨by decide +kernel, by decide +kernel, by decide +kernel⟩⟩
theorem kX7_ticks : g_KV yX7_ticks cX7_ticks 3 ((some .int)) 2 := ⟨m_520, m_518, m_519, m_72, ⟨by decide +kernel, by decide +kernel, by decide +kernel⟩⟩
theorem kX8_ticks : g_KV yX8_ticks cX8_ticks 3 ((some .int)) 2 := ⟨m_908, m_906, m_907, m_76, ⟨by decide +kernel, by decide +kernel, by decide +kernel⟩⟩
theorem kX7_rest : g_KV yX7_rest cX7_rest 2 ((some .int)) 1 := ⟨m_536, m_534, m_535, m_72, ⟨by decide +kernel, by decide +kernel, by decide +kernel⟩⟩
theorem kX8_rest : g_KV yX8_rest cX8_rest 2 ((some .int)) 1 := ⟨m_912, m_910, m_911, m_76, ⟨by decide +kernel, by decide +kernel, by decide +kernel⟩⟩
theorem kX7_when : g_KV yX7_when cX7_when 3 ((some .int)) 2 := ⟨m_547, m_545, m_546, m_72, ⟨by decide +kernel, by decide +kernel, by decide +kernel⟩⟩
theorem kX8_when : g_KV yX8_when cX8_when 3 ((some .int)) 2 := ⟨m_916, m_914, m_915, m_76, ⟨by decide +kernel, by decide +kernel, by decide +kernel⟩⟩
theorem kX7_begin : g_KV yX7_begin cX7_begin 1 ((some .int)) 0 := ⟨m_551, m_549, m_550, m_72, ⟨by decide +kernel, by decide +kernel, by decide +kernel⟩⟩
theorem kX8_begin : g_KV yX8_begin cX8_begin 1 ((some .int)) 0 := ⟨m_920, m_918, m_919, m_76, ⟨by decide +kernel, by decide +kernel, by decide +kernel⟩⟩
theorem kX7_end : g_KV yX7_end cX7_end 1 ((some .int)) 0 := ⟨m_559, m_557, m_558, m_72, ⟨by decide +kernel, by decide +kernel, by decide +kernel⟩⟩
theorem kX8_end : g_KV yX8_end cX8_end 1 ((some .int)) 0 := ⟨m_924, m_922, m_923, m_76, ⟨by decide +kernel, by decide +kernel, by decide +kernel⟩⟩
theorem kX7_carry : g_KV yX7_carry cX7_carry 8 ((some .int)) 1 := ⟨m_563, m_561, m_562, m_72, ⟨by decide +kernel, by decide +kernel, by decide +kernel⟩⟩
theorem kX8_carry : g_KV yX8_carry cX8_carry 3 ((some .int)) 1 := ⟨m_928, m_926, m_927, m_76, ⟨by decide +kernel, by decide +kernel, by decide +kernel⟩⟩
theorem kX7_undo : g_KV yX7_undo cX7_undo 1 ((some .int)) 0 := ⟨m_583, m_581, m_582, m_72, ⟨by decide +kernel, by decide +kernel, by decide +kernel⟩⟩
theorem kX8_undo : g_KV yX8_undo cX8_undo 4 ((some .int)) 0 := ⟨m_944, m_942, m_943, m_76, ⟨by decide +kernel, by decide +kernel, by decide +kernel⟩⟩
theorem kX7_acts : g_KV yX7_acts cX7_acts 1 ((some .int)) 0 := ⟨m_591, m_589, m_590, m_72, ⟨by decide +kernel, by decide +kernel, by decide +kernel⟩⟩
theorem kX8_acts : g_KV yX8_acts cX8_acts 1 ((some .int)) 0 := ⟨m_948, m_946, m_947, m_76, ⟨by decide +kernel, by decide +kernel, by decide +kernel⟩⟩
theorem kX7_ask : g_KV yX7_ask cX7_ask 3 ((some .int)) 2 := ⟨m_595, m_593, m_594, m_72, ⟨by decide +kernel, by decide +kernel, by decide +kernel⟩⟩
theorem kX8_ask : g_KV yX8_ask cX8_ask 3 ((some .int)) 2 := ⟨m_952, m_950, m_951, m_76, ⟨by decide +kernel, by decide +kernel, by decide +kernel⟩⟩
theorem kX7_take : g_KV yX7_take cX7_take 5 ((some .long)) 3 := ⟨m_599, m_597, m_598, m_72, ⟨by decide +kernel, by decide +kernel, by decide +kernel⟩⟩
theorem kX8_take : g_KV yX8_take cX8_take 5 ((some .long)) 3 := ⟨m_956, m_954, m_955, m_76, ⟨by decide +kernel, by decide +kernel, by decide +kernel⟩⟩
theorem kX7_size : g_KV yX7_size cX7_size 2 ((some .int)) 1 := ⟨m_618, m_616, m_617, m_72, ⟨by decide +kernel, by decide +kernel, by decide +kernel⟩⟩
theorem kX8_size : g_KV yX8_size cX8_size 2 ((some .int)) 1 := ⟨m_968, m_966, m_967, m_76, ⟨by decide +kernel, by decide +kernel, by decide +kernel⟩⟩
theorem kX7_read : g_KV yX7_read cX7_read 3 ((some .long)) 2 := ⟨m_622, m_620, m_621, m_72, ⟨by decide +kernel, by decide +kernel, by decide +kernel⟩⟩
theorem kX8_read : g_KV yX8_read cX8_read 3 ((some .long)) 2 := ⟨m_972, m_970, m_971, m_76, ⟨by decide +kernel, by decide +kernel, by decide +kernel⟩⟩
theorem kX7_at : g_KV yX7_at cX7_at 6 ((some .int)) 3 := ⟨m_626, m_624, m_625, m_72, ⟨by decide +kernel, by decide +kernel, by decide +kernel⟩⟩
theorem kX8_at : g_KV yX8_at cX8_at 6 ((some .int)) 3 := ⟨m_976, m_974, m_975, m_76, ⟨by decide +kernel, by decide +kernel, by decide +kernel⟩⟩
theorem kX7_tell : g_KV yX7_tell cX7_tell 4 ((some .int)) 2 := ⟨m_630, m_628, m_629, m_72, ⟨by decide +kernel, by decide +kernel, by decide +kernel⟩⟩
theorem kX8_tell : g_KV yX8_tell cX8_tell 4 ((some .int)) 2 := ⟨m_980, m_978, m_979, m_76, ⟨by decide +kernel, by decide +kernel, by decide +kernel⟩⟩
theorem kX7_why : g_KV yX7_why cX7_why 1 ((some .int)) 0 := ⟨m_634, m_632, m_633, m_72, ⟨by decide +kernel, by decide +kernel, by decide +kernel⟩⟩
theorem kX8_why : g_KV yX8_why cX8_why 1 ((some .int)) 0 := ⟨m_984, m_982, m_983, m_76, ⟨by decide +kernel, by decide +kernel, by decide +kernel⟩⟩
set_option maxRecDepth 100000 in
set_option maxHeartbeats 4000000 in
theorem law_loop {p : Program} {e : Env} {s : State} {m : MethodId} {below : List Frame} {meth : Method} {c : Code} (l : Launch) {b L : Nat} {xs : Nat → Int32} (hL : L ≤ 3072) (E : g_Env) (C : g_C E (fun q : Nat => s.heap.size ≤ q) p s m #[Value.ref b] c code 4 R_law) (hX : va_X b L xs s s.heap) (hbl : b < s.heap.size) (hr : meth.sig.returnType = ret) (hlocks : meth.locks = false) (I : Nat → RS → CS → Prop) (hI_skip : ∀ (n : Nat) (v : RS) (w : CS), n < 512 → I n v w → I (n + 1) v w) (hs_make : ∀ (n : Nat) (v : RS) (w : CS) (a0 : Int32) (a1 : Int32) (a2 : Int32), n < 512 → I n v w → stW (I (n + 1)) (fR_make v a0 a1 a2) (fun Q => wC__make E Q w a0 a1 a2)) (hs_lay : ∀ (n : Nat) (v : RS) (w : CS) (a0 : Int32) (a1 : Int32), n < 512 → I n v w → stW (I (n + 1)) (fR_lay v a0 a1) (fun Q => wC__lay E Q w a0 a1)) (hs_plug : ∀ (n : Nat) (v : RS) (w : CS) (a0 : Int32) (a1 : Int32) (a2 : Int32), n < 512 → I n v w → stW (I (n + 1)) (fR_plug v a0 a1 a2) (fun Q => wC__plug E Q w a0 a1 a2)) (hs_pull : ∀ (n : Nat) (v : RS) (w : CS) (a0 : Int32) (a1 : Int32) (a2 : Int32), n < 512 → I n v w → stW (I (n + 1)) (fR_pull v a0 a1 a2) (fun Q => wC__pull E Q w a0 a1 a2)) (hs_copy : ∀ (n : Nat) (v : RS) (w : CS) (a0 : Int32) (a1 : Int32) (a2 : Int32) (a3 : Int32) (a4 : Int32), n < 512 → I n v w → stW (I (n + 1)) (fR_copy v a0 a1 a2 a3 a4) (fun Q => wC__copy E Q w a0 a1 a2 a3 a4)) (hs_write : ∀ (n : Nat) (v : RS) (w : CS) (a0 : Int32) (a1 : Int32) (a2 : Int64), n < 512 → I n v w → stW (I (n + 1)) (fR_write v a0 a1 a2) (fun Q => wC__write E Q w a0 a1 a2)) (hs_knob : ∀ (n : Nat) (v : RS) (w : CS) (a0 : Int32) (a1 : Int32), n < 512 → I n v w → stW (I (n + 1)) (fR_knob v a0 a1) (fun Q => wC__knob E Q w a0 a1)) (hs_play : ∀ (n : Nat) (v : RS) (w : CS) (a0 : Int32) (a1 : Int32), n < 512 → I n v w → stW (I (n + 1)) (fR_play v a0 a1) (fun Q => wC__play E Q w a0 a1)) (hs_run : ∀ (n : Nat) (v : RS) (w : CS) (a0 : Int32) (a1 : Int32), n < 512 → I n v w → stW (I (n + 1)) (fR_run v a0 a1) (fun Q => wC__run E Q w a0 a1)) (hs_ticks : ∀ (n : Nat) (v : RS) (w : CS) (a0 : Int32) (a1 : Int32), n < 512 → I n v w → stW (I (n + 1)) (fR_ticks v a0 a1) (fun Q => wC__ticks E Q w a0 a1)) (hs_rest : ∀ (n : Nat) (v : RS) (w : CS) (a0 : Int32), n < 512 → I n v w → stW (I (n + 1)) (fR_rest v a0) (fun Q => wC__rest E Q w a0)) (hs_when : ∀ (n : Nat) (v : RS) (w : CS) (a0 : Int32) (a1 : Int32), n < 512 → I n v w → stW (I (n + 1)) (fR_when v a0 a1) (fun Q => wC__when E Q w a0 a1)) (hs_begin : ∀ (n : Nat) (v : RS) (w : CS) , n < 512 → I n v w → stF (I (n + 1)) (fR_begin v ) (fC__begin w )) (hs_end : ∀ (n : Nat) (v : RS) (w : CS) , n < 512 → I n v w → stF (I (n + 1)) (fR_end v ) (fC__end w )) (hs_carry : ∀ (n : Nat) (v : RS) (w : CS) (a0 : Int32), n < 512 → I n v w → stW (I (n + 1)) (fR_carry v a0) (fun Q => wC__carry E Q w a0)) (hs_undo : ∀ (n : Nat) (v : RS) (w : CS) , n < 512 → I n v w → stW (I (n + 1)) (fR_undo v ) (fun Q => wC__undo E Q w )) (hs_acts : ∀ (n : Nat) (v : RS) (w : CS) , n < 512 → I n v w → stF (I (n + 1)) (fR_acts v ) (fC__acts w )) (hs_ask : ∀ (n : Nat) (v : RS) (w : CS) (a0 : Int32) (a1 : Int32), n < 512 → I n v w → stF (I (n + 1)) (fR_ask v a0 a1) (fC__ask w a0 a1)) (hs_take : ∀ (n : Nat) (v : RS) (w : CS) (a0 : Int32) (a1 : Int32) (a2 : Int32), n < 512 → I n v w → stL (I (n + 1)) (fR_take v a0 a1 a2) (fC__take w a0 a1 a2)) (hs_size : ∀ (n : Nat) (v : RS) (w : CS) (a0 : Int32), n < 512 → I n v w → stF (I (n + 1)) (fR_size v a0) (fC__size w a0)) (hs_read : ∀ (n : Nat) (v : RS) (w : CS) (a0 : Int32) (a1 : Int32), n < 512 → I n v w → stL (I (n + 1)) (fR_read v a0 a1) (fC__read w a0 a1)) (hs_at : ∀ (n : Nat) (v : RS) (w : CS) (a0 : Int32) (a1 : Int32) (a2 : Int32), n < 512 → I n v w → stF (I (n + 1)) (fR_at v a0 a1 a2) (fC__at w a0 a1 a2)) (hs_tell : ∀ (n : Nat) (v : RS) (w : CS) (a0 : Int32) (a1 : Int32), n < 512 → I n v w → stF (I (n + 1)) (fR_tell v a0 a1) (fC__tell w a0 a1)) (hs_why : ∀ (n : Nat) (v : RS) (w : CS) , n < 512 → I n v w → stF (I (n + 1)) (fR_why v ) (fC__why w )) : ∀ (n k : Nat), k + n = 513 → 6 * k ≤ L → ∀ (x3 : Int32), x3 = nI (6 * k) → ∀ (v : RS) (w : CS) (ad : Nat → Nat) (mo : Nat) (adR : Nat → Nat) (H : Heap) (locs : List Loc) (ls : Array Slot), I k v w → lv_has ls 4 [(0, .ref b), (1, .ref (ad 0)), (2, .ref mo), (3, .int x3)] → g_W E (fun q : Nat => s.heap.size ≤ q) s H locs (wsR E mo adR v ++ wsC E ad w) → W p l e room_1 s m #[Value.ref b] below meth c H locs (21 + 3 * k) (12760 + 2798 * k) (lw_Z below #[Value.ref b] s) (F0 m 18 ls []) := by
  have hx := C.1.1
  have hb := C.1.2.1
  have hbA : ¬ (fun q : Nat => s.heap.size ≤ q) b := Nat.not_le.mpr hbl
  intro n
  induction n with
  | zero => intro k hk h6; omega
  | succ n ih =>
    intro k hk h6 x3 ex3 v w ad mo adR H locs ls hI hl X
    refine lv_iload_n hx hb dL_law_18 rfl (lv_at hl 3 rfl) ?_
    refine lv_aload_n hx hb dL_law_19 rfl (lv_at hl 0 rfl) ?_
    refine va_slen hx hb hX hbl hbA X.2.2 dL_law_20 ?_
    refine lv_bipush (v := 6) hx hb dL_law_21 (by decide) ?_
    refine lv_isub hx hb dL_law_23 ?_
    have hd1 : (Int32.ofNat L - (6 : Int32)).toInt = (L : Int) - 6 := pk_sub_toInt (a := L) (b := 6) (by omega) (by omega)
    have hd2 : x3.toInt = ((6 * k : Nat) : Int) := by rw [ex3]; exact nI_toInt (by omega)
    refine lv_icmp_gt (tgt := 934) hx hb dL_law_24 (by decide) (fun c24 => ?_) (fun c24 => ?_)
    · refine lv_iconst (v := 1) hx hb dL_law_934 (by decide) ?_
      refine va_forget (fun q hq => X.2.2.2.2 q hq) ?_
      refine W.widen (k := 600000) (n := 7302250) (by omega) (by omega) ?_
      exact lw_ret hx hb hr hlocks dL_law_935
    have h66 : 6 * k + 6 ≤ L := by
      have := mt Int32.lt_iff_toInt_lt.mpr c24
      rw [hd1, hd2] at this
      omega
    have hk5 : k < 512 := by omega
    have hi0 : vp_in x3 L := by rw [ex3]; exact vp_in_nI (by omega) (by omega)
    have hi1 : vp_in (x3 + (1 : Int32)) L := by rw [ex3, show nI (6 * k) + (1 : Int32) = nI (6 * k + 1) from nI_add (6 * k) 1]; exact vp_in_nI (by omega) (by omega)
    have hi2 : vp_in (x3 + (2 : Int32)) L := by rw [ex3, show nI (6 * k) + (2 : Int32) = nI (6 * k + 2) from nI_add (6 * k) 2]; exact vp_in_nI (by omega) (by omega)
    have hi3 : vp_in (x3 + (3 : Int32)) L := by rw [ex3, show nI (6 * k) + (3 : Int32) = nI (6 * k + 3) from nI_add (6 * k) 3]; exact vp_in_nI (by omega) (by omega)
    have hi4 : vp_in (x3 + (4 : Int32)) L := by rw [ex3, show nI (6 * k) + (4 : Int32) = nI (6 * k + 4) from nI_add (6 * k) 4]; exact vp_in_nI (by omega) (by omega)
    have hi5 : vp_in (x3 + (5 : Int32)) L := by rw [ex3, show nI (6 * k) + (5 : Int32) = nI (6 * k + 5) from nI_add (6 * k) 5]; exact vp_in_nI (by omega) (by omega)
    have fin : ∀ (v : RS) (w : CS) (H : Heap) (locs : List Loc) (ls : Array Slot), I (k + 1) v w → lv_has ls 4 [(0, .ref b), (1, .ref (ad 0)), (2, .ref mo), (3, .int x3)] → g_W E (fun q : Nat => s.heap.size ≤ q) s H locs (wsR E mo adR v ++ wsC E ad w) → W p l e room_1 s m #[Value.ref b] below meth c H locs (21 + 3 * (k + 1)) (12760 + 2798 * (k + 1)) (lw_Z below #[Value.ref b] s) (F0 m 928 ls []) := by
      intro v w H locs ls hI hl X
      refine lv_iinc (v := nI (6 * (k + 1))) (lv' := [(3, .int (nI (6 * (k + 1)))), (0, .ref b), (1, .ref (ad 0)), (2, .ref mo)]) hx hb dL_law_928 hl (k := 3) rfl (by rw [ex3]; exact nI_add (6 * k) 6) (by decide) rfl (fun ls hl => ?_)
      refine lv_goto (tgt := 18) hx hb dL_law_931 (by decide) ?_
      exact ih (k + 1) (by omega) (by omega) _ rfl v w ad mo adR H locs ls hI (lv_sub hl [1, 2, 3, 0] rfl) X
    refine lv_aload_n hx hb dL_law_27 rfl (lv_at hl 0 rfl) ?_
    refine lv_iload_n hx hb dL_law_28 rfl (lv_at hl 3 rfl) ?_
    refine va_sld hx hb hX hbl hbA X.2.2 hi0 dL_law_29 ?_
    refine lv_bipush (v := 31) hx hb dL_law_30 (by decide) ?_
    refine lv_iand hx hb dL_law_32 ?_
    refine lv_topi (fun sw esw => ?_)
    by_cases s0 : sw = (0 : Int32)
    · refine g_tabIn (tgt := 144) hx hb s0 dL_law_33 (by decide) (by decide) rfl (by decide) ?_
      refine lv_aload_n hx hb dL_law_144 rfl (lv_at hl 1 rfl) ?_
      refine lv_aload_n hx hb dL_law_145 rfl (lv_at hl 0 rfl) ?_
      refine lv_iload_n hx hb dL_law_146 rfl (lv_at hl 3 rfl) ?_
      refine lv_iconst (v := 1) hx hb dL_law_147 (by decide) ?_
      refine lv_iadd hx hb dL_law_148 ?_
      refine va_sld hx hb hX hbl hbA X.2.2 hi1 dL_law_149 ?_
      refine lv_aload_n hx hb dL_law_150 rfl (lv_at hl 0 rfl) ?_
      refine lv_iload_n hx hb dL_law_151 rfl (lv_at hl 3 rfl) ?_
      refine lv_iconst (v := 2) hx hb dL_law_152 (by decide) ?_
      refine lv_iadd hx hb dL_law_153 ?_
      refine va_sld hx hb hX hbl hbA X.2.2 hi2 dL_law_154 ?_
      refine lv_aload_n hx hb dL_law_155 rfl (lv_at hl 0 rfl) ?_
      refine lv_iload_n hx hb dL_law_156 rfl (lv_at hl 3 rfl) ?_
      refine lv_iconst (v := 3) hx hb dL_law_157 (by decide) ?_
      refine lv_iadd hx hb dL_law_158 ?_
      refine va_sld hx hb hX hbl hbA X.2.2 hi3 dL_law_159 ?_
      obtain ⟨r, v2, er, hw⟩ := hs_make k v w (xs (x3 + (1 : Int32)).toNatClampNeg) (xs (x3 + (2 : Int32)).toNatClampNeg) (xs (x3 + (3 : Int32)).toNatClampNeg) hk5 hI
      refine L_calli C X (L_runi (rm := { frames := 7, cells := 3, slots := 2798, locals := 176 }) (As := [.int (xs (x3 + (1 : Int32)).toNatClampNeg), .int (xs (x3 + (2 : Int32)).toNatClampNeg), .int (xs (x3 + (3 : Int32)).toNatClampNeg)]) (rest := []) C X (fun A => cC__make l E A ad w (xs (x3 + (1 : Int32)).toNatClampNeg) (xs (x3 + (2 : Int32)).toNatClampNeg) (xs (x3 + (3 : Int32)).toNatClampNeg) _ hw) kX7_make m_161 0 5 rfl rfl hl.1 rfl ⟨Nat.le_of_ble_eq_true rfl, Nat.le_of_ble_eq_true rfl⟩ rfl (Nat.le_of_ble_eq_true rfl) dL_law_160 ⟨by show 21 + 3 * k + 3 ≤ 600000; omega, by show 12760 + 2798 * k + 2798 ≤ 7302250; omega⟩) (fun H locs r1 u hu X => ?_)
      obtain ⟨w2, rfl, rfl, hI2⟩ := hu
      refine W.widen (k := 21 + 3 * (k + 1)) (n := 12760 + 2798 * (k + 1)) (by show 21 + 3 * k + 3 ≤ 21 + 3 * (k + 1); omega) (by show 12760 + 2798 * k + 2798 ≤ 12760 + 2798 * (k + 1); omega) ?_
      refine lv_aload_n hx hb dL_law_163 rfl (lv_at hl 2 rfl) ?_
      refine lv_aload_n hx hb dL_law_164 rfl (lv_at hl 0 rfl) ?_
      refine lv_iload_n hx hb dL_law_165 rfl (lv_at hl 3 rfl) ?_
      refine lv_iconst (v := 1) hx hb dL_law_166 (by decide) ?_
      refine lv_iadd hx hb dL_law_167 ?_
      refine va_sld hx hb hX hbl hbA X.2.2 hi1 dL_law_168 ?_
      refine lv_aload_n hx hb dL_law_169 rfl (lv_at hl 0 rfl) ?_
      refine lv_iload_n hx hb dL_law_170 rfl (lv_at hl 3 rfl) ?_
      refine lv_iconst (v := 2) hx hb dL_law_171 (by decide) ?_
      refine lv_iadd hx hb dL_law_172 ?_
      refine va_sld hx hb hX hbl hbA X.2.2 hi2 dL_law_173 ?_
      refine lv_aload_n hx hb dL_law_174 rfl (lv_at hl 0 rfl) ?_
      refine lv_iload_n hx hb dL_law_175 rfl (lv_at hl 3 rfl) ?_
      refine lv_iconst (v := 3) hx hb dL_law_176 (by decide) ?_
      refine lv_iadd hx hb dL_law_177 ?_
      refine va_sld hx hb hX hbl hbA X.2.2 hi3 dL_law_178 ?_
      refine L_calli C X.swap (L_runi (rm := { frames := 8, cells := 0, slots := 0, locals := 197 }) (As := [.int (xs (x3 + (1 : Int32)).toNatClampNeg), .int (xs (x3 + (2 : Int32)).toNatClampNeg), .int (xs (x3 + (3 : Int32)).toNatClampNeg)]) (rest := [.int (r1)]) C X.swap (fun A => cR_make l E A mo adR v v2 r1 (xs (x3 + (1 : Int32)).toNatClampNeg) (xs (x3 + (2 : Int32)).toNatClampNeg) (xs (x3 + (3 : Int32)).toNatClampNeg) er) kX8_make m_696 0 6 rfl rfl hl.1 rfl ⟨Nat.le_of_ble_eq_true rfl, Nat.le_of_ble_eq_true rfl⟩ rfl (Nat.le_of_ble_eq_true rfl) dL_law_179 ⟨by show 21 + 3 * (k + 1) + 0 ≤ 600000; omega, by show 12760 + 2798 * (k + 1) + 0 ≤ 7302250; omega⟩) (fun H locs r2 u hu X => ?_)
      obtain ⟨rfl, rfl⟩ := hu
      have X := X.swap
      refine lv_icmp_eq (tgt := 928) hx hb dL_law_182 (by decide) (fun _ => ?_) (fun c9 => absurd rfl c9)
      exact fin v2 w2 H locs ls hI2 hl X
    by_cases s1 : sw = (1 : Int32)
    · refine g_tabIn (tgt := 187) hx hb s1 dL_law_33 (by decide) (by decide) rfl (by decide) ?_
      refine lv_aload_n hx hb dL_law_187 rfl (lv_at hl 1 rfl) ?_
      refine lv_aload_n hx hb dL_law_188 rfl (lv_at hl 0 rfl) ?_
      refine lv_iload_n hx hb dL_law_189 rfl (lv_at hl 3 rfl) ?_
      refine lv_iconst (v := 1) hx hb dL_law_190 (by decide) ?_
      refine lv_iadd hx hb dL_law_191 ?_
      refine va_sld hx hb hX hbl hbA X.2.2 hi1 dL_law_192 ?_
      refine lv_aload_n hx hb dL_law_193 rfl (lv_at hl 0 rfl) ?_
      refine lv_iload_n hx hb dL_law_194 rfl (lv_at hl 3 rfl) ?_
      refine lv_iconst (v := 2) hx hb dL_law_195 (by decide) ?_
      refine lv_iadd hx hb dL_law_196 ?_
      refine va_sld hx hb hX hbl hbA X.2.2 hi2 dL_law_197 ?_
      obtain ⟨r, v2, er, hw⟩ := hs_lay k v w (xs (x3 + (1 : Int32)).toNatClampNeg) (xs (x3 + (2 : Int32)).toNatClampNeg) hk5 hI
      refine L_calli C X (L_runi (rm := { frames := 7, cells := 3, slots := 2798, locals := 176 }) (As := [.int (xs (x3 + (1 : Int32)).toNatClampNeg), .int (xs (x3 + (2 : Int32)).toNatClampNeg)]) (rest := []) C X (fun A => cC__lay l E A ad w (xs (x3 + (1 : Int32)).toNatClampNeg) (xs (x3 + (2 : Int32)).toNatClampNeg) _ hw) kX7_lay m_325 0 5 rfl rfl hl.1 rfl ⟨Nat.le_of_ble_eq_true rfl, Nat.le_of_ble_eq_true rfl⟩ rfl (Nat.le_of_ble_eq_true rfl) dL_law_198 ⟨by show 21 + 3 * k + 3 ≤ 600000; omega, by show 12760 + 2798 * k + 2798 ≤ 7302250; omega⟩) (fun H locs r1 u hu X => ?_)
      obtain ⟨w2, rfl, rfl, hI2⟩ := hu
      refine W.widen (k := 21 + 3 * (k + 1)) (n := 12760 + 2798 * (k + 1)) (by show 21 + 3 * k + 3 ≤ 21 + 3 * (k + 1); omega) (by show 12760 + 2798 * k + 2798 ≤ 12760 + 2798 * (k + 1); omega) ?_
      refine lv_aload_n hx hb dL_law_201 rfl (lv_at hl 2 rfl) ?_
      refine lv_aload_n hx hb dL_law_202 rfl (lv_at hl 0 rfl) ?_
      refine lv_iload_n hx hb dL_law_203 rfl (lv_at hl 3 rfl) ?_
      refine lv_iconst (v := 1) hx hb dL_law_204 (by decide) ?_
      refine lv_iadd hx hb dL_law_205 ?_
      refine va_sld hx hb hX hbl hbA X.2.2 hi1 dL_law_206 ?_
      refine lv_aload_n hx hb dL_law_207 rfl (lv_at hl 0 rfl) ?_
      refine lv_iload_n hx hb dL_law_208 rfl (lv_at hl 3 rfl) ?_
      refine lv_iconst (v := 2) hx hb dL_law_209 (by decide) ?_
      refine lv_iadd hx hb dL_law_210 ?_
      refine va_sld hx hb hX hbl hbA X.2.2 hi2 dL_law_211 ?_
      refine L_calli C X.swap (L_runi (rm := { frames := 8, cells := 0, slots := 0, locals := 197 }) (As := [.int (xs (x3 + (1 : Int32)).toNatClampNeg), .int (xs (x3 + (2 : Int32)).toNatClampNeg)]) (rest := [.int (r1)]) C X.swap (fun A => cR_lay l E A mo adR v v2 r1 (xs (x3 + (1 : Int32)).toNatClampNeg) (xs (x3 + (2 : Int32)).toNatClampNeg) er) kX8_lay m_873 0 6 rfl rfl hl.1 rfl ⟨Nat.le_of_ble_eq_true rfl, Nat.le_of_ble_eq_true rfl⟩ rfl (Nat.le_of_ble_eq_true rfl) dL_law_212 ⟨by show 21 + 3 * (k + 1) + 0 ≤ 600000; omega, by show 12760 + 2798 * (k + 1) + 0 ≤ 7302250; omega⟩) (fun H locs r2 u hu X => ?_)
      obtain ⟨rfl, rfl⟩ := hu
      have X := X.swap
      refine lv_icmp_eq (tgt := 928) hx hb dL_law_215 (by decide) (fun _ => ?_) (fun c9 => absurd rfl c9)
      exact fin v2 w2 H locs ls hI2 hl X
    by_cases s2 : sw = (2 : Int32)
    · refine g_tabIn (tgt := 220) hx hb s2 dL_law_33 (by decide) (by decide) rfl (by decide) ?_
      refine lv_aload_n hx hb dL_law_220 rfl (lv_at hl 1 rfl) ?_
      refine lv_aload_n hx hb dL_law_221 rfl (lv_at hl 0 rfl) ?_
      refine lv_iload_n hx hb dL_law_222 rfl (lv_at hl 3 rfl) ?_
      refine lv_iconst (v := 1) hx hb dL_law_223 (by decide) ?_
      refine lv_iadd hx hb dL_law_224 ?_
      refine va_sld hx hb hX hbl hbA X.2.2 hi1 dL_law_225 ?_
      refine lv_aload_n hx hb dL_law_226 rfl (lv_at hl 0 rfl) ?_
      refine lv_iload_n hx hb dL_law_227 rfl (lv_at hl 3 rfl) ?_
      refine lv_iconst (v := 2) hx hb dL_law_228 (by decide) ?_
      refine lv_iadd hx hb dL_law_229 ?_
      refine va_sld hx hb hX hbl hbA X.2.2 hi2 dL_law_230 ?_
      refine lv_aload_n hx hb dL_law_231 rfl (lv_at hl 0 rfl) ?_
      refine lv_iload_n hx hb dL_law_232 rfl (lv_at hl 3 rfl) ?_
      refine lv_iconst (v := 3) hx hb dL_law_233 (by decide) ?_
      refine lv_iadd hx hb dL_law_234 ?_
      refine va_sld hx hb hX hbl hbA X.2.2 hi3 dL_law_235 ?_
      obtain ⟨r, v2, er, hw⟩ := hs_plug k v w (xs (x3 + (1 : Int32)).toNatClampNeg) (xs (x3 + (2 : Int32)).toNatClampNeg) (xs (x3 + (3 : Int32)).toNatClampNeg) hk5 hI
      refine L_calli C X (L_runi (rm := { frames := 7, cells := 3, slots := 2798, locals := 176 }) (As := [.int (xs (x3 + (1 : Int32)).toNatClampNeg), .int (xs (x3 + (2 : Int32)).toNatClampNeg), .int (xs (x3 + (3 : Int32)).toNatClampNeg)]) (rest := []) C X (fun A => cC__plug l E A ad w (xs (x3 + (1 : Int32)).toNatClampNeg) (xs (x3 + (2 : Int32)).toNatClampNeg) (xs (x3 + (3 : Int32)).toNatClampNeg) _ hw) kX7_plug m_341 0 5 rfl rfl hl.1 rfl ⟨Nat.le_of_ble_eq_true rfl, Nat.le_of_ble_eq_true rfl⟩ rfl (Nat.le_of_ble_eq_true rfl) dL_law_236 ⟨by show 21 + 3 * k + 3 ≤ 600000; omega, by show 12760 + 2798 * k + 2798 ≤ 7302250; omega⟩) (fun H locs r1 u hu X => ?_)
      obtain ⟨w2, rfl, rfl, hI2⟩ := hu
      refine W.widen (k := 21 + 3 * (k + 1)) (n := 12760 + 2798 * (k + 1)) (by show 21 + 3 * k + 3 ≤ 21 + 3 * (k + 1); omega) (by show 12760 + 2798 * k + 2798 ≤ 12760 + 2798 * (k + 1); omega) ?_
      refine lv_aload_n hx hb dL_law_239 rfl (lv_at hl 2 rfl) ?_
      refine lv_aload_n hx hb dL_law_240 rfl (lv_at hl 0 rfl) ?_
      refine lv_iload_n hx hb dL_law_241 rfl (lv_at hl 3 rfl) ?_
      refine lv_iconst (v := 1) hx hb dL_law_242 (by decide) ?_
      refine lv_iadd hx hb dL_law_243 ?_
      refine va_sld hx hb hX hbl hbA X.2.2 hi1 dL_law_244 ?_
      refine lv_aload_n hx hb dL_law_245 rfl (lv_at hl 0 rfl) ?_
      refine lv_iload_n hx hb dL_law_246 rfl (lv_at hl 3 rfl) ?_
      refine lv_iconst (v := 2) hx hb dL_law_247 (by decide) ?_
      refine lv_iadd hx hb dL_law_248 ?_
      refine va_sld hx hb hX hbl hbA X.2.2 hi2 dL_law_249 ?_
      refine lv_aload_n hx hb dL_law_250 rfl (lv_at hl 0 rfl) ?_
      refine lv_iload_n hx hb dL_law_251 rfl (lv_at hl 3 rfl) ?_
      refine lv_iconst (v := 3) hx hb dL_law_252 (by decide) ?_
      refine lv_iadd hx hb dL_law_253 ?_
      refine va_sld hx hb hX hbl hbA X.2.2 hi3 dL_law_254 ?_
      refine L_calli C X.swap (L_runi (rm := { frames := 8, cells := 0, slots := 0, locals := 197 }) (As := [.int (xs (x3 + (1 : Int32)).toNatClampNeg), .int (xs (x3 + (2 : Int32)).toNatClampNeg), .int (xs (x3 + (3 : Int32)).toNatClampNeg)]) (rest := [.int (r1)]) C X.swap (fun A => cR_plug l E A mo adR v v2 r1 (xs (x3 + (1 : Int32)).toNatClampNeg) (xs (x3 + (2 : Int32)).toNatClampNeg) (xs (x3 + (3 : Int32)).toNatClampNeg) er) kX8_plug m_877 0 6 rfl rfl hl.1 rfl ⟨Nat.le_of_ble_eq_true rfl, Nat.le_of_ble_eq_true rfl⟩ rfl (Nat.le_of_ble_eq_true rfl) dL_law_255 ⟨by show 21 + 3 * (k + 1) + 0 ≤ 600000; omega, by show 12760 + 2798 * (k + 1) + 0 ≤ 7302250; omega⟩) (fun H locs r2 u hu X => ?_)
      obtain ⟨rfl, rfl⟩ := hu
      have X := X.swap
      refine lv_icmp_eq (tgt := 928) hx hb dL_law_258 (by decide) (fun _ => ?_) (fun c9 => absurd rfl c9)
      exact fin v2 w2 H locs ls hI2 hl X
    by_cases s3 : sw = (3 : Int32)
    · refine g_tabIn (tgt := 263) hx hb s3 dL_law_33 (by decide) (by decide) rfl (by decide) ?_
      refine lv_aload_n hx hb dL_law_263 rfl (lv_at hl 1 rfl) ?_
      refine lv_aload_n hx hb dL_law_264 rfl (lv_at hl 0 rfl) ?_
      refine lv_iload_n hx hb dL_law_265 rfl (lv_at hl 3 rfl) ?_
      refine lv_iconst (v := 1) hx hb dL_law_266 (by decide) ?_
      refine lv_iadd hx hb dL_law_267 ?_
      refine va_sld hx hb hX hbl hbA X.2.2 hi1 dL_law_268 ?_
      refine lv_aload_n hx hb dL_law_269 rfl (lv_at hl 0 rfl) ?_
      refine lv_iload_n hx hb dL_law_270 rfl (lv_at hl 3 rfl) ?_
      refine lv_iconst (v := 2) hx hb dL_law_271 (by decide) ?_
      refine lv_iadd hx hb dL_law_272 ?_
      refine va_sld hx hb hX hbl hbA X.2.2 hi2 dL_law_273 ?_
      refine lv_aload_n hx hb dL_law_274 rfl (lv_at hl 0 rfl) ?_
      refine lv_iload_n hx hb dL_law_275 rfl (lv_at hl 3 rfl) ?_
      refine lv_iconst (v := 3) hx hb dL_law_276 (by decide) ?_
      refine lv_iadd hx hb dL_law_277 ?_
      refine va_sld hx hb hX hbl hbA X.2.2 hi3 dL_law_278 ?_
      obtain ⟨r, v2, er, hw⟩ := hs_pull k v w (xs (x3 + (1 : Int32)).toNatClampNeg) (xs (x3 + (2 : Int32)).toNatClampNeg) (xs (x3 + (3 : Int32)).toNatClampNeg) hk5 hI
      refine L_calli C X (L_runi (rm := { frames := 7, cells := 3, slots := 2798, locals := 176 }) (As := [.int (xs (x3 + (1 : Int32)).toNatClampNeg), .int (xs (x3 + (2 : Int32)).toNatClampNeg), .int (xs (x3 + (3 : Int32)).toNatClampNeg)]) (rest := []) C X (fun A => cC__pull l E A ad w (xs (x3 + (1 : Int32)).toNatClampNeg) (xs (x3 + (2 : Int32)).toNatClampNeg) (xs (x3 + (3 : Int32)).toNatClampNeg) _ hw) kX7_pull m_379 0 5 rfl rfl hl.1 rfl ⟨Nat.le_of_ble_eq_true rfl, Nat.le_of_ble_eq_true rfl⟩ rfl (Nat.le_of_ble_eq_true rfl) dL_law_279 ⟨by show 21 + 3 * k + 3 ≤ 600000; omega, by show 12760 + 2798 * k + 2798 ≤ 7302250; omega⟩) (fun H locs r1 u hu X => ?_)
      obtain ⟨w2, rfl, rfl, hI2⟩ := hu
      refine W.widen (k := 21 + 3 * (k + 1)) (n := 12760 + 2798 * (k + 1)) (by show 21 + 3 * k + 3 ≤ 21 + 3 * (k + 1); omega) (by show 12760 + 2798 * k + 2798 ≤ 12760 + 2798 * (k + 1); omega) ?_
      refine lv_aload_n hx hb dL_law_282 rfl (lv_at hl 2 rfl) ?_
      refine lv_aload_n hx hb dL_law_283 rfl (lv_at hl 0 rfl) ?_
      refine lv_iload_n hx hb dL_law_284 rfl (lv_at hl 3 rfl) ?_
      refine lv_iconst (v := 1) hx hb dL_law_285 (by decide) ?_
      refine lv_iadd hx hb dL_law_286 ?_
      refine va_sld hx hb hX hbl hbA X.2.2 hi1 dL_law_287 ?_
      refine lv_aload_n hx hb dL_law_288 rfl (lv_at hl 0 rfl) ?_
      refine lv_iload_n hx hb dL_law_289 rfl (lv_at hl 3 rfl) ?_
      refine lv_iconst (v := 2) hx hb dL_law_290 (by decide) ?_
      refine lv_iadd hx hb dL_law_291 ?_
      refine va_sld hx hb hX hbl hbA X.2.2 hi2 dL_law_292 ?_
      refine lv_aload_n hx hb dL_law_293 rfl (lv_at hl 0 rfl) ?_
      refine lv_iload_n hx hb dL_law_294 rfl (lv_at hl 3 rfl) ?_
      refine lv_iconst (v := 3) hx hb dL_law_295 (by decide) ?_
      refine lv_iadd hx hb dL_law_296 ?_
      refine va_sld hx hb hX hbl hbA X.2.2 hi3 dL_law_297 ?_
      refine L_calli C X.swap (L_runi (rm := { frames := 8, cells := 0, slots := 0, locals := 197 }) (As := [.int (xs (x3 + (1 : Int32)).toNatClampNeg), .int (xs (x3 + (2 : Int32)).toNatClampNeg), .int (xs (x3 + (3 : Int32)).toNatClampNeg)]) (rest := [.int (r1)]) C X.swap (fun A => cR_pull l E A mo adR v v2 r1 (xs (x3 + (1 : Int32)).toNatClampNeg) (xs (x3 + (2 : Int32)).toNatClampNeg) (xs (x3 + (3 : Int32)).toNatClampNeg) er) kX8_pull m_881 0 6 rfl rfl hl.1 rfl ⟨Nat.le_of_ble_eq_true rfl, Nat.le_of_ble_eq_true rfl⟩ rfl (Nat.le_of_ble_eq_true rfl) dL_law_298 ⟨by show 21 + 3 * (k + 1) + 0 ≤ 600000; omega, by show 12760 + 2798 * (k + 1) + 0 ≤ 7302250; omega⟩) (fun H locs r2 u hu X => ?_)
      obtain ⟨rfl, rfl⟩ := hu
      have X := X.swap
      refine lv_icmp_eq (tgt := 928) hx hb dL_law_301 (by decide) (fun _ => ?_) (fun c9 => absurd rfl c9)
      exact fin v2 w2 H locs ls hI2 hl X
    by_cases s4 : sw = (4 : Int32)
    · refine g_tabIn (tgt := 306) hx hb s4 dL_law_33 (by decide) (by decide) rfl (by decide) ?_
      refine lv_aload_n hx hb dL_law_306 rfl (lv_at hl 1 rfl) ?_
      refine lv_aload_n hx hb dL_law_307 rfl (lv_at hl 0 rfl) ?_
      refine lv_iload_n hx hb dL_law_308 rfl (lv_at hl 3 rfl) ?_
      refine lv_iconst (v := 1) hx hb dL_law_309 (by decide) ?_
      refine lv_iadd hx hb dL_law_310 ?_
      refine va_sld hx hb hX hbl hbA X.2.2 hi1 dL_law_311 ?_
      refine lv_aload_n hx hb dL_law_312 rfl (lv_at hl 0 rfl) ?_
      refine lv_iload_n hx hb dL_law_313 rfl (lv_at hl 3 rfl) ?_
      refine lv_iconst (v := 2) hx hb dL_law_314 (by decide) ?_
      refine lv_iadd hx hb dL_law_315 ?_
      refine va_sld hx hb hX hbl hbA X.2.2 hi2 dL_law_316 ?_
      refine lv_aload_n hx hb dL_law_317 rfl (lv_at hl 0 rfl) ?_
      refine lv_iload_n hx hb dL_law_318 rfl (lv_at hl 3 rfl) ?_
      refine lv_iconst (v := 3) hx hb dL_law_319 (by decide) ?_
      refine lv_iadd hx hb dL_law_320 ?_
      refine va_sld hx hb hX hbl hbA X.2.2 hi3 dL_law_321 ?_
      refine lv_aload_n hx hb dL_law_322 rfl (lv_at hl 0 rfl) ?_
      refine lv_iload_n hx hb dL_law_323 rfl (lv_at hl 3 rfl) ?_
      refine lv_iconst (v := 4) hx hb dL_law_324 (by decide) ?_
      refine lv_iadd hx hb dL_law_325 ?_
      refine va_sld hx hb hX hbl hbA X.2.2 hi4 dL_law_326 ?_
      refine lv_aload_n hx hb dL_law_327 rfl (lv_at hl 0 rfl) ?_
      refine lv_iload_n hx hb dL_law_328 rfl (lv_at hl 3 rfl) ?_
      refine lv_iconst (v := 5) hx hb dL_law_329 (by decide) ?_
      refine lv_iadd hx hb dL_law_330 ?_
      refine va_sld hx hb hX hbl hbA X.2.2 hi5 dL_law_331 ?_
      obtain ⟨r, v2, er, hw⟩ := hs_copy k v w (xs (x3 + (1 : Int32)).toNatClampNeg) (xs (x3 + (2 : Int32)).toNatClampNeg) (xs (x3 + (3 : Int32)).toNatClampNeg) (xs (x3 + (4 : Int32)).toNatClampNeg) (xs (x3 + (5 : Int32)).toNatClampNeg) hk5 hI
      refine L_calli C X (L_runi (rm := { frames := 7, cells := 3, slots := 2798, locals := 176 }) (As := [.int (xs (x3 + (1 : Int32)).toNatClampNeg), .int (xs (x3 + (2 : Int32)).toNatClampNeg), .int (xs (x3 + (3 : Int32)).toNatClampNeg), .int (xs (x3 + (4 : Int32)).toNatClampNeg), .int (xs (x3 + (5 : Int32)).toNatClampNeg)]) (rest := []) C X (fun A => cC__copy l E A ad w (xs (x3 + (1 : Int32)).toNatClampNeg) (xs (x3 + (2 : Int32)).toNatClampNeg) (xs (x3 + (3 : Int32)).toNatClampNeg) (xs (x3 + (4 : Int32)).toNatClampNeg) (xs (x3 + (5 : Int32)).toNatClampNeg) _ hw) kX7_copy m_387 0 5 rfl rfl hl.1 rfl ⟨Nat.le_of_ble_eq_true rfl, Nat.le_of_ble_eq_true rfl⟩ rfl (Nat.le_of_ble_eq_true rfl) dL_law_332 ⟨by show 21 + 3 * k + 3 ≤ 600000; omega, by show 12760 + 2798 * k + 2798 ≤ 7302250; omega⟩) (fun H locs r1 u hu X => ?_)
      obtain ⟨w2, rfl, rfl, hI2⟩ := hu
      refine W.widen (k := 21 + 3 * (k + 1)) (n := 12760 + 2798 * (k + 1)) (by show 21 + 3 * k + 3 ≤ 21 + 3 * (k + 1); omega) (by show 12760 + 2798 * k + 2798 ≤ 12760 + 2798 * (k + 1); omega) ?_
      refine lv_aload_n hx hb dL_law_335 rfl (lv_at hl 2 rfl) ?_
      refine lv_aload_n hx hb dL_law_336 rfl (lv_at hl 0 rfl) ?_
      refine lv_iload_n hx hb dL_law_337 rfl (lv_at hl 3 rfl) ?_
      refine lv_iconst (v := 1) hx hb dL_law_338 (by decide) ?_
      refine lv_iadd hx hb dL_law_339 ?_
      refine va_sld hx hb hX hbl hbA X.2.2 hi1 dL_law_340 ?_
      refine lv_aload_n hx hb dL_law_341 rfl (lv_at hl 0 rfl) ?_
      refine lv_iload_n hx hb dL_law_342 rfl (lv_at hl 3 rfl) ?_
      refine lv_iconst (v := 2) hx hb dL_law_343 (by decide) ?_
      refine lv_iadd hx hb dL_law_344 ?_
      refine va_sld hx hb hX hbl hbA X.2.2 hi2 dL_law_345 ?_
      refine lv_aload_n hx hb dL_law_346 rfl (lv_at hl 0 rfl) ?_
      refine lv_iload_n hx hb dL_law_347 rfl (lv_at hl 3 rfl) ?_
      refine lv_iconst (v := 3) hx hb dL_law_348 (by decide) ?_
      refine lv_iadd hx hb dL_law_349 ?_
      refine va_sld hx hb hX hbl hbA X.2.2 hi3 dL_law_350 ?_
      refine lv_aload_n hx hb dL_law_351 rfl (lv_at hl 0 rfl) ?_
      refine lv_iload_n hx hb dL_law_352 rfl (lv_at hl 3 rfl) ?_
      refine lv_iconst (v := 4) hx hb dL_law_353 (by decide) ?_
      refine lv_iadd hx hb dL_law_354 ?_
      refine va_sld hx hb hX hbl hbA X.2.2 hi4 dL_law_355 ?_
      refine lv_aload_n hx hb dL_law_356 rfl (lv_at hl 0 rfl) ?_
      refine lv_iload_n hx hb dL_law_357 rfl (lv_at hl 3 rfl) ?_
      refine lv_iconst (v := 5) hx hb dL_law_358 (by decide) ?_
      refine lv_iadd hx hb dL_law_359 ?_
      refine va_sld hx hb hX hbl hbA X.2.2 hi5 dL_law_360 ?_
      refine L_calli C X.swap (L_runi (rm := { frames := 8, cells := 0, slots := 0, locals := 197 }) (As := [.int (xs (x3 + (1 : Int32)).toNatClampNeg), .int (xs (x3 + (2 : Int32)).toNatClampNeg), .int (xs (x3 + (3 : Int32)).toNatClampNeg), .int (xs (x3 + (4 : Int32)).toNatClampNeg), .int (xs (x3 + (5 : Int32)).toNatClampNeg)]) (rest := [.int (r1)]) C X.swap (fun A => cR_copy l E A mo adR v v2 r1 (xs (x3 + (1 : Int32)).toNatClampNeg) (xs (x3 + (2 : Int32)).toNatClampNeg) (xs (x3 + (3 : Int32)).toNatClampNeg) (xs (x3 + (4 : Int32)).toNatClampNeg) (xs (x3 + (5 : Int32)).toNatClampNeg) er) kX8_copy m_885 0 6 rfl rfl hl.1 rfl ⟨Nat.le_of_ble_eq_true rfl, Nat.le_of_ble_eq_true rfl⟩ rfl (Nat.le_of_ble_eq_true rfl) dL_law_361 ⟨by show 21 + 3 * (k + 1) + 0 ≤ 600000; omega, by show 12760 + 2798 * (k + 1) + 0 ≤ 7302250; omega⟩) (fun H locs r2 u hu X => ?_)
      obtain ⟨rfl, rfl⟩ := hu
      have X := X.swap
      refine lv_icmp_eq (tgt := 928) hx hb dL_law_364 (by decide) (fun _ => ?_) (fun c9 => absurd rfl c9)
      exact fin v2 w2 H locs ls hI2 hl X
    by_cases s5 : sw = (5 : Int32)
    · refine g_tabIn (tgt := 369) hx hb s5 dL_law_33 (by decide) (by decide) rfl (by decide) ?_
      refine lv_aload_n hx hb dL_law_369 rfl (lv_at hl 1 rfl) ?_
      refine lv_aload_n hx hb dL_law_370 rfl (lv_at hl 0 rfl) ?_
      refine lv_iload_n hx hb dL_law_371 rfl (lv_at hl 3 rfl) ?_
      refine lv_iconst (v := 1) hx hb dL_law_372 (by decide) ?_
      refine lv_iadd hx hb dL_law_373 ?_
      refine va_sld hx hb hX hbl hbA X.2.2 hi1 dL_law_374 ?_
      refine lv_aload_n hx hb dL_law_375 rfl (lv_at hl 0 rfl) ?_
      refine lv_iload_n hx hb dL_law_376 rfl (lv_at hl 3 rfl) ?_
      refine lv_iconst (v := 2) hx hb dL_law_377 (by decide) ?_
      refine lv_iadd hx hb dL_law_378 ?_
      refine va_sld hx hb hX hbl hbA X.2.2 hi2 dL_law_379 ?_
      refine lv_aload_n hx hb dL_law_380 rfl (lv_at hl 0 rfl) ?_
      refine lv_iload_n hx hb dL_law_381 rfl (lv_at hl 3 rfl) ?_
      refine lv_iconst (v := 3) hx hb dL_law_382 (by decide) ?_
      refine lv_iadd hx hb dL_law_383 ?_
      refine va_sld hx hb hX hbl hbA X.2.2 hi3 dL_law_384 ?_
      refine lv_i2l hx hb dL_law_385 rfl ?_
      refine lv_bipush (v := 32) hx hb dL_law_386 (by decide) ?_
      refine lv_lshl hx hb dL_law_388 rfl ?_
      refine lv_aload_n hx hb dL_law_389 rfl (lv_at hl 0 rfl) ?_
      refine lv_iload_n hx hb dL_law_390 rfl (lv_at hl 3 rfl) ?_
      refine lv_iconst (v := 4) hx hb dL_law_391 (by decide) ?_
      refine lv_iadd hx hb dL_law_392 ?_
      refine va_sld hx hb hX hbl hbA X.2.2 hi4 dL_law_393 ?_
      refine lv_i2l hx hb dL_law_394 rfl ?_
      refine lv_ldc2 (v := 4294967295) hx hb C.1.2.2.2.1 (C.1.2.2.2.2 _ m_985) dL_law_395 ?_
      refine lv_land hx hb dL_law_398 ?_
      refine lv_lor hx hb dL_law_399 ?_
      obtain ⟨r, v2, er, hw⟩ := hs_write k v w (xs (x3 + (1 : Int32)).toNatClampNeg) (xs (x3 + (2 : Int32)).toNatClampNeg) ((((xs (x3 + (3 : Int32)).toNatClampNeg).toInt64) <<< (((32 : Int32)).toInt64 &&& 63)) ||| (((xs (x3 + (4 : Int32)).toNatClampNeg).toInt64) &&& ((4294967295 : Int64)))) hk5 hI
      refine L_calli C X (L_runi (rm := { frames := 7, cells := 3, slots := 2798, locals := 176 }) (As := [.int (xs (x3 + (1 : Int32)).toNatClampNeg), .int (xs (x3 + (2 : Int32)).toNatClampNeg), .long ((((xs (x3 + (3 : Int32)).toNatClampNeg).toInt64) <<< (((32 : Int32)).toInt64 &&& 63)) ||| (((xs (x3 + (4 : Int32)).toNatClampNeg).toInt64) &&& ((4294967295 : Int64))))]) (rest := []) C X (fun A => cC__write l E A ad w (xs (x3 + (1 : Int32)).toNatClampNeg) (xs (x3 + (2 : Int32)).toNatClampNeg) ((((xs (x3 + (3 : Int32)).toNatClampNeg).toInt64) <<< (((32 : Int32)).toInt64 &&& 63)) ||| (((xs (x3 + (4 : Int32)).toNatClampNeg).toInt64) &&& ((4294967295 : Int64)))) _ hw) kX7_write m_422 0 5 rfl rfl hl.1 rfl ⟨Nat.le_of_ble_eq_true rfl, Nat.le_of_ble_eq_true rfl⟩ rfl (Nat.le_of_ble_eq_true rfl) dL_law_400 ⟨by show 21 + 3 * k + 3 ≤ 600000; omega, by show 12760 + 2798 * k + 2798 ≤ 7302250; omega⟩) (fun H locs r1 u hu X => ?_)
      obtain ⟨w2, rfl, rfl, hI2⟩ := hu
      refine W.widen (k := 21 + 3 * (k + 1)) (n := 12760 + 2798 * (k + 1)) (by show 21 + 3 * k + 3 ≤ 21 + 3 * (k + 1); omega) (by show 12760 + 2798 * k + 2798 ≤ 12760 + 2798 * (k + 1); omega) ?_
      refine lv_aload_n hx hb dL_law_403 rfl (lv_at hl 2 rfl) ?_
      refine lv_aload_n hx hb dL_law_404 rfl (lv_at hl 0 rfl) ?_
      refine lv_iload_n hx hb dL_law_405 rfl (lv_at hl 3 rfl) ?_
      refine lv_iconst (v := 1) hx hb dL_law_406 (by decide) ?_
      refine lv_iadd hx hb dL_law_407 ?_
      refine va_sld hx hb hX hbl hbA X.2.2 hi1 dL_law_408 ?_
      refine lv_aload_n hx hb dL_law_409 rfl (lv_at hl 0 rfl) ?_
      refine lv_iload_n hx hb dL_law_410 rfl (lv_at hl 3 rfl) ?_
      refine lv_iconst (v := 2) hx hb dL_law_411 (by decide) ?_
      refine lv_iadd hx hb dL_law_412 ?_
      refine va_sld hx hb hX hbl hbA X.2.2 hi2 dL_law_413 ?_
      refine lv_aload_n hx hb dL_law_414 rfl (lv_at hl 0 rfl) ?_
      refine lv_iload_n hx hb dL_law_415 rfl (lv_at hl 3 rfl) ?_
      refine lv_iconst (v := 3) hx hb dL_law_416 (by decide) ?_
      refine lv_iadd hx hb dL_law_417 ?_
      refine va_sld hx hb hX hbl hbA X.2.2 hi3 dL_law_418 ?_
      refine lv_i2l hx hb dL_law_419 rfl ?_
      refine lv_bipush (v := 32) hx hb dL_law_420 (by decide) ?_
      refine lv_lshl hx hb dL_law_422 rfl ?_
      refine lv_aload_n hx hb dL_law_423 rfl (lv_at hl 0 rfl) ?_
      refine lv_iload_n hx hb dL_law_424 rfl (lv_at hl 3 rfl) ?_
      refine lv_iconst (v := 4) hx hb dL_law_425 (by decide) ?_
      refine lv_iadd hx hb dL_law_426 ?_
      refine va_sld hx hb hX hbl hbA X.2.2 hi4 dL_law_427 ?_
      refine lv_i2l hx hb dL_law_428 rfl ?_
      refine lv_ldc2 (v := 4294967295) hx hb C.1.2.2.2.1 (C.1.2.2.2.2 _ m_985) dL_law_429 ?_
      refine lv_land hx hb dL_law_432 ?_
      refine lv_lor hx hb dL_law_433 ?_
      refine L_calli C X.swap (L_runi (rm := { frames := 8, cells := 0, slots := 0, locals := 197 }) (As := [.int (xs (x3 + (1 : Int32)).toNatClampNeg), .int (xs (x3 + (2 : Int32)).toNatClampNeg), .long ((((xs (x3 + (3 : Int32)).toNatClampNeg).toInt64) <<< (((32 : Int32)).toInt64 &&& 63)) ||| (((xs (x3 + (4 : Int32)).toNatClampNeg).toInt64) &&& ((4294967295 : Int64))))]) (rest := [.int (r1)]) C X.swap (fun A => cR_write l E A mo adR v v2 r1 (xs (x3 + (1 : Int32)).toNatClampNeg) (xs (x3 + (2 : Int32)).toNatClampNeg) ((((xs (x3 + (3 : Int32)).toNatClampNeg).toInt64) <<< (((32 : Int32)).toInt64 &&& 63)) ||| (((xs (x3 + (4 : Int32)).toNatClampNeg).toInt64) &&& ((4294967295 : Int64)))) er) kX8_write m_889 0 6 rfl rfl hl.1 rfl ⟨Nat.le_of_ble_eq_true rfl, Nat.le_of_ble_eq_true rfl⟩ rfl (Nat.le_of_ble_eq_true rfl) dL_law_434 ⟨by show 21 + 3 * (k + 1) + 0 ≤ 600000; omega, by show 12760 + 2798 * (k + 1) + 0 ≤ 7302250; omega⟩) (fun H locs r2 u hu X => ?_)
      obtain ⟨rfl, rfl⟩ := hu
      have X := X.swap
      refine lv_icmp_eq (tgt := 928) hx hb dL_law_437 (by decide) (fun _ => ?_) (fun c9 => absurd rfl c9)
      exact fin v2 w2 H locs ls hI2 hl X
    by_cases s6 : sw = (6 : Int32)
    · refine g_tabIn (tgt := 442) hx hb s6 dL_law_33 (by decide) (by decide) rfl (by decide) ?_
      refine lv_aload_n hx hb dL_law_442 rfl (lv_at hl 1 rfl) ?_
      refine lv_aload_n hx hb dL_law_443 rfl (lv_at hl 0 rfl) ?_
      refine lv_iload_n hx hb dL_law_444 rfl (lv_at hl 3 rfl) ?_
      refine lv_iconst (v := 1) hx hb dL_law_445 (by decide) ?_
      refine lv_iadd hx hb dL_law_446 ?_
      refine va_sld hx hb hX hbl hbA X.2.2 hi1 dL_law_447 ?_
      refine lv_aload_n hx hb dL_law_448 rfl (lv_at hl 0 rfl) ?_
      refine lv_iload_n hx hb dL_law_449 rfl (lv_at hl 3 rfl) ?_
      refine lv_iconst (v := 2) hx hb dL_law_450 (by decide) ?_
      refine lv_iadd hx hb dL_law_451 ?_
      refine va_sld hx hb hX hbl hbA X.2.2 hi2 dL_law_452 ?_
      obtain ⟨r, v2, er, hw⟩ := hs_knob k v w (xs (x3 + (1 : Int32)).toNatClampNeg) (xs (x3 + (2 : Int32)).toNatClampNeg) hk5 hI
      refine L_calli C X (L_runi (rm := { frames := 7, cells := 3, slots := 2798, locals := 176 }) (As := [.int (xs (x3 + (1 : Int32)).toNatClampNeg), .int (xs (x3 + (2 : Int32)).toNatClampNeg)]) (rest := []) C X (fun A => cC__knob l E A ad w (xs (x3 + (1 : Int32)).toNatClampNeg) (xs (x3 + (2 : Int32)).toNatClampNeg) _ hw) kX7_knob m_434 0 5 rfl rfl hl.1 rfl ⟨Nat.le_of_ble_eq_true rfl, Nat.le_of_ble_eq_true rfl⟩ rfl (Nat.le_of_ble_eq_true rfl) dL_law_453 ⟨by show 21 + 3 * k + 3 ≤ 600000; omega, by show 12760 + 2798 * k + 2798 ≤ 7302250; omega⟩) (fun H locs r1 u hu X => ?_)
      obtain ⟨w2, rfl, rfl, hI2⟩ := hu
      refine W.widen (k := 21 + 3 * (k + 1)) (n := 12760 + 2798 * (k + 1)) (by show 21 + 3 * k + 3 ≤ 21 + 3 * (k + 1); omega) (by show 12760 + 2798 * k + 2798 ≤ 12760 + 2798 * (k + 1); omega) ?_
      refine lv_aload_n hx hb dL_law_456 rfl (lv_at hl 2 rfl) ?_
      refine lv_aload_n hx hb dL_law_457 rfl (lv_at hl 0 rfl) ?_
      refine lv_iload_n hx hb dL_law_458 rfl (lv_at hl 3 rfl) ?_
      refine lv_iconst (v := 1) hx hb dL_law_459 (by decide) ?_
      refine lv_iadd hx hb dL_law_460 ?_
      refine va_sld hx hb hX hbl hbA X.2.2 hi1 dL_law_461 ?_
      refine lv_aload_n hx hb dL_law_462 rfl (lv_at hl 0 rfl) ?_
      refine lv_iload_n hx hb dL_law_463 rfl (lv_at hl 3 rfl) ?_
      refine lv_iconst (v := 2) hx hb dL_law_464 (by decide) ?_
      refine lv_iadd hx hb dL_law_465 ?_
      refine va_sld hx hb hX hbl hbA X.2.2 hi2 dL_law_466 ?_
      refine L_calli C X.swap (L_runi (rm := { frames := 8, cells := 0, slots := 0, locals := 197 }) (As := [.int (xs (x3 + (1 : Int32)).toNatClampNeg), .int (xs (x3 + (2 : Int32)).toNatClampNeg)]) (rest := [.int (r1)]) C X.swap (fun A => cR_knob l E A mo adR v v2 r1 (xs (x3 + (1 : Int32)).toNatClampNeg) (xs (x3 + (2 : Int32)).toNatClampNeg) er) kX8_knob m_893 0 6 rfl rfl hl.1 rfl ⟨Nat.le_of_ble_eq_true rfl, Nat.le_of_ble_eq_true rfl⟩ rfl (Nat.le_of_ble_eq_true rfl) dL_law_467 ⟨by show 21 + 3 * (k + 1) + 0 ≤ 600000; omega, by show 12760 + 2798 * (k + 1) + 0 ≤ 7302250; omega⟩) (fun H locs r2 u hu X => ?_)
      obtain ⟨rfl, rfl⟩ := hu
      have X := X.swap
      refine lv_icmp_eq (tgt := 928) hx hb dL_law_470 (by decide) (fun _ => ?_) (fun c9 => absurd rfl c9)
      exact fin v2 w2 H locs ls hI2 hl X
    by_cases s7 : sw = (7 : Int32)
    · refine g_tabIn (tgt := 475) hx hb s7 dL_law_33 (by decide) (by decide) rfl (by decide) ?_
      refine lv_aload_n hx hb dL_law_475 rfl (lv_at hl 1 rfl) ?_
      refine lv_aload_n hx hb dL_law_476 rfl (lv_at hl 0 rfl) ?_
      refine lv_iload_n hx hb dL_law_477 rfl (lv_at hl 3 rfl) ?_
      refine lv_iconst (v := 1) hx hb dL_law_478 (by decide) ?_
      refine lv_iadd hx hb dL_law_479 ?_
      refine va_sld hx hb hX hbl hbA X.2.2 hi1 dL_law_480 ?_
      refine lv_aload_n hx hb dL_law_481 rfl (lv_at hl 0 rfl) ?_
      refine lv_iload_n hx hb dL_law_482 rfl (lv_at hl 3 rfl) ?_
      refine lv_iconst (v := 2) hx hb dL_law_483 (by decide) ?_
      refine lv_iadd hx hb dL_law_484 ?_
      refine va_sld hx hb hX hbl hbA X.2.2 hi2 dL_law_485 ?_
      obtain ⟨r, v2, er, hw⟩ := hs_play k v w (xs (x3 + (1 : Int32)).toNatClampNeg) (xs (x3 + (2 : Int32)).toNatClampNeg) hk5 hI
      refine L_calli C X (L_runi (rm := { frames := 7, cells := 3, slots := 2798, locals := 176 }) (As := [.int (xs (x3 + (1 : Int32)).toNatClampNeg), .int (xs (x3 + (2 : Int32)).toNatClampNeg)]) (rest := []) C X (fun A => cC__play l E A ad w (xs (x3 + (1 : Int32)).toNatClampNeg) (xs (x3 + (2 : Int32)).toNatClampNeg) _ hw) kX7_play m_443 0 5 rfl rfl hl.1 rfl ⟨Nat.le_of_ble_eq_true rfl, Nat.le_of_ble_eq_true rfl⟩ rfl (Nat.le_of_ble_eq_true rfl) dL_law_486 ⟨by show 21 + 3 * k + 3 ≤ 600000; omega, by show 12760 + 2798 * k + 2798 ≤ 7302250; omega⟩) (fun H locs r1 u hu X => ?_)
      obtain ⟨w2, rfl, rfl, hI2⟩ := hu
      refine W.widen (k := 21 + 3 * (k + 1)) (n := 12760 + 2798 * (k + 1)) (by show 21 + 3 * k + 3 ≤ 21 + 3 * (k + 1); omega) (by show 12760 + 2798 * k + 2798 ≤ 12760 + 2798 * (k + 1); omega) ?_
      refine lv_aload_n hx hb dL_law_489 rfl (lv_at hl 2 rfl) ?_
      refine lv_aload_n hx hb dL_law_490 rfl (lv_at hl 0 rfl) ?_
      refine lv_iload_n hx hb dL_law_491 rfl (lv_at hl 3 rfl) ?_
      refine lv_iconst (v := 1) hx hb dL_law_492 (by decide) ?_
      refine lv_iadd hx hb dL_law_493 ?_
      refine va_sld hx hb hX hbl hbA X.2.2 hi1 dL_law_494 ?_
      refine lv_aload_n hx hb dL_law_495 rfl (lv_at hl 0 rfl) ?_
      refine lv_iload_n hx hb dL_law_496 rfl (lv_at hl 3 rfl) ?_
      refine lv_iconst (v := 2) hx hb dL_law_497 (by decide) ?_
      refine lv_iadd hx hb dL_law_498 ?_
      refine va_sld hx hb hX hbl hbA X.2.2 hi2 dL_law_499 ?_
      refine L_calli C X.swap (L_runi (rm := { frames := 8, cells := 0, slots := 0, locals := 197 }) (As := [.int (xs (x3 + (1 : Int32)).toNatClampNeg), .int (xs (x3 + (2 : Int32)).toNatClampNeg)]) (rest := [.int (r1)]) C X.swap (fun A => cR_play l E A mo adR v v2 r1 (xs (x3 + (1 : Int32)).toNatClampNeg) (xs (x3 + (2 : Int32)).toNatClampNeg) er) kX8_play m_897 0 6 rfl rfl hl.1 rfl ⟨Nat.le_of_ble_eq_true rfl, Nat.le_of_ble_eq_true rfl⟩ rfl (Nat.le_of_ble_eq_true rfl) dL_law_500 ⟨by show 21 + 3 * (k + 1) + 0 ≤ 600000; omega, by show 12760 + 2798 * (k + 1) + 0 ≤ 7302250; omega⟩) (fun H locs r2 u hu X => ?_)
      obtain ⟨rfl, rfl⟩ := hu
      have X := X.swap
      refine lv_icmp_eq (tgt := 928) hx hb dL_law_503 (by decide) (fun _ => ?_) (fun c9 => absurd rfl c9)
      exact fin v2 w2 H locs ls hI2 hl X
    by_cases s8 : sw = (8 : Int32)
    · refine g_tabIn (tgt := 508) hx hb s8 dL_law_33 (by decide) (by decide) rfl (by decide) ?_
      refine lv_aload_n hx hb dL_law_508 rfl (lv_at hl 1 rfl) ?_
      refine lv_aload_n hx hb dL_law_509 rfl (lv_at hl 0 rfl) ?_
      refine lv_iload_n hx hb dL_law_510 rfl (lv_at hl 3 rfl) ?_
      refine lv_iconst (v := 1) hx hb dL_law_511 (by decide) ?_
      refine lv_iadd hx hb dL_law_512 ?_
      refine va_sld hx hb hX hbl hbA X.2.2 hi1 dL_law_513 ?_
      refine lv_aload_n hx hb dL_law_514 rfl (lv_at hl 0 rfl) ?_
      refine lv_iload_n hx hb dL_law_515 rfl (lv_at hl 3 rfl) ?_
      refine lv_iconst (v := 2) hx hb dL_law_516 (by decide) ?_
      refine lv_iadd hx hb dL_law_517 ?_
      refine va_sld hx hb hX hbl hbA X.2.2 hi2 dL_law_518 ?_
      obtain ⟨r, v2, er, hw⟩ := hs_run k v w (xs (x3 + (1 : Int32)).toNatClampNeg) (xs (x3 + (2 : Int32)).toNatClampNeg) hk5 hI
      refine L_calli C X (L_runi (rm := { frames := 7, cells := 3, slots := 2798, locals := 176 }) (As := [.int (xs (x3 + (1 : Int32)).toNatClampNeg), .int (xs (x3 + (2 : Int32)).toNatClampNeg)]) (rest := []) C X (fun A => cC__run l E A ad w (xs (x3 + (1 : Int32)).toNatClampNeg) (xs (x3 + (2 : Int32)).toNatClampNeg) _ hw) kX7_run m_508 0 5 rfl rfl hl.1 rfl ⟨Nat.le_of_ble_eq_true rfl, Nat.le_of_ble_eq_true rfl⟩ rfl (Nat.le_of_ble_eq_true rfl) dL_law_519 ⟨by show 21 + 3 * k + 3 ≤ 600000; omega, by show 12760 + 2798 * k + 2798 ≤ 7302250; omega⟩) (fun H locs r1 u hu X => ?_)
      obtain ⟨w2, rfl, rfl, hI2⟩ := hu
      refine W.widen (k := 21 + 3 * (k + 1)) (n := 12760 + 2798 * (k + 1)) (by show 21 + 3 * k + 3 ≤ 21 + 3 * (k + 1); omega) (by show 12760 + 2798 * k + 2798 ≤ 12760 + 2798 * (k + 1); omega) ?_
      refine lv_aload_n hx hb dL_law_522 rfl (lv_at hl 2 rfl) ?_
      refine lv_aload_n hx hb dL_law_523 rfl (lv_at hl 0 rfl) ?_
      refine lv_iload_n hx hb dL_law_524 rfl (lv_at hl 3 rfl) ?_
      refine lv_iconst (v := 1) hx hb dL_law_525 (by decide) ?_
      refine lv_iadd hx hb dL_law_526 ?_
      refine va_sld hx hb hX hbl hbA X.2.2 hi1 dL_law_527 ?_
      refine lv_aload_n hx hb dL_law_528 rfl (lv_at hl 0 rfl) ?_
      refine lv_iload_n hx hb dL_law_529 rfl (lv_at hl 3 rfl) ?_
      refine lv_iconst (v := 2) hx hb dL_law_530 (by decide) ?_
      refine lv_iadd hx hb dL_law_531 ?_
      refine va_sld hx hb hX hbl hbA X.2.2 hi2 dL_law_532 ?_
      refine L_calli C X.swap (L_runi (rm := { frames := 8, cells := 0, slots := 0, locals := 197 }) (As := [.int (xs (x3 + (1 : Int32)).toNatClampNeg), .int (xs (x3 + (2 : Int32)).toNatClampNeg)]) (rest := [.int (r1)]) C X.swap (fun A => cR_run l E A mo adR v v2 r1 (xs (x3 + (1 : Int32)).toNatClampNeg) (xs (x3 + (2 : Int32)).toNatClampNeg) er) kX8_run m_901 0 6 rfl rfl hl.1 rfl ⟨Nat.le_of_ble_eq_true rfl, Nat.le_of_ble_eq_true rfl⟩ rfl (Nat.le_of_ble_eq_true rfl) dL_law_533 ⟨by show 21 + 3 * (k + 1) + 0 ≤ 600000; omega, by show 12760 + 2798 * (k + 1) + 0 ≤ 7302250; omega⟩) (fun H locs r2 u hu X => ?_)
      obtain ⟨rfl, rfl⟩ := hu
      have X := X.swap
      refine lv_icmp_eq (tgt := 928) hx hb dL_law_536 (by decide) (fun _ => ?_) (fun c9 => absurd rfl c9)
      exact fin v2 w2 H locs ls hI2 hl X
    by_cases s9 : sw = (9 : Int32)
    · refine g_tabIn (tgt := 541) hx hb s9 dL_law_33 (by decide) (by decide) rfl (by decide) ?_
      refine lv_aload_n hx hb dL_law_541 rfl (lv_at hl 1 rfl) ?_
      refine lv_aload_n hx hb dL_law_542 rfl (lv_at hl 0 rfl) ?_
      refine lv_iload_n hx hb dL_law_543 rfl (lv_at hl 3 rfl) ?_
      refine lv_iconst (v := 1) hx hb dL_law_544 (by decide) ?_
      refine lv_iadd hx hb dL_law_545 ?_
      refine va_sld hx hb hX hbl hbA X.2.2 hi1 dL_law_546 ?_
      refine lv_aload_n hx hb dL_law_547 rfl (lv_at hl 0 rfl) ?_
      refine lv_iload_n hx hb dL_law_548 rfl (lv_at hl 3 rfl) ?_
      refine lv_iconst (v := 2) hx hb dL_law_549 (by decide) ?_
      refine lv_iadd hx hb dL_law_550 ?_
      refine va_sld hx hb hX hbl hbA X.2.2 hi2 dL_law_551 ?_
      obtain ⟨r, v2, er, hw⟩ := hs_ticks k v w (xs (x3 + (1 : Int32)).toNatClampNeg) (xs (x3 + (2 : Int32)).toNatClampNeg) hk5 hI
      refine L_calli C X (L_runi (rm := { frames := 7, cells := 3, slots := 2798, locals := 176 }) (As := [.int (xs (x3 + (1 : Int32)).toNatClampNeg), .int (xs (x3 + (2 : Int32)).toNatClampNeg)]) (rest := []) C X (fun A => cC__ticks l E A ad w (xs (x3 + (1 : Int32)).toNatClampNeg) (xs (x3 + (2 : Int32)).toNatClampNeg) _ hw) kX7_ticks m_517 0 5 rfl rfl hl.1 rfl ⟨Nat.le_of_ble_eq_true rfl, Nat.le_of_ble_eq_true rfl⟩ rfl (Nat.le_of_ble_eq_true rfl) dL_law_552 ⟨by show 21 + 3 * k + 3 ≤ 600000; omega, by show 12760 + 2798 * k + 2798 ≤ 7302250; omega⟩) (fun H locs r1 u hu X => ?_)
      obtain ⟨w2, rfl, rfl, hI2⟩ := hu
      refine W.widen (k := 21 + 3 * (k + 1)) (n := 12760 + 2798 * (k + 1)) (by show 21 + 3 * k + 3 ≤ 21 + 3 * (k + 1); omega) (by show 12760 + 2798 * k + 2798 ≤ 12760 + 2798 * (k + 1); omega) ?_
      refine lv_aload_n hx hb dL_law_555 rfl (lv_at hl 2 rfl) ?_
      refine lv_aload_n hx hb dL_law_556 rfl (lv_at hl 0 rfl) ?_
      refine lv_iload_n hx hb dL_law_557 rfl (lv_at hl 3 rfl) ?_
      refine lv_iconst (v := 1) hx hb dL_law_558 (by decide) ?_
      refine lv_iadd hx hb dL_law_559 ?_
      refine va_sld hx hb hX hbl hbA X.2.2 hi1 dL_law_560 ?_
      refine lv_aload_n hx hb dL_law_561 rfl (lv_at hl 0 rfl) ?_
      refine lv_iload_n hx hb dL_law_562 rfl (lv_at hl 3 rfl) ?_
      refine lv_iconst (v := 2) hx hb dL_law_563 (by decide) ?_
      refine lv_iadd hx hb dL_law_564 ?_
      refine va_sld hx hb hX hbl hbA X.2.2 hi2 dL_law_565 ?_
      refine L_calli C X.swap (L_runi (rm := { frames := 8, cells := 0, slots := 0, locals := 197 }) (As := [.int (xs (x3 + (1 : Int32)).toNatClampNeg), .int (xs (x3 + (2 : Int32)).toNatClampNeg)]) (rest := [.int (r1)]) C X.swap (fun A => cR_ticks l E A mo adR v v2 r1 (xs (x3 + (1 : Int32)).toNatClampNeg) (xs (x3 + (2 : Int32)).toNatClampNeg) er) kX8_ticks m_905 0 6 rfl rfl hl.1 rfl ⟨Nat.le_of_ble_eq_true rfl, Nat.le_of_ble_eq_true rfl⟩ rfl (Nat.le_of_ble_eq_true rfl) dL_law_566 ⟨by show 21 + 3 * (k + 1) + 0 ≤ 600000; omega, by show 12760 + 2798 * (k + 1) + 0 ≤ 7302250; omega⟩) (fun H locs r2 u hu X => ?_)
      obtain ⟨rfl, rfl⟩ := hu
      have X := X.swap
      refine lv_icmp_eq (tgt := 928) hx hb dL_law_569 (by decide) (fun _ => ?_) (fun c9 => absurd rfl c9)
      exact fin v2 w2 H locs ls hI2 hl X
    by_cases s10 : sw = (10 : Int32)
    · refine g_tabIn (tgt := 574) hx hb s10 dL_law_33 (by decide) (by decide) rfl (by decide) ?_
      refine lv_aload_n hx hb dL_law_574 rfl (lv_at hl 1 rfl) ?_
      refine lv_aload_n hx hb dL_law_575 rfl (lv_at hl 0 rfl) ?_
      refine lv_iload_n hx hb dL_law_576 rfl (lv_at hl 3 rfl) ?_
      refine lv_iconst (v := 1) hx hb dL_law_577 (by decide) ?_
      refine lv_iadd hx hb dL_law_578 ?_
      refine va_sld hx hb hX hbl hbA X.2.2 hi1 dL_law_579 ?_
      obtain ⟨r, v2, er, hw⟩ := hs_rest k v w (xs (x3 + (1 : Int32)).toNatClampNeg) hk5 hI
      refine L_calli C X (L_runi (rm := { frames := 7, cells := 3, slots := 2798, locals := 176 }) (As := [.int (xs (x3 + (1 : Int32)).toNatClampNeg)]) (rest := []) C X (fun A => cC__rest l E A ad w (xs (x3 + (1 : Int32)).toNatClampNeg) _ hw) kX7_rest m_533 0 5 rfl rfl hl.1 rfl ⟨Nat.le_of_ble_eq_true rfl, Nat.le_of_ble_eq_true rfl⟩ rfl (Nat.le_of_ble_eq_true rfl) dL_law_580 ⟨by show 21 + 3 * k + 3 ≤ 600000; omega, by show 12760 + 2798 * k + 2798 ≤ 7302250; omega⟩) (fun H locs r1 u hu X => ?_)
      obtain ⟨w2, rfl, rfl, hI2⟩ := hu
      refine W.widen (k := 21 + 3 * (k + 1)) (n := 12760 + 2798 * (k + 1)) (by show 21 + 3 * k + 3 ≤ 21 + 3 * (k + 1); omega) (by show 12760 + 2798 * k + 2798 ≤ 12760 + 2798 * (k + 1); omega) ?_
      refine lv_aload_n hx hb dL_law_583 rfl (lv_at hl 2 rfl) ?_
      refine lv_aload_n hx hb dL_law_584 rfl (lv_at hl 0 rfl) ?_
      refine lv_iload_n hx hb dL_law_585 rfl (lv_at hl 3 rfl) ?_
      refine lv_iconst (v := 1) hx hb dL_law_586 (by decide) ?_
      refine lv_iadd hx hb dL_law_587 ?_
      refine va_sld hx hb hX hbl hbA X.2.2 hi1 dL_law_588 ?_
      refine L_calli C X.swap (L_runi (rm := { frames := 8, cells := 0, slots := 0, locals := 197 }) (As := [.int (xs (x3 + (1 : Int32)).toNatClampNeg)]) (rest := [.int (r1)]) C X.swap (fun A => cR_rest l E A mo adR v v2 r1 (xs (x3 + (1 : Int32)).toNatClampNeg) er) kX8_rest m_909 0 6 rfl rfl hl.1 rfl ⟨Nat.le_of_ble_eq_true rfl, Nat.le_of_ble_eq_true rfl⟩ rfl (Nat.le_of_ble_eq_true rfl) dL_law_589 ⟨by show 21 + 3 * (k + 1) + 0 ≤ 600000; omega, by show 12760 + 2798 * (k + 1) + 0 ≤ 7302250; omega⟩) (fun H locs r2 u hu X => ?_)
      obtain ⟨rfl, rfl⟩ := hu
      have X := X.swap
      refine lv_icmp_eq (tgt := 928) hx hb dL_law_592 (by decide) (fun _ => ?_) (fun c9 => absurd rfl c9)
      exact fin v2 w2 H locs ls hI2 hl X
    by_cases s11 : sw = (11 : Int32)
    · refine g_tabIn (tgt := 597) hx hb s11 dL_law_33 (by decide) (by decide) rfl (by decide) ?_
      refine lv_aload_n hx hb dL_law_597 rfl (lv_at hl 1 rfl) ?_
      refine lv_aload_n hx hb dL_law_598 rfl (lv_at hl 0 rfl) ?_
      refine lv_iload_n hx hb dL_law_599 rfl (lv_at hl 3 rfl) ?_
      refine lv_iconst (v := 1) hx hb dL_law_600 (by decide) ?_
      refine lv_iadd hx hb dL_law_601 ?_
      refine va_sld hx hb hX hbl hbA X.2.2 hi1 dL_law_602 ?_
      refine lv_aload_n hx hb dL_law_603 rfl (lv_at hl 0 rfl) ?_
      refine lv_iload_n hx hb dL_law_604 rfl (lv_at hl 3 rfl) ?_
      refine lv_iconst (v := 2) hx hb dL_law_605 (by decide) ?_
      refine lv_iadd hx hb dL_law_606 ?_
      refine va_sld hx hb hX hbl hbA X.2.2 hi2 dL_law_607 ?_
      obtain ⟨r, v2, er, hw⟩ := hs_when k v w (xs (x3 + (1 : Int32)).toNatClampNeg) (xs (x3 + (2 : Int32)).toNatClampNeg) hk5 hI
      refine L_calli C X (L_runi (rm := { frames := 2, cells := 1, slots := 6, locals := 57 }) (As := [.int (xs (x3 + (1 : Int32)).toNatClampNeg), .int (xs (x3 + (2 : Int32)).toNatClampNeg)]) (rest := []) C X (fun A => cC__when l E A ad w (xs (x3 + (1 : Int32)).toNatClampNeg) (xs (x3 + (2 : Int32)).toNatClampNeg) _ hw) kX7_when m_544 0 5 rfl rfl hl.1 rfl ⟨Nat.le_of_ble_eq_true rfl, Nat.le_of_ble_eq_true rfl⟩ rfl (Nat.le_of_ble_eq_true rfl) dL_law_608 ⟨by show 21 + 3 * k + 1 ≤ 600000; omega, by show 12760 + 2798 * k + 6 ≤ 7302250; omega⟩) (fun H locs r1 u hu X => ?_)
      obtain ⟨w2, rfl, rfl, hI2⟩ := hu
      refine W.widen (k := 21 + 3 * (k + 1)) (n := 12760 + 2798 * (k + 1)) (by show 21 + 3 * k + 1 ≤ 21 + 3 * (k + 1); omega) (by show 12760 + 2798 * k + 6 ≤ 12760 + 2798 * (k + 1); omega) ?_
      refine lv_aload_n hx hb dL_law_611 rfl (lv_at hl 2 rfl) ?_
      refine lv_aload_n hx hb dL_law_612 rfl (lv_at hl 0 rfl) ?_
      refine lv_iload_n hx hb dL_law_613 rfl (lv_at hl 3 rfl) ?_
      refine lv_iconst (v := 1) hx hb dL_law_614 (by decide) ?_
      refine lv_iadd hx hb dL_law_615 ?_
      refine va_sld hx hb hX hbl hbA X.2.2 hi1 dL_law_616 ?_
      refine lv_aload_n hx hb dL_law_617 rfl (lv_at hl 0 rfl) ?_
      refine lv_iload_n hx hb dL_law_618 rfl (lv_at hl 3 rfl) ?_
      refine lv_iconst (v := 2) hx hb dL_law_619 (by decide) ?_
      refine lv_iadd hx hb dL_law_620 ?_
      refine va_sld hx hb hX hbl hbA X.2.2 hi2 dL_law_621 ?_
      refine L_calli C X.swap (L_runi (rm := { frames := 8, cells := 0, slots := 0, locals := 197 }) (As := [.int (xs (x3 + (1 : Int32)).toNatClampNeg), .int (xs (x3 + (2 : Int32)).toNatClampNeg)]) (rest := [.int (r1)]) C X.swap (fun A => cR_when l E A mo adR v v2 r1 (xs (x3 + (1 : Int32)).toNatClampNeg) (xs (x3 + (2 : Int32)).toNatClampNeg) er) kX8_when m_913 0 6 rfl rfl hl.1 rfl ⟨Nat.le_of_ble_eq_true rfl, Nat.le_of_ble_eq_true rfl⟩ rfl (Nat.le_of_ble_eq_true rfl) dL_law_622 ⟨by show 21 + 3 * (k + 1) + 0 ≤ 600000; omega, by show 12760 + 2798 * (k + 1) + 0 ≤ 7302250; omega⟩) (fun H locs r2 u hu X => ?_)
      obtain ⟨rfl, rfl⟩ := hu
      have X := X.swap
      refine lv_icmp_eq (tgt := 928) hx hb dL_law_625 (by decide) (fun _ => ?_) (fun c9 => absurd rfl c9)
      exact fin v2 w2 H locs ls hI2 hl X
    by_cases s12 : sw = (12 : Int32)
    · refine g_tabIn (tgt := 630) hx hb s12 dL_law_33 (by decide) (by decide) rfl (by decide) ?_
      refine lv_aload_n hx hb dL_law_630 rfl (lv_at hl 1 rfl) ?_
      obtain ⟨r, v2, w2, er, ew, hI2⟩ := hs_begin k v w  hk5 hI
      refine L_calli C X (L_runi (rm := { frames := 1, cells := 0, slots := 0, locals := 21 }) (As := []) (rest := []) C X (fun A => cC__begin l E A ad w w2 r  ew) kX7_begin m_548 0 5 rfl rfl hl.1 rfl ⟨Nat.le_of_ble_eq_true rfl, Nat.le_of_ble_eq_true rfl⟩ rfl (Nat.le_of_ble_eq_true rfl) dL_law_631 ⟨by show 21 + 3 * k + 0 ≤ 600000; omega, by show 12760 + 2798 * k + 0 ≤ 7302250; omega⟩) (fun H locs r1 u hu X => ?_)
      obtain ⟨rfl, rfl⟩ := hu
      refine W.widen (k := 21 + 3 * (k + 1)) (n := 12760 + 2798 * (k + 1)) (by show 21 + 3 * k + 0 ≤ 21 + 3 * (k + 1); omega) (by show 12760 + 2798 * k + 0 ≤ 12760 + 2798 * (k + 1); omega) ?_
      refine lv_aload_n hx hb dL_law_634 rfl (lv_at hl 2 rfl) ?_
      refine L_calli C X.swap (L_runi (rm := { frames := 1, cells := 0, slots := 0, locals := 21 }) (As := []) (rest := [.int (r1)]) C X.swap (fun A => cR_begin l E A mo adR v v2 r1  er) kX8_begin m_917 0 6 rfl rfl hl.1 rfl ⟨Nat.le_of_ble_eq_true rfl, Nat.le_of_ble_eq_true rfl⟩ rfl (Nat.le_of_ble_eq_true rfl) dL_law_635 ⟨by show 21 + 3 * (k + 1) + 0 ≤ 600000; omega, by show 12760 + 2798 * (k + 1) + 0 ≤ 7302250; omega⟩) (fun H locs r2 u hu X => ?_)
      obtain ⟨rfl, rfl⟩ := hu
      have X := X.swap
      refine lv_icmp_eq (tgt := 928) hx hb dL_law_638 (by decide) (fun _ => ?_) (fun c9 => absurd rfl c9)
      exact fin v2 w2 H locs ls hI2 hl X
    by_cases s13 : sw = (13 : Int32)
    · refine g_tabIn (tgt := 643) hx hb s13 dL_law_33 (by decide) (by decide) rfl (by decide) ?_
      refine lv_aload_n hx hb dL_law_643 rfl (lv_at hl 1 rfl) ?_
      obtain ⟨r, v2, w2, er, ew, hI2⟩ := hs_end k v w  hk5 hI
      refine L_calli C X (L_runi (rm := { frames := 1, cells := 0, slots := 0, locals := 21 }) (As := []) (rest := []) C X (fun A => cC__end l E A ad w w2 r  ew) kX7_end m_556 0 5 rfl rfl hl.1 rfl ⟨Nat.le_of_ble_eq_true rfl, Nat.le_of_ble_eq_true rfl⟩ rfl (Nat.le_of_ble_eq_true rfl) dL_law_644 ⟨by show 21 + 3 * k + 0 ≤ 600000; omega, by show 12760 + 2798 * k + 0 ≤ 7302250; omega⟩) (fun H locs r1 u hu X => ?_)
      obtain ⟨rfl, rfl⟩ := hu
      refine W.widen (k := 21 + 3 * (k + 1)) (n := 12760 + 2798 * (k + 1)) (by show 21 + 3 * k + 0 ≤ 21 + 3 * (k + 1); omega) (by show 12760 + 2798 * k + 0 ≤ 12760 + 2798 * (k + 1); omega) ?_
      refine lv_aload_n hx hb dL_law_647 rfl (lv_at hl 2 rfl) ?_
      refine L_calli C X.swap (L_runi (rm := { frames := 1, cells := 0, slots := 0, locals := 21 }) (As := []) (rest := [.int (r1)]) C X.swap (fun A => cR_end l E A mo adR v v2 r1  er) kX8_end m_921 0 6 rfl rfl hl.1 rfl ⟨Nat.le_of_ble_eq_true rfl, Nat.le_of_ble_eq_true rfl⟩ rfl (Nat.le_of_ble_eq_true rfl) dL_law_648 ⟨by show 21 + 3 * (k + 1) + 0 ≤ 600000; omega, by show 12760 + 2798 * (k + 1) + 0 ≤ 7302250; omega⟩) (fun H locs r2 u hu X => ?_)
      obtain ⟨rfl, rfl⟩ := hu
      have X := X.swap
      refine lv_icmp_eq (tgt := 928) hx hb dL_law_651 (by decide) (fun _ => ?_) (fun c9 => absurd rfl c9)
      exact fin v2 w2 H locs ls hI2 hl X
    by_cases s14 : sw = (14 : Int32)
    · refine g_tabIn (tgt := 656) hx hb s14 dL_law_33 (by decide) (by decide) rfl (by decide) ?_
      refine lv_aload_n hx hb dL_law_656 rfl (lv_at hl 1 rfl) ?_
      refine lv_aload_n hx hb dL_law_657 rfl (lv_at hl 0 rfl) ?_
      refine lv_iload_n hx hb dL_law_658 rfl (lv_at hl 3 rfl) ?_
      refine lv_iconst (v := 1) hx hb dL_law_659 (by decide) ?_
      refine lv_iadd hx hb dL_law_660 ?_
      refine va_sld hx hb hX hbl hbA X.2.2 hi1 dL_law_661 ?_
      obtain ⟨r, v2, er, hw⟩ := hs_carry k v w (xs (x3 + (1 : Int32)).toNatClampNeg) hk5 hI
      refine L_calli C X (L_runi (rm := { frames := 6, cells := 3, slots := 2798, locals := 155 }) (As := [.int (xs (x3 + (1 : Int32)).toNatClampNeg)]) (rest := []) C X (fun A => cC__carry l E A ad w (xs (x3 + (1 : Int32)).toNatClampNeg) _ hw) kX7_carry m_560 0 5 rfl rfl hl.1 rfl ⟨Nat.le_of_ble_eq_true rfl, Nat.le_of_ble_eq_true rfl⟩ rfl (Nat.le_of_ble_eq_true rfl) dL_law_662 ⟨by show 21 + 3 * k + 3 ≤ 600000; omega, by show 12760 + 2798 * k + 2798 ≤ 7302250; omega⟩) (fun H locs r1 u hu X => ?_)
      obtain ⟨w2, rfl, rfl, hI2⟩ := hu
      refine W.widen (k := 21 + 3 * (k + 1)) (n := 12760 + 2798 * (k + 1)) (by show 21 + 3 * k + 3 ≤ 21 + 3 * (k + 1); omega) (by show 12760 + 2798 * k + 2798 ≤ 12760 + 2798 * (k + 1); omega) ?_
      refine lv_aload_n hx hb dL_law_665 rfl (lv_at hl 2 rfl) ?_
      refine lv_aload_n hx hb dL_law_666 rfl (lv_at hl 0 rfl) ?_
      refine lv_iload_n hx hb dL_law_667 rfl (lv_at hl 3 rfl) ?_
      refine lv_iconst (v := 1) hx hb dL_law_668 (by decide) ?_
      refine lv_iadd hx hb dL_law_669 ?_
      refine va_sld hx hb hX hbl hbA X.2.2 hi1 dL_law_670 ?_
      refine L_calli C X.swap (L_runi (rm := { frames := 8, cells := 0, slots := 0, locals := 196 }) (As := [.int (xs (x3 + (1 : Int32)).toNatClampNeg)]) (rest := [.int (r1)]) C X.swap (fun A => cR_carry l E A mo adR v v2 r1 (xs (x3 + (1 : Int32)).toNatClampNeg) er) kX8_carry m_925 0 6 rfl rfl hl.1 rfl ⟨Nat.le_of_ble_eq_true rfl, Nat.le_of_ble_eq_true rfl⟩ rfl (Nat.le_of_ble_eq_true rfl) dL_law_671 ⟨by show 21 + 3 * (k + 1) + 0 ≤ 600000; omega, by show 12760 + 2798 * (k + 1) + 0 ≤ 7302250; omega⟩) (fun H locs r2 u hu X => ?_)
      obtain ⟨rfl, rfl⟩ := hu
      have X := X.swap
      refine lv_icmp_eq (tgt := 928) hx hb dL_law_674 (by decide) (fun _ => ?_) (fun c9 => absurd rfl c9)
      exact fin v2 w2 H locs ls hI2 hl X
    by_cases s15 : sw = (15 : Int32)
    · refine g_tabIn (tgt := 679) hx hb s15 dL_law_33 (by decide) (by decide) rfl (by decide) ?_
      refine lv_aload_n hx hb dL_law_679 rfl (lv_at hl 1 rfl) ?_
      obtain ⟨r, v2, er, hw⟩ := hs_undo k v w  hk5 hI
      refine L_calli C X (L_runi (rm := { frames := 1, cells := 0, slots := 0, locals := 22 }) (As := []) (rest := []) C X (fun A => cC__undo l E A ad w  _ hw) kX7_undo m_580 0 5 rfl rfl hl.1 rfl ⟨Nat.le_of_ble_eq_true rfl, Nat.le_of_ble_eq_true rfl⟩ rfl (Nat.le_of_ble_eq_true rfl) dL_law_680 ⟨by show 21 + 3 * k + 0 ≤ 600000; omega, by show 12760 + 2798 * k + 0 ≤ 7302250; omega⟩) (fun H locs r1 u hu X => ?_)
      obtain ⟨w2, rfl, rfl, hI2⟩ := hu
      refine W.widen (k := 21 + 3 * (k + 1)) (n := 12760 + 2798 * (k + 1)) (by show 21 + 3 * k + 0 ≤ 21 + 3 * (k + 1); omega) (by show 12760 + 2798 * k + 0 ≤ 12760 + 2798 * (k + 1); omega) ?_
      refine lv_aload_n hx hb dL_law_683 rfl (lv_at hl 2 rfl) ?_
      refine L_calli C X.swap (L_runi (rm := { frames := 8, cells := 0, slots := 0, locals := 196 }) (As := []) (rest := [.int (r1)]) C X.swap (fun A => cR_undo l E A mo adR v v2 r1  er) kX8_undo m_941 0 6 rfl rfl hl.1 rfl ⟨Nat.le_of_ble_eq_true rfl, Nat.le_of_ble_eq_true rfl⟩ rfl (Nat.le_of_ble_eq_true rfl) dL_law_684 ⟨by show 21 + 3 * (k + 1) + 0 ≤ 600000; omega, by show 12760 + 2798 * (k + 1) + 0 ≤ 7302250; omega⟩) (fun H locs r2 u hu X => ?_)
      obtain ⟨rfl, rfl⟩ := hu
      have X := X.swap
      refine lv_icmp_eq (tgt := 928) hx hb dL_law_687 (by decide) (fun _ => ?_) (fun c9 => absurd rfl c9)
      exact fin v2 w2 H locs ls hI2 hl X
    by_cases s16 : sw = (16 : Int32)
    · refine g_tabIn (tgt := 692) hx hb s16 dL_law_33 (by decide) (by decide) rfl (by decide) ?_
      refine lv_aload_n hx hb dL_law_692 rfl (lv_at hl 1 rfl) ?_
      obtain ⟨r, v2, w2, er, ew, hI2⟩ := hs_acts k v w  hk5 hI
      refine L_calli C X (L_runi (rm := { frames := 0, cells := 0, slots := 0, locals := 0 }) (As := []) (rest := []) C X (fun A => cC__acts l E A ad w w2 r  ew) kX7_acts m_588 0 5 rfl rfl hl.1 rfl ⟨Nat.le_of_ble_eq_true rfl, Nat.le_of_ble_eq_true rfl⟩ rfl (Nat.le_of_ble_eq_true rfl) dL_law_693 ⟨by show 21 + 3 * k + 0 ≤ 600000; omega, by show 12760 + 2798 * k + 0 ≤ 7302250; omega⟩) (fun H locs r1 u hu X => ?_)
      obtain ⟨rfl, rfl⟩ := hu
      refine W.widen (k := 21 + 3 * (k + 1)) (n := 12760 + 2798 * (k + 1)) (by show 21 + 3 * k + 0 ≤ 21 + 3 * (k + 1); omega) (by show 12760 + 2798 * k + 0 ≤ 12760 + 2798 * (k + 1); omega) ?_
      refine lv_aload_n hx hb dL_law_696 rfl (lv_at hl 2 rfl) ?_
      refine L_calli C X.swap (L_runi (rm := { frames := 0, cells := 0, slots := 0, locals := 0 }) (As := []) (rest := [.int (r1)]) C X.swap (fun A => cR_acts l E A mo adR v v2 r1  er) kX8_acts m_945 0 6 rfl rfl hl.1 rfl ⟨Nat.le_of_ble_eq_true rfl, Nat.le_of_ble_eq_true rfl⟩ rfl (Nat.le_of_ble_eq_true rfl) dL_law_697 ⟨by show 21 + 3 * (k + 1) + 0 ≤ 600000; omega, by show 12760 + 2798 * (k + 1) + 0 ≤ 7302250; omega⟩) (fun H locs r2 u hu X => ?_)
      obtain ⟨rfl, rfl⟩ := hu
      have X := X.swap
      refine lv_icmp_eq (tgt := 928) hx hb dL_law_700 (by decide) (fun _ => ?_) (fun c9 => absurd rfl c9)
      exact fin v2 w2 H locs ls hI2 hl X
    by_cases s17 : sw = (17 : Int32)
    · refine g_tabIn (tgt := 705) hx hb s17 dL_law_33 (by decide) (by decide) rfl (by decide) ?_
      refine lv_aload_n hx hb dL_law_705 rfl (lv_at hl 1 rfl) ?_
      refine lv_aload_n hx hb dL_law_706 rfl (lv_at hl 0 rfl) ?_
      refine lv_iload_n hx hb dL_law_707 rfl (lv_at hl 3 rfl) ?_
      refine lv_iconst (v := 1) hx hb dL_law_708 (by decide) ?_
      refine lv_iadd hx hb dL_law_709 ?_
      refine va_sld hx hb hX hbl hbA X.2.2 hi1 dL_law_710 ?_
      refine lv_aload_n hx hb dL_law_711 rfl (lv_at hl 0 rfl) ?_
      refine lv_iload_n hx hb dL_law_712 rfl (lv_at hl 3 rfl) ?_
      refine lv_iconst (v := 2) hx hb dL_law_713 (by decide) ?_
      refine lv_iadd hx hb dL_law_714 ?_
      refine va_sld hx hb hX hbl hbA X.2.2 hi2 dL_law_715 ?_
      obtain ⟨r, v2, w2, er, ew, hI2⟩ := hs_ask k v w (xs (x3 + (1 : Int32)).toNatClampNeg) (xs (x3 + (2 : Int32)).toNatClampNeg) hk5 hI
      refine L_calli C X (L_runi (rm := { frames := 3, cells := 0, slots := 0, locals := 67 }) (As := [.int (xs (x3 + (1 : Int32)).toNatClampNeg), .int (xs (x3 + (2 : Int32)).toNatClampNeg)]) (rest := []) C X (fun A => cC__ask l E A ad w w2 r (xs (x3 + (1 : Int32)).toNatClampNeg) (xs (x3 + (2 : Int32)).toNatClampNeg) ew) kX7_ask m_592 0 5 rfl rfl hl.1 rfl ⟨Nat.le_of_ble_eq_true rfl, Nat.le_of_ble_eq_true rfl⟩ rfl (Nat.le_of_ble_eq_true rfl) dL_law_716 ⟨by show 21 + 3 * k + 0 ≤ 600000; omega, by show 12760 + 2798 * k + 0 ≤ 7302250; omega⟩) (fun H locs r1 u hu X => ?_)
      obtain ⟨rfl, rfl⟩ := hu
      refine W.widen (k := 21 + 3 * (k + 1)) (n := 12760 + 2798 * (k + 1)) (by show 21 + 3 * k + 0 ≤ 21 + 3 * (k + 1); omega) (by show 12760 + 2798 * k + 0 ≤ 12760 + 2798 * (k + 1); omega) ?_
      refine lv_aload_n hx hb dL_law_719 rfl (lv_at hl 2 rfl) ?_
      refine lv_aload_n hx hb dL_law_720 rfl (lv_at hl 0 rfl) ?_
      refine lv_iload_n hx hb dL_law_721 rfl (lv_at hl 3 rfl) ?_
      refine lv_iconst (v := 1) hx hb dL_law_722 (by decide) ?_
      refine lv_iadd hx hb dL_law_723 ?_
      refine va_sld hx hb hX hbl hbA X.2.2 hi1 dL_law_724 ?_
      refine lv_aload_n hx hb dL_law_725 rfl (lv_at hl 0 rfl) ?_
      refine lv_iload_n hx hb dL_law_726 rfl (lv_at hl 3 rfl) ?_
      refine lv_iconst (v := 2) hx hb dL_law_727 (by decide) ?_
      refine lv_iadd hx hb dL_law_728 ?_
      refine va_sld hx hb hX hbl hbA X.2.2 hi2 dL_law_729 ?_
      refine L_calli C X.swap (L_runi (rm := { frames := 3, cells := 0, slots := 0, locals := 68 }) (As := [.int (xs (x3 + (1 : Int32)).toNatClampNeg), .int (xs (x3 + (2 : Int32)).toNatClampNeg)]) (rest := [.int (r1)]) C X.swap (fun A => cR_ask l E A mo adR v v2 r1 (xs (x3 + (1 : Int32)).toNatClampNeg) (xs (x3 + (2 : Int32)).toNatClampNeg) er) kX8_ask m_949 0 6 rfl rfl hl.1 rfl ⟨Nat.le_of_ble_eq_true rfl, Nat.le_of_ble_eq_true rfl⟩ rfl (Nat.le_of_ble_eq_true rfl) dL_law_730 ⟨by show 21 + 3 * (k + 1) + 0 ≤ 600000; omega, by show 12760 + 2798 * (k + 1) + 0 ≤ 7302250; omega⟩) (fun H locs r2 u hu X => ?_)
      obtain ⟨rfl, rfl⟩ := hu
      have X := X.swap
      refine lv_icmp_eq (tgt := 928) hx hb dL_law_733 (by decide) (fun _ => ?_) (fun c9 => absurd rfl c9)
      exact fin v2 w2 H locs ls hI2 hl X
    by_cases s18 : sw = (18 : Int32)
    · refine g_tabIn (tgt := 738) hx hb s18 dL_law_33 (by decide) (by decide) rfl (by decide) ?_
      refine lv_aload_n hx hb dL_law_738 rfl (lv_at hl 1 rfl) ?_
      refine lv_aload_n hx hb dL_law_739 rfl (lv_at hl 0 rfl) ?_
      refine lv_iload_n hx hb dL_law_740 rfl (lv_at hl 3 rfl) ?_
      refine lv_iconst (v := 1) hx hb dL_law_741 (by decide) ?_
      refine lv_iadd hx hb dL_law_742 ?_
      refine va_sld hx hb hX hbl hbA X.2.2 hi1 dL_law_743 ?_
      refine lv_aload_n hx hb dL_law_744 rfl (lv_at hl 0 rfl) ?_
      refine lv_iload_n hx hb dL_law_745 rfl (lv_at hl 3 rfl) ?_
      refine lv_iconst (v := 2) hx hb dL_law_746 (by decide) ?_
      refine lv_iadd hx hb dL_law_747 ?_
      refine va_sld hx hb hX hbl hbA X.2.2 hi2 dL_law_748 ?_
      refine lv_aload_n hx hb dL_law_749 rfl (lv_at hl 0 rfl) ?_
      refine lv_iload_n hx hb dL_law_750 rfl (lv_at hl 3 rfl) ?_
      refine lv_iconst (v := 3) hx hb dL_law_751 (by decide) ?_
      refine lv_iadd hx hb dL_law_752 ?_
      refine va_sld hx hb hX hbl hbA X.2.2 hi3 dL_law_753 ?_
      obtain ⟨r, v2, w2, er, ew, hI2⟩ := hs_take k v w (xs (x3 + (1 : Int32)).toNatClampNeg) (xs (x3 + (2 : Int32)).toNatClampNeg) (xs (x3 + (3 : Int32)).toNatClampNeg) hk5 hI
      refine L_calll C X (L_runl (rm := { frames := 4, cells := 0, slots := 0, locals := 89 }) (As := [.int (xs (x3 + (1 : Int32)).toNatClampNeg), .int (xs (x3 + (2 : Int32)).toNatClampNeg), .int (xs (x3 + (3 : Int32)).toNatClampNeg)]) (rest := []) C X (fun A => cC__take l E A ad w w2 r (xs (x3 + (1 : Int32)).toNatClampNeg) (xs (x3 + (2 : Int32)).toNatClampNeg) (xs (x3 + (3 : Int32)).toNatClampNeg) ew) kX7_take m_596 0 5 rfl rfl hl.1 rfl ⟨Nat.le_of_ble_eq_true rfl, Nat.le_of_ble_eq_true rfl⟩ rfl (Nat.le_of_ble_eq_true rfl) dL_law_754 ⟨by show 21 + 3 * k + 0 ≤ 600000; omega, by show 12760 + 2798 * k + 0 ≤ 7302250; omega⟩) (fun H locs r1 u hu X => ?_)
      obtain ⟨rfl, rfl⟩ := hu
      refine W.widen (k := 21 + 3 * (k + 1)) (n := 12760 + 2798 * (k + 1)) (by show 21 + 3 * k + 0 ≤ 21 + 3 * (k + 1); omega) (by show 12760 + 2798 * k + 0 ≤ 12760 + 2798 * (k + 1); omega) ?_
      refine lv_aload_n hx hb dL_law_757 rfl (lv_at hl 2 rfl) ?_
      refine lv_aload_n hx hb dL_law_758 rfl (lv_at hl 0 rfl) ?_
      refine lv_iload_n hx hb dL_law_759 rfl (lv_at hl 3 rfl) ?_
      refine lv_iconst (v := 1) hx hb dL_law_760 (by decide) ?_
      refine lv_iadd hx hb dL_law_761 ?_
      refine va_sld hx hb hX hbl hbA X.2.2 hi1 dL_law_762 ?_
      refine lv_aload_n hx hb dL_law_763 rfl (lv_at hl 0 rfl) ?_
      refine lv_iload_n hx hb dL_law_764 rfl (lv_at hl 3 rfl) ?_
      refine lv_iconst (v := 2) hx hb dL_law_765 (by decide) ?_
      refine lv_iadd hx hb dL_law_766 ?_
      refine va_sld hx hb hX hbl hbA X.2.2 hi2 dL_law_767 ?_
      refine lv_aload_n hx hb dL_law_768 rfl (lv_at hl 0 rfl) ?_
      refine lv_iload_n hx hb dL_law_769 rfl (lv_at hl 3 rfl) ?_
      refine lv_iconst (v := 3) hx hb dL_law_770 (by decide) ?_
      refine lv_iadd hx hb dL_law_771 ?_
      refine va_sld hx hb hX hbl hbA X.2.2 hi3 dL_law_772 ?_
      refine L_calll C X.swap (L_runl (rm := { frames := 4, cells := 0, slots := 0, locals := 91 }) (As := [.int (xs (x3 + (1 : Int32)).toNatClampNeg), .int (xs (x3 + (2 : Int32)).toNatClampNeg), .int (xs (x3 + (3 : Int32)).toNatClampNeg)]) (rest := [.long (r1)]) C X.swap (fun A => cR_take l E A mo adR v v2 r1 (xs (x3 + (1 : Int32)).toNatClampNeg) (xs (x3 + (2 : Int32)).toNatClampNeg) (xs (x3 + (3 : Int32)).toNatClampNeg) er) kX8_take m_953 0 6 rfl rfl hl.1 rfl ⟨Nat.le_of_ble_eq_true rfl, Nat.le_of_ble_eq_true rfl⟩ rfl (Nat.le_of_ble_eq_true rfl) dL_law_773 ⟨by show 21 + 3 * (k + 1) + 0 ≤ 600000; omega, by show 12760 + 2798 * (k + 1) + 0 ≤ 7302250; omega⟩) (fun H locs r2 u hu X => ?_)
      obtain ⟨rfl, rfl⟩ := hu
      have X := X.swap
      refine W.lcmp hx hb dL_law_776 ?_
      refine lv_if_eq (tgt := 928) hx hb dL_law_777 (by decide) (fun _ => ?_) (fun c9 => absurd (by simp [lg_cmp]) c9)
      exact fin v2 w2 H locs ls hI2 hl X
    by_cases s19 : sw = (19 : Int32)
    · refine g_tabIn (tgt := 782) hx hb s19 dL_law_33 (by decide) (by decide) rfl (by decide) ?_
      refine lv_aload_n hx hb dL_law_782 rfl (lv_at hl 1 rfl) ?_
      refine lv_aload_n hx hb dL_law_783 rfl (lv_at hl 0 rfl) ?_
      refine lv_iload_n hx hb dL_law_784 rfl (lv_at hl 3 rfl) ?_
      refine lv_iconst (v := 1) hx hb dL_law_785 (by decide) ?_
      refine lv_iadd hx hb dL_law_786 ?_
      refine va_sld hx hb hX hbl hbA X.2.2 hi1 dL_law_787 ?_
      obtain ⟨r, v2, w2, er, ew, hI2⟩ := hs_size k v w (xs (x3 + (1 : Int32)).toNatClampNeg) hk5 hI
      refine L_calli C X (L_runi (rm := { frames := 3, cells := 0, slots := 0, locals := 67 }) (As := [.int (xs (x3 + (1 : Int32)).toNatClampNeg)]) (rest := []) C X (fun A => cC__size l E A ad w w2 r (xs (x3 + (1 : Int32)).toNatClampNeg) ew) kX7_size m_615 0 5 rfl rfl hl.1 rfl ⟨Nat.le_of_ble_eq_true rfl, Nat.le_of_ble_eq_true rfl⟩ rfl (Nat.le_of_ble_eq_true rfl) dL_law_788 ⟨by show 21 + 3 * k + 0 ≤ 600000; omega, by show 12760 + 2798 * k + 0 ≤ 7302250; omega⟩) (fun H locs r1 u hu X => ?_)
      obtain ⟨rfl, rfl⟩ := hu
      refine W.widen (k := 21 + 3 * (k + 1)) (n := 12760 + 2798 * (k + 1)) (by show 21 + 3 * k + 0 ≤ 21 + 3 * (k + 1); omega) (by show 12760 + 2798 * k + 0 ≤ 12760 + 2798 * (k + 1); omega) ?_
      refine lv_aload_n hx hb dL_law_791 rfl (lv_at hl 2 rfl) ?_
      refine lv_aload_n hx hb dL_law_792 rfl (lv_at hl 0 rfl) ?_
      refine lv_iload_n hx hb dL_law_793 rfl (lv_at hl 3 rfl) ?_
      refine lv_iconst (v := 1) hx hb dL_law_794 (by decide) ?_
      refine lv_iadd hx hb dL_law_795 ?_
      refine va_sld hx hb hX hbl hbA X.2.2 hi1 dL_law_796 ?_
      refine L_calli C X.swap (L_runi (rm := { frames := 1, cells := 0, slots := 0, locals := 21 }) (As := [.int (xs (x3 + (1 : Int32)).toNatClampNeg)]) (rest := [.int (r1)]) C X.swap (fun A => cR_size l E A mo adR v v2 r1 (xs (x3 + (1 : Int32)).toNatClampNeg) er) kX8_size m_965 0 6 rfl rfl hl.1 rfl ⟨Nat.le_of_ble_eq_true rfl, Nat.le_of_ble_eq_true rfl⟩ rfl (Nat.le_of_ble_eq_true rfl) dL_law_797 ⟨by show 21 + 3 * (k + 1) + 0 ≤ 600000; omega, by show 12760 + 2798 * (k + 1) + 0 ≤ 7302250; omega⟩) (fun H locs r2 u hu X => ?_)
      obtain ⟨rfl, rfl⟩ := hu
      have X := X.swap
      refine lv_icmp_eq (tgt := 928) hx hb dL_law_800 (by decide) (fun _ => ?_) (fun c9 => absurd rfl c9)
      exact fin v2 w2 H locs ls hI2 hl X
    by_cases s20 : sw = (20 : Int32)
    · refine g_tabIn (tgt := 805) hx hb s20 dL_law_33 (by decide) (by decide) rfl (by decide) ?_
      refine lv_aload_n hx hb dL_law_805 rfl (lv_at hl 1 rfl) ?_
      refine lv_aload_n hx hb dL_law_806 rfl (lv_at hl 0 rfl) ?_
      refine lv_iload_n hx hb dL_law_807 rfl (lv_at hl 3 rfl) ?_
      refine lv_iconst (v := 1) hx hb dL_law_808 (by decide) ?_
      refine lv_iadd hx hb dL_law_809 ?_
      refine va_sld hx hb hX hbl hbA X.2.2 hi1 dL_law_810 ?_
      refine lv_aload_n hx hb dL_law_811 rfl (lv_at hl 0 rfl) ?_
      refine lv_iload_n hx hb dL_law_812 rfl (lv_at hl 3 rfl) ?_
      refine lv_iconst (v := 2) hx hb dL_law_813 (by decide) ?_
      refine lv_iadd hx hb dL_law_814 ?_
      refine va_sld hx hb hX hbl hbA X.2.2 hi2 dL_law_815 ?_
      obtain ⟨r, v2, w2, er, ew, hI2⟩ := hs_read k v w (xs (x3 + (1 : Int32)).toNatClampNeg) (xs (x3 + (2 : Int32)).toNatClampNeg) hk5 hI
      refine L_calll C X (L_runl (rm := { frames := 4, cells := 0, slots := 0, locals := 90 }) (As := [.int (xs (x3 + (1 : Int32)).toNatClampNeg), .int (xs (x3 + (2 : Int32)).toNatClampNeg)]) (rest := []) C X (fun A => cC__read l E A ad w w2 r (xs (x3 + (1 : Int32)).toNatClampNeg) (xs (x3 + (2 : Int32)).toNatClampNeg) ew) kX7_read m_619 0 5 rfl rfl hl.1 rfl ⟨Nat.le_of_ble_eq_true rfl, Nat.le_of_ble_eq_true rfl⟩ rfl (Nat.le_of_ble_eq_true rfl) dL_law_816 ⟨by show 21 + 3 * k + 0 ≤ 600000; omega, by show 12760 + 2798 * k + 0 ≤ 7302250; omega⟩) (fun H locs r1 u hu X => ?_)
      obtain ⟨rfl, rfl⟩ := hu
      refine W.widen (k := 21 + 3 * (k + 1)) (n := 12760 + 2798 * (k + 1)) (by show 21 + 3 * k + 0 ≤ 21 + 3 * (k + 1); omega) (by show 12760 + 2798 * k + 0 ≤ 12760 + 2798 * (k + 1); omega) ?_
      refine lv_aload_n hx hb dL_law_819 rfl (lv_at hl 2 rfl) ?_
      refine lv_aload_n hx hb dL_law_820 rfl (lv_at hl 0 rfl) ?_
      refine lv_iload_n hx hb dL_law_821 rfl (lv_at hl 3 rfl) ?_
      refine lv_iconst (v := 1) hx hb dL_law_822 (by decide) ?_
      refine lv_iadd hx hb dL_law_823 ?_
      refine va_sld hx hb hX hbl hbA X.2.2 hi1 dL_law_824 ?_
      refine lv_aload_n hx hb dL_law_825 rfl (lv_at hl 0 rfl) ?_
      refine lv_iload_n hx hb dL_law_826 rfl (lv_at hl 3 rfl) ?_
      refine lv_iconst (v := 2) hx hb dL_law_827 (by decide) ?_
      refine lv_iadd hx hb dL_law_828 ?_
      refine va_sld hx hb hX hbl hbA X.2.2 hi2 dL_law_829 ?_
      refine L_calll C X.swap (L_runl (rm := { frames := 2, cells := 0, slots := 0, locals := 43 }) (As := [.int (xs (x3 + (1 : Int32)).toNatClampNeg), .int (xs (x3 + (2 : Int32)).toNatClampNeg)]) (rest := [.long (r1)]) C X.swap (fun A => cR_read l E A mo adR v v2 r1 (xs (x3 + (1 : Int32)).toNatClampNeg) (xs (x3 + (2 : Int32)).toNatClampNeg) er) kX8_read m_969 0 6 rfl rfl hl.1 rfl ⟨Nat.le_of_ble_eq_true rfl, Nat.le_of_ble_eq_true rfl⟩ rfl (Nat.le_of_ble_eq_true rfl) dL_law_830 ⟨by show 21 + 3 * (k + 1) + 0 ≤ 600000; omega, by show 12760 + 2798 * (k + 1) + 0 ≤ 7302250; omega⟩) (fun H locs r2 u hu X => ?_)
      obtain ⟨rfl, rfl⟩ := hu
      have X := X.swap
      refine W.lcmp hx hb dL_law_833 ?_
      refine lv_if_eq (tgt := 928) hx hb dL_law_834 (by decide) (fun _ => ?_) (fun c9 => absurd (by simp [lg_cmp]) c9)
      exact fin v2 w2 H locs ls hI2 hl X
    by_cases s21 : sw = (21 : Int32)
    · refine g_tabIn (tgt := 839) hx hb s21 dL_law_33 (by decide) (by decide) rfl (by decide) ?_
      refine lv_aload_n hx hb dL_law_839 rfl (lv_at hl 1 rfl) ?_
      refine lv_aload_n hx hb dL_law_840 rfl (lv_at hl 0 rfl) ?_
      refine lv_iload_n hx hb dL_law_841 rfl (lv_at hl 3 rfl) ?_
      refine lv_iconst (v := 1) hx hb dL_law_842 (by decide) ?_
      refine lv_iadd hx hb dL_law_843 ?_
      refine va_sld hx hb hX hbl hbA X.2.2 hi1 dL_law_844 ?_
      refine lv_aload_n hx hb dL_law_845 rfl (lv_at hl 0 rfl) ?_
      refine lv_iload_n hx hb dL_law_846 rfl (lv_at hl 3 rfl) ?_
      refine lv_iconst (v := 2) hx hb dL_law_847 (by decide) ?_
      refine lv_iadd hx hb dL_law_848 ?_
      refine va_sld hx hb hX hbl hbA X.2.2 hi2 dL_law_849 ?_
      refine lv_aload_n hx hb dL_law_850 rfl (lv_at hl 0 rfl) ?_
      refine lv_iload_n hx hb dL_law_851 rfl (lv_at hl 3 rfl) ?_
      refine lv_iconst (v := 3) hx hb dL_law_852 (by decide) ?_
      refine lv_iadd hx hb dL_law_853 ?_
      refine va_sld hx hb hX hbl hbA X.2.2 hi3 dL_law_854 ?_
      obtain ⟨r, v2, w2, er, ew, hI2⟩ := hs_at k v w (xs (x3 + (1 : Int32)).toNatClampNeg) (xs (x3 + (2 : Int32)).toNatClampNeg) (xs (x3 + (3 : Int32)).toNatClampNeg) hk5 hI
      refine L_calli C X (L_runi (rm := { frames := 4, cells := 0, slots := 0, locals := 90 }) (As := [.int (xs (x3 + (1 : Int32)).toNatClampNeg), .int (xs (x3 + (2 : Int32)).toNatClampNeg), .int (xs (x3 + (3 : Int32)).toNatClampNeg)]) (rest := []) C X (fun A => cC__at l E A ad w w2 r (xs (x3 + (1 : Int32)).toNatClampNeg) (xs (x3 + (2 : Int32)).toNatClampNeg) (xs (x3 + (3 : Int32)).toNatClampNeg) ew) kX7_at m_623 0 5 rfl rfl hl.1 rfl ⟨Nat.le_of_ble_eq_true rfl, Nat.le_of_ble_eq_true rfl⟩ rfl (Nat.le_of_ble_eq_true rfl) dL_law_855 ⟨by show 21 + 3 * k + 0 ≤ 600000; omega, by show 12760 + 2798 * k + 0 ≤ 7302250; omega⟩) (fun H locs r1 u hu X => ?_)
      obtain ⟨rfl, rfl⟩ := hu
      refine W.widen (k := 21 + 3 * (k + 1)) (n := 12760 + 2798 * (k + 1)) (by show 21 + 3 * k + 0 ≤ 21 + 3 * (k + 1); omega) (by show 12760 + 2798 * k + 0 ≤ 12760 + 2798 * (k + 1); omega) ?_
      refine lv_aload_n hx hb dL_law_858 rfl (lv_at hl 2 rfl) ?_
      refine lv_aload_n hx hb dL_law_859 rfl (lv_at hl 0 rfl) ?_
      refine lv_iload_n hx hb dL_law_860 rfl (lv_at hl 3 rfl) ?_
      refine lv_iconst (v := 1) hx hb dL_law_861 (by decide) ?_
      refine lv_iadd hx hb dL_law_862 ?_
      refine va_sld hx hb hX hbl hbA X.2.2 hi1 dL_law_863 ?_
      refine lv_aload_n hx hb dL_law_864 rfl (lv_at hl 0 rfl) ?_
      refine lv_iload_n hx hb dL_law_865 rfl (lv_at hl 3 rfl) ?_
      refine lv_iconst (v := 2) hx hb dL_law_866 (by decide) ?_
      refine lv_iadd hx hb dL_law_867 ?_
      refine va_sld hx hb hX hbl hbA X.2.2 hi2 dL_law_868 ?_
      refine lv_aload_n hx hb dL_law_869 rfl (lv_at hl 0 rfl) ?_
      refine lv_iload_n hx hb dL_law_870 rfl (lv_at hl 3 rfl) ?_
      refine lv_iconst (v := 3) hx hb dL_law_871 (by decide) ?_
      refine lv_iadd hx hb dL_law_872 ?_
      refine va_sld hx hb hX hbl hbA X.2.2 hi3 dL_law_873 ?_
      refine L_calli C X.swap (L_runi (rm := { frames := 2, cells := 0, slots := 0, locals := 43 }) (As := [.int (xs (x3 + (1 : Int32)).toNatClampNeg), .int (xs (x3 + (2 : Int32)).toNatClampNeg), .int (xs (x3 + (3 : Int32)).toNatClampNeg)]) (rest := [.int (r1)]) C X.swap (fun A => cR_at l E A mo adR v v2 r1 (xs (x3 + (1 : Int32)).toNatClampNeg) (xs (x3 + (2 : Int32)).toNatClampNeg) (xs (x3 + (3 : Int32)).toNatClampNeg) er) kX8_at m_973 0 6 rfl rfl hl.1 rfl ⟨Nat.le_of_ble_eq_true rfl, Nat.le_of_ble_eq_true rfl⟩ rfl (Nat.le_of_ble_eq_true rfl) dL_law_874 ⟨by show 21 + 3 * (k + 1) + 0 ≤ 600000; omega, by show 12760 + 2798 * (k + 1) + 0 ≤ 7302250; omega⟩) (fun H locs r2 u hu X => ?_)
      obtain ⟨rfl, rfl⟩ := hu
      have X := X.swap
      refine lv_icmp_eq (tgt := 928) hx hb dL_law_877 (by decide) (fun _ => ?_) (fun c9 => absurd rfl c9)
      exact fin v2 w2 H locs ls hI2 hl X
    by_cases s22 : sw = (22 : Int32)
    · refine g_tabIn (tgt := 882) hx hb s22 dL_law_33 (by decide) (by decide) rfl (by decide) ?_
      refine lv_aload_n hx hb dL_law_882 rfl (lv_at hl 1 rfl) ?_
      refine lv_aload_n hx hb dL_law_883 rfl (lv_at hl 0 rfl) ?_
      refine lv_iload_n hx hb dL_law_884 rfl (lv_at hl 3 rfl) ?_
      refine lv_iconst (v := 1) hx hb dL_law_885 (by decide) ?_
      refine lv_iadd hx hb dL_law_886 ?_
      refine va_sld hx hb hX hbl hbA X.2.2 hi1 dL_law_887 ?_
      refine lv_aload_n hx hb dL_law_888 rfl (lv_at hl 0 rfl) ?_
      refine lv_iload_n hx hb dL_law_889 rfl (lv_at hl 3 rfl) ?_
      refine lv_iconst (v := 2) hx hb dL_law_890 (by decide) ?_
      refine lv_iadd hx hb dL_law_891 ?_
      refine va_sld hx hb hX hbl hbA X.2.2 hi2 dL_law_892 ?_
      obtain ⟨r, v2, w2, er, ew, hI2⟩ := hs_tell k v w (xs (x3 + (1 : Int32)).toNatClampNeg) (xs (x3 + (2 : Int32)).toNatClampNeg) hk5 hI
      refine L_calli C X (L_runi (rm := { frames := 3, cells := 0, slots := 0, locals := 67 }) (As := [.int (xs (x3 + (1 : Int32)).toNatClampNeg), .int (xs (x3 + (2 : Int32)).toNatClampNeg)]) (rest := []) C X (fun A => cC__tell l E A ad w w2 r (xs (x3 + (1 : Int32)).toNatClampNeg) (xs (x3 + (2 : Int32)).toNatClampNeg) ew) kX7_tell m_627 0 5 rfl rfl hl.1 rfl ⟨Nat.le_of_ble_eq_true rfl, Nat.le_of_ble_eq_true rfl⟩ rfl (Nat.le_of_ble_eq_true rfl) dL_law_893 ⟨by show 21 + 3 * k + 0 ≤ 600000; omega, by show 12760 + 2798 * k + 0 ≤ 7302250; omega⟩) (fun H locs r1 u hu X => ?_)
      obtain ⟨rfl, rfl⟩ := hu
      refine W.widen (k := 21 + 3 * (k + 1)) (n := 12760 + 2798 * (k + 1)) (by show 21 + 3 * k + 0 ≤ 21 + 3 * (k + 1); omega) (by show 12760 + 2798 * k + 0 ≤ 12760 + 2798 * (k + 1); omega) ?_
      refine lv_aload_n hx hb dL_law_896 rfl (lv_at hl 2 rfl) ?_
      refine lv_aload_n hx hb dL_law_897 rfl (lv_at hl 0 rfl) ?_
      refine lv_iload_n hx hb dL_law_898 rfl (lv_at hl 3 rfl) ?_
      refine lv_iconst (v := 1) hx hb dL_law_899 (by decide) ?_
      refine lv_iadd hx hb dL_law_900 ?_
      refine va_sld hx hb hX hbl hbA X.2.2 hi1 dL_law_901 ?_
      refine lv_aload_n hx hb dL_law_902 rfl (lv_at hl 0 rfl) ?_
      refine lv_iload_n hx hb dL_law_903 rfl (lv_at hl 3 rfl) ?_
      refine lv_iconst (v := 2) hx hb dL_law_904 (by decide) ?_
      refine lv_iadd hx hb dL_law_905 ?_
      refine va_sld hx hb hX hbl hbA X.2.2 hi2 dL_law_906 ?_
      refine L_calli C X.swap (L_runi (rm := { frames := 3, cells := 0, slots := 0, locals := 68 }) (As := [.int (xs (x3 + (1 : Int32)).toNatClampNeg), .int (xs (x3 + (2 : Int32)).toNatClampNeg)]) (rest := [.int (r1)]) C X.swap (fun A => cR_tell l E A mo adR v v2 r1 (xs (x3 + (1 : Int32)).toNatClampNeg) (xs (x3 + (2 : Int32)).toNatClampNeg) er) kX8_tell m_977 0 6 rfl rfl hl.1 rfl ⟨Nat.le_of_ble_eq_true rfl, Nat.le_of_ble_eq_true rfl⟩ rfl (Nat.le_of_ble_eq_true rfl) dL_law_907 ⟨by show 21 + 3 * (k + 1) + 0 ≤ 600000; omega, by show 12760 + 2798 * (k + 1) + 0 ≤ 7302250; omega⟩) (fun H locs r2 u hu X => ?_)
      obtain ⟨rfl, rfl⟩ := hu
      have X := X.swap
      refine lv_icmp_eq (tgt := 928) hx hb dL_law_910 (by decide) (fun _ => ?_) (fun c9 => absurd rfl c9)
      exact fin v2 w2 H locs ls hI2 hl X
    by_cases s23 : sw = (23 : Int32)
    · refine g_tabIn (tgt := 915) hx hb s23 dL_law_33 (by decide) (by decide) rfl (by decide) ?_
      refine lv_aload_n hx hb dL_law_915 rfl (lv_at hl 1 rfl) ?_
      obtain ⟨r, v2, w2, er, ew, hI2⟩ := hs_why k v w  hk5 hI
      refine L_calli C X (L_runi (rm := { frames := 0, cells := 0, slots := 0, locals := 0 }) (As := []) (rest := []) C X (fun A => cC__why l E A ad w w2 r  ew) kX7_why m_631 0 5 rfl rfl hl.1 rfl ⟨Nat.le_of_ble_eq_true rfl, Nat.le_of_ble_eq_true rfl⟩ rfl (Nat.le_of_ble_eq_true rfl) dL_law_916 ⟨by show 21 + 3 * k + 0 ≤ 600000; omega, by show 12760 + 2798 * k + 0 ≤ 7302250; omega⟩) (fun H locs r1 u hu X => ?_)
      obtain ⟨rfl, rfl⟩ := hu
      refine W.widen (k := 21 + 3 * (k + 1)) (n := 12760 + 2798 * (k + 1)) (by show 21 + 3 * k + 0 ≤ 21 + 3 * (k + 1); omega) (by show 12760 + 2798 * k + 0 ≤ 12760 + 2798 * (k + 1); omega) ?_
      refine lv_aload_n hx hb dL_law_919 rfl (lv_at hl 2 rfl) ?_
      refine L_calli C X.swap (L_runi (rm := { frames := 0, cells := 0, slots := 0, locals := 0 }) (As := []) (rest := [.int (r1)]) C X.swap (fun A => cR_why l E A mo adR v v2 r1  er) kX8_why m_981 0 6 rfl rfl hl.1 rfl ⟨Nat.le_of_ble_eq_true rfl, Nat.le_of_ble_eq_true rfl⟩ rfl (Nat.le_of_ble_eq_true rfl) dL_law_920 ⟨by show 21 + 3 * (k + 1) + 0 ≤ 600000; omega, by show 12760 + 2798 * (k + 1) + 0 ≤ 7302250; omega⟩) (fun H locs r2 u hu X => ?_)
      obtain ⟨rfl, rfl⟩ := hu
      have X := X.swap
      refine lv_icmp_eq (tgt := 928) hx hb dL_law_923 (by decide) (fun _ => ?_) (fun c9 => absurd rfl c9)
      exact fin v2 w2 H locs ls hI2 hl X
    refine lv_tableOut (tgt := 928) hx hb dL_law_33 (by have z0 := g_ne (0) s0 (by decide); have z1 := g_ne (1) s1 (by decide); have z2 := g_ne (2) s2 (by decide); have z3 := g_ne (3) s3 (by decide); have z4 := g_ne (4) s4 (by decide); have z5 := g_ne (5) s5 (by decide); have z6 := g_ne (6) s6 (by decide); have z7 := g_ne (7) s7 (by decide); have z8 := g_ne (8) s8 (by decide); have z9 := g_ne (9) s9 (by decide); have z10 := g_ne (10) s10 (by decide); have z11 := g_ne (11) s11 (by decide); have z12 := g_ne (12) s12 (by decide); have z13 := g_ne (13) s13 (by decide); have z14 := g_ne (14) s14 (by decide); have z15 := g_ne (15) s15 (by decide); have z16 := g_ne (16) s16 (by decide); have z17 := g_ne (17) s17 (by decide); have z18 := g_ne (18) s18 (by decide); have z19 := g_ne (19) s19 (by decide); have z20 := g_ne (20) s20 (by decide); have z21 := g_ne (21) s21 (by decide); have z22 := g_ne (22) s22 (by decide); have z23 := g_ne (23) s23 (by decide); omega) (by decide) ?_
    refine W.widen (k := 21 + 3 * (k + 1)) (n := 12760 + 2798 * (k + 1)) (by omega) (by omega) ?_
    exact fin v w H locs ls (hI_skip k v w hk5 hI) hl X
theorem g_nest_in : ∀ w ∈ g_nest, w ∈ lw_tbl := by
  intro w hw
  simp only [g_nest, List.mem_cons, List.not_mem_nil, or_false] at hw
  rcases hw with rfl | rfl | rfl | rfl | rfl | rfl | rfl | rfl | rfl | rfl | rfl | rfl | rfl | rfl | rfl | rfl | rfl
  · exact List.mem_of_getElem? (i := 102) (by decide +kernel)
  · exact List.mem_of_getElem? (i := 115) (by decide +kernel)
  · exact List.mem_of_getElem? (i := 121) (by decide +kernel)
  · exact List.mem_of_getElem? (i := 130) (by decide +kernel)
  · exact List.mem_of_getElem? (i := 138) (by decide +kernel)
  · exact List.mem_of_getElem? (i := 140) (by decide +kernel)
  · exact List.mem_of_getElem? (i := 172) (by decide +kernel)
  · exact List.mem_of_getElem? (i := 174) (by decide +kernel)
  · exact List.mem_of_getElem? (i := 176) (by decide +kernel)
  · exact List.mem_of_getElem? (i := 178) (by decide +kernel)
  · exact List.mem_of_getElem? (i := 180) (by decide +kernel)
  · exact List.mem_of_getElem? (i := 182) (by decide +kernel)
  · exact List.mem_of_getElem? (i := 264) (by decide +kernel)
  · exact List.mem_of_getElem? (i := 309) (by decide +kernel)
  · exact List.mem_of_getElem? (i := 311) (by decide +kernel)
  · exact List.mem_of_getElem? (i := 313) (by decide +kernel)
  · exact List.mem_of_getElem? (i := 315) (by decide +kernel)
set_option maxRecDepth 100000 in
set_option maxHeartbeats 4000000 in
theorem whole_open {p : Program} {e : Env} {s : State} {m : MethodId} {below : List Frame} {meth : Method} {c : Code} (l : Launch) {b L : Nat} {xs : Nat → Int32} (hL : L ≤ 3072) (C0 : lw_At p s m meth c b L xs) (I : g_Env → Nat → RS → CS → Prop) (h0 : ∀ E, I E 0 rs0 (cs0 [])) (hI_skip : ∀ (E : g_Env) (n : Nat) (v : RS) (w : CS), n < 512 → I E n v w → I E (n + 1) v w) (hs_make : ∀ (E : g_Env) (n : Nat) (v : RS) (w : CS) (a0 : Int32) (a1 : Int32) (a2 : Int32), n < 512 → I E n v w → stW (I E (n + 1)) (fR_make v a0 a1 a2) (fun Q => wC__make E Q w a0 a1 a2)) (hs_lay : ∀ (E : g_Env) (n : Nat) (v : RS) (w : CS) (a0 : Int32) (a1 : Int32), n < 512 → I E n v w → stW (I E (n + 1)) (fR_lay v a0 a1) (fun Q => wC__lay E Q w a0 a1)) (hs_plug : ∀ (E : g_Env) (n : Nat) (v : RS) (w : CS) (a0 : Int32) (a1 : Int32) (a2 : Int32), n < 512 → I E n v w → stW (I E (n + 1)) (fR_plug v a0 a1 a2) (fun Q => wC__plug E Q w a0 a1 a2)) (hs_pull : ∀ (E : g_Env) (n : Nat) (v : RS) (w : CS) (a0 : Int32) (a1 : Int32) (a2 : Int32), n < 512 → I E n v w → stW (I E (n + 1)) (fR_pull v a0 a1 a2) (fun Q => wC__pull E Q w a0 a1 a2)) (hs_copy : ∀ (E : g_Env) (n : Nat) (v : RS) (w : CS) (a0 : Int32) (a1 : Int32) (a2 : Int32) (a3 : Int32) (a4 : Int32), n < 512 → I E n v w → stW (I E (n + 1)) (fR_copy v a0 a1 a2 a3 a4) (fun Q => wC__copy E Q w a0 a1 a2 a3 a4)) (hs_write : ∀ (E : g_Env) (n : Nat) (v : RS) (w : CS) (a0 : Int32) (a1 : Int32) (a2 : Int64), n < 512 → I E n v w → stW (I E (n + 1)) (fR_write v a0 a1 a2) (fun Q => wC__write E Q w a0 a1 a2)) (hs_knob : ∀ (E : g_Env) (n : Nat) (v : RS) (w : CS) (a0 : Int32) (a1 : Int32), n < 512 → I E n v w → stW (I E (n + 1)) (fR_knob v a0 a1) (fun Q => wC__knob E Q w a0 a1)) (hs_play : ∀ (E : g_Env) (n : Nat) (v : RS) (w : CS) (a0 : Int32) (a1 : Int32), n < 512 → I E n v w → stW (I E (n + 1)) (fR_play v a0 a1) (fun Q => wC__play E Q w a0 a1)) (hs_run : ∀ (E : g_Env) (n : Nat) (v : RS) (w : CS) (a0 : Int32) (a1 : Int32), n < 512 → I E n v w → stW (I E (n + 1)) (fR_run v a0 a1) (fun Q => wC__run E Q w a0 a1)) (hs_ticks : ∀ (E : g_Env) (n : Nat) (v : RS) (w : CS) (a0 : Int32) (a1 : Int32), n < 512 → I E n v w → stW (I E (n + 1)) (fR_ticks v a0 a1) (fun Q => wC__ticks E Q w a0 a1)) (hs_rest : ∀ (E : g_Env) (n : Nat) (v : RS) (w : CS) (a0 : Int32), n < 512 → I E n v w → stW (I E (n + 1)) (fR_rest v a0) (fun Q => wC__rest E Q w a0)) (hs_when : ∀ (E : g_Env) (n : Nat) (v : RS) (w : CS) (a0 : Int32) (a1 : Int32), n < 512 → I E n v w → stW (I E (n + 1)) (fR_when v a0 a1) (fun Q => wC__when E Q w a0 a1)) (hs_begin : ∀ (E : g_Env) (n : Nat) (v : RS) (w : CS) , n < 512 → I E n v w → stF (I E (n + 1)) (fR_begin v ) (fC__begin w )) (hs_end : ∀ (E : g_Env) (n : Nat) (v : RS) (w : CS) , n < 512 → I E n v w → stF (I E (n + 1)) (fR_end v ) (fC__end w )) (hs_carry : ∀ (E : g_Env) (n : Nat) (v : RS) (w : CS) (a0 : Int32), n < 512 → I E n v w → stW (I E (n + 1)) (fR_carry v a0) (fun Q => wC__carry E Q w a0)) (hs_undo : ∀ (E : g_Env) (n : Nat) (v : RS) (w : CS) , n < 512 → I E n v w → stW (I E (n + 1)) (fR_undo v ) (fun Q => wC__undo E Q w )) (hs_acts : ∀ (E : g_Env) (n : Nat) (v : RS) (w : CS) , n < 512 → I E n v w → stF (I E (n + 1)) (fR_acts v ) (fC__acts w )) (hs_ask : ∀ (E : g_Env) (n : Nat) (v : RS) (w : CS) (a0 : Int32) (a1 : Int32), n < 512 → I E n v w → stF (I E (n + 1)) (fR_ask v a0 a1) (fC__ask w a0 a1)) (hs_take : ∀ (E : g_Env) (n : Nat) (v : RS) (w : CS) (a0 : Int32) (a1 : Int32) (a2 : Int32), n < 512 → I E n v w → stL (I E (n + 1)) (fR_take v a0 a1 a2) (fC__take w a0 a1 a2)) (hs_size : ∀ (E : g_Env) (n : Nat) (v : RS) (w : CS) (a0 : Int32), n < 512 → I E n v w → stF (I E (n + 1)) (fR_size v a0) (fC__size w a0)) (hs_read : ∀ (E : g_Env) (n : Nat) (v : RS) (w : CS) (a0 : Int32) (a1 : Int32), n < 512 → I E n v w → stL (I E (n + 1)) (fR_read v a0 a1) (fC__read w a0 a1)) (hs_at : ∀ (E : g_Env) (n : Nat) (v : RS) (w : CS) (a0 : Int32) (a1 : Int32) (a2 : Int32), n < 512 → I E n v w → stF (I E (n + 1)) (fR_at v a0 a1 a2) (fC__at w a0 a1 a2)) (hs_tell : ∀ (E : g_Env) (n : Nat) (v : RS) (w : CS) (a0 : Int32) (a1 : Int32), n < 512 → I E n v w → stF (I E (n + 1)) (fR_tell v a0 a1) (fC__tell w a0 a1)) (hs_why : ∀ (E : g_Env) (n : Nat) (v : RS) (w : CS) , n < 512 → I E n v w → stF (I E (n + 1)) (fR_why v ) (fC__why w )) : W p l e room_1 s m #[Value.ref b] below meth c s.heap [] 0 0 (lw_Z below #[Value.ref b] s) (entryFrame m ([Value.ref b] : List Value).toArray 4) := by
  obtain ⟨hx, hb, hr, hml, hown, hts, hX, hbl, hlocks, hgv⟩ := id C0
  have hts2 : ∀ w ∈ g_tbl, w.before #[Value.ref b] s = true := fun w hw => hts w (List.mem_filter.mp hw).1
  obtain ⟨c0, iS0, hKn0⟩ := u_known (C := RX0) (T := TX0) (N := 2) (n := 2) hts2 g_iX0 (hts2 (.instantiable RX0 2) m_114)
  obtain ⟨c1, iS1, hKn1⟩ := u_known (C := RX1) (T := TX1) (N := 4) (n := 4) hts2 g_iX1 (hts2 (.instantiable RX1 4) m_296)
  obtain ⟨c2, iS2, hKn2⟩ := u_known (C := RX3) (T := TX3) (N := 6) (n := 6) hts2 g_iX3 (hts2 (.instantiable RX3 6) m_166)
  obtain ⟨c3, iS3, hKn3⟩ := u_known (C := RX5) (T := TX5) (N := 3) (n := 3) hts2 g_iX5 (hts2 (.instantiable RX5 3) m_129)
  obtain ⟨c4, iS4, hKn4⟩ := u_known (C := RX6) (T := TX6) (N := 4) (n := 4) hts2 g_iX6 (hts2 (.instantiable RX6 4) m_92)
  obtain ⟨c5, iS5, hKn5⟩ := u_known (C := RX7) (T := TX7) (N := 4) (n := 4) hts2 g_iX7 (hts2 (.instantiable RX7 4) m_84)
  obtain ⟨c6, iS6, hKn6⟩ := u_known (C := RX8) (T := TX8) (N := 18) (n := 18) hts2 g_iX8 (hts2 (.instantiable RX8 18) m_636)
  obtain ⟨dC, dI, hKc⟩ : ∃ (dC : Nat → ClassId) (dI : Nat → Nat → Nat), ∀ (k : Nat) (q : vw_C), vwCl[k]? = some q → u_Kn s q.1 q.2.1 q.2.2 (dC k) (dI k) := by
    refine ⟨fun k => match k with | 0 => c0 | 1 => c1 | 2 => c2 | 3 => c3 | 4 => c4 | 5 => c5 | _ => c6, fun k => match k with | 0 => iS0 | 1 => iS1 | 2 => iS2 | 3 => iS3 | 4 => iS4 | 5 => iS5 | _ => iS6, ?_⟩
    intro k q hq
    match k, hq with
    | 0, hq => cases hq; exact hKn0
    | 1, hq => cases hq; exact hKn1
    | 2, hq => cases hq; exact hKn2
    | 3, hq => cases hq; exact hKn3
    | 4, hq => cases hq; exact hKn4
    | 5, hq => cases hq; exact hKn5
    | 6, hq => cases hq; exact hKn6
    | k + 7, hq => simp [vwCl] at hq
  obtain ⟨cI, kI, cpI, fI1, fI2, fI3⟩ := Cond.arrayClass_spec (hts2 (.arrayClass .int) m_127)
  obtain ⟨cJ, kJ, cpJ, fJ1, fJ2, fJ3⟩ := Cond.arrayClass_spec (hts2 (.arrayClass .long) m_112)
  have hAO : va_AO "PatchHall$Line" s := va_AO.of (hts (.arrayOver (.object "PatchHall$Line")) (List.mem_of_getElem? (i := 135) (by decide +kernel)))
  obtain ⟨cpQ, cQ, kQ, fQ1, fQ2, fQ3, fQ4, fQ5⟩ := Cond.arrayOver_spec (va_AO.use (A := #[]) hAO)
  have hs_flattA := flat_of_before _ hgv
  obtain ⟨tA, etA, htA⟩ : ∃ t : Nat, ((Term.static "PatchHall$Kinds" "ABOVE" "[I")).eval #[Value.ref b] s none [] s = some (.ref t) ∧ va_T .int t 25 (fun j => .int (g_above j)) (fun q : Nat => s.heap.size ≤ q) s s.heap := by
    refine va_Tof (by decide) (hs_flattA (Cond.arrayOf (Term.static "PatchHall$Kinds" "ABOVE" "[I") .int) (by decide +kernel)) (va_eqt (hs_flattA (Cond.eq (Term.length (Term.static "PatchHall$Kinds" "ABOVE" "[I")) (.int 25)) (by decide +kernel))) ?_ (fun a ha h => Nat.not_lt.mpr h ha)
    intro j hj
    rcases (show j = 0 ∨ j = 1 ∨ j = 2 ∨ j = 3 ∨ j = 4 ∨ j = 5 ∨ j = 6 ∨ j = 7 ∨ j = 8 ∨ j = 9 ∨ j = 10 ∨ j = 11 ∨ j = 12 ∨ j = 13 ∨ j = 14 ∨ j = 15 ∨ j = 16 ∨ j = 17 ∨ j = 18 ∨ j = 19 ∨ j = 20 ∨ j = 21 ∨ j = 22 ∨ j = 23 ∨ j = 24 by omega) with rfl | rfl | rfl | rfl | rfl | rfl | rfl | rfl | rfl | rfl | rfl | rfl | rfl | rfl | rfl | rfl | rfl | rfl | rfl | rfl | rfl | rfl | rfl | rfl | rfl
    · exact va_eqt (z := 1) (hs_flattA (Cond.eq (Term.elem (Term.static "PatchHall$Kinds" "ABOVE" "[I") (.int 0)) (.int 1)) (by decide +kernel))
    · exact va_eqt (z := 3) (hs_flattA (Cond.eq (Term.elem (Term.static "PatchHall$Kinds" "ABOVE" "[I") (.int 1)) (.int 3)) (by decide +kernel))
    · exact va_eqt (z := 7) (hs_flattA (Cond.eq (Term.elem (Term.static "PatchHall$Kinds" "ABOVE" "[I") (.int 2)) (.int 7)) (by decide +kernel))
    · exact va_eqt (z := 15) (hs_flattA (Cond.eq (Term.elem (Term.static "PatchHall$Kinds" "ABOVE" "[I") (.int 3)) (.int 15)) (by decide +kernel))
    · exact va_eqt (z := 31) (hs_flattA (Cond.eq (Term.elem (Term.static "PatchHall$Kinds" "ABOVE" "[I") (.int 4)) (.int 31)) (by decide +kernel))
    · exact va_eqt (z := 33) (hs_flattA (Cond.eq (Term.elem (Term.static "PatchHall$Kinds" "ABOVE" "[I") (.int 5)) (.int 33)) (by decide +kernel))
    · exact va_eqt (z := 97) (hs_flattA (Cond.eq (Term.elem (Term.static "PatchHall$Kinds" "ABOVE" "[I") (.int 6)) (.int 97)) (by decide +kernel))
    · exact va_eqt (z := 225) (hs_flattA (Cond.eq (Term.elem (Term.static "PatchHall$Kinds" "ABOVE" "[I") (.int 7)) (.int 225)) (by decide +kernel))
    · exact va_eqt (z := 481) (hs_flattA (Cond.eq (Term.elem (Term.static "PatchHall$Kinds" "ABOVE" "[I") (.int 8)) (.int 481)) (by decide +kernel))
    · exact va_eqt (z := 513) (hs_flattA (Cond.eq (Term.elem (Term.static "PatchHall$Kinds" "ABOVE" "[I") (.int 9)) (.int 513)) (by decide +kernel))
    · exact va_eqt (z := 5633) (hs_flattA (Cond.eq (Term.elem (Term.static "PatchHall$Kinds" "ABOVE" "[I") (.int 10)) (.int 5633)) (by decide +kernel))
    · exact va_eqt (z := 6144) (hs_flattA (Cond.eq (Term.elem (Term.static "PatchHall$Kinds" "ABOVE" "[I") (.int 11)) (.int 6144)) (by decide +kernel))
    · exact va_eqt (z := 4096) (hs_flattA (Cond.eq (Term.elem (Term.static "PatchHall$Kinds" "ABOVE" "[I") (.int 12)) (.int 4096)) (by decide +kernel))
    · exact va_eqt (z := 8192) (hs_flattA (Cond.eq (Term.elem (Term.static "PatchHall$Kinds" "ABOVE" "[I") (.int 13)) (.int 8192)) (by decide +kernel))
    · exact va_eqt (z := 16384) (hs_flattA (Cond.eq (Term.elem (Term.static "PatchHall$Kinds" "ABOVE" "[I") (.int 14)) (.int 16384)) (by decide +kernel))
    · exact va_eqt (z := 32768) (hs_flattA (Cond.eq (Term.elem (Term.static "PatchHall$Kinds" "ABOVE" "[I") (.int 15)) (.int 32768)) (by decide +kernel))
    · exact va_eqt (z := 65536) (hs_flattA (Cond.eq (Term.elem (Term.static "PatchHall$Kinds" "ABOVE" "[I") (.int 16)) (.int 65536)) (by decide +kernel))
    · exact va_eqt (z := 131072) (hs_flattA (Cond.eq (Term.elem (Term.static "PatchHall$Kinds" "ABOVE" "[I") (.int 17)) (.int 131072)) (by decide +kernel))
    · exact va_eqt (z := 393216) (hs_flattA (Cond.eq (Term.elem (Term.static "PatchHall$Kinds" "ABOVE" "[I") (.int 18)) (.int 393216)) (by decide +kernel))
    · exact va_eqt (z := 917504) (hs_flattA (Cond.eq (Term.elem (Term.static "PatchHall$Kinds" "ABOVE" "[I") (.int 19)) (.int 917504)) (by decide +kernel))
    · exact va_eqt (z := 1179648) (hs_flattA (Cond.eq (Term.elem (Term.static "PatchHall$Kinds" "ABOVE" "[I") (.int 20)) (.int 1179648)) (by decide +kernel))
    · exact va_eqt (z := 2097152) (hs_flattA (Cond.eq (Term.elem (Term.static "PatchHall$Kinds" "ABOVE" "[I") (.int 21)) (.int 2097152)) (by decide +kernel))
    · exact va_eqt (z := 6422528) (hs_flattA (Cond.eq (Term.elem (Term.static "PatchHall$Kinds" "ABOVE" "[I") (.int 22)) (.int 6422528)) (by decide +kernel))
    · exact va_eqt (z := 8388608) (hs_flattA (Cond.eq (Term.elem (Term.static "PatchHall$Kinds" "ABOVE" "[I") (.int 23)) (.int 8388608)) (by decide +kernel))
    · exact va_eqt (z := 25165824) (hs_flattA (Cond.eq (Term.elem (Term.static "PatchHall$Kinds" "ABOVE" "[I") (.int 24)) (.int 25165824)) (by decide +kernel))
  have hztA : va_Z "PatchHall$Kinds" "ABOVE" "[I" (.ref tA) (fun q : Nat => s.heap.size ≤ q) s s.heap := va_Zof (hts (.laysStatic "PatchHall$Kinds" "ABOVE" "[I") (List.mem_of_getElem? (i := 226) (by decide +kernel))) (hts2 (.initialized "PatchHall$Kinds") m_78) etA (fun a ha h => Nat.not_lt.mpr h ha)
  have hs_flattW := flat_of_before _ hgv
  obtain ⟨tW, etW, htW⟩ : ∃ t : Nat, ((Term.static "PatchHall$Kinds" "WANTED" "[I")).eval #[Value.ref b] s none [] s = some (.ref t) ∧ va_T .int t 9 (fun j => .int (g_wanted j)) (fun q : Nat => s.heap.size ≤ q) s s.heap := by
    refine va_Tof (by decide) (hs_flattW (Cond.arrayOf (Term.static "PatchHall$Kinds" "WANTED" "[I") .int) (by decide +kernel)) (va_eqt (hs_flattW (Cond.eq (Term.length (Term.static "PatchHall$Kinds" "WANTED" "[I")) (.int 9)) (by decide +kernel))) ?_ (fun a ha h => Nat.not_lt.mpr h ha)
    intro j hj
    rcases (show j = 0 ∨ j = 1 ∨ j = 2 ∨ j = 3 ∨ j = 4 ∨ j = 5 ∨ j = 6 ∨ j = 7 ∨ j = 8 by omega) with rfl | rfl | rfl | rfl | rfl | rfl | rfl | rfl | rfl
    · exact va_eqt (z := 13) (hs_flattW (Cond.eq (Term.elem (Term.static "PatchHall$Kinds" "WANTED" "[I") (.int 0)) (.int 13)) (by decide +kernel))
    · exact va_eqt (z := 0) (hs_flattW (Cond.eq (Term.elem (Term.static "PatchHall$Kinds" "WANTED" "[I") (.int 1)) (.int 0)) (by decide +kernel))
    · exact va_eqt (z := 1) (hs_flattW (Cond.eq (Term.elem (Term.static "PatchHall$Kinds" "WANTED" "[I") (.int 2)) (.int 1)) (by decide +kernel))
    · exact va_eqt (z := 2) (hs_flattW (Cond.eq (Term.elem (Term.static "PatchHall$Kinds" "WANTED" "[I") (.int 3)) (.int 2)) (by decide +kernel))
    · exact va_eqt (z := 7) (hs_flattW (Cond.eq (Term.elem (Term.static "PatchHall$Kinds" "WANTED" "[I") (.int 4)) (.int 7)) (by decide +kernel))
    · exact va_eqt (z := 12) (hs_flattW (Cond.eq (Term.elem (Term.static "PatchHall$Kinds" "WANTED" "[I") (.int 5)) (.int 12)) (by decide +kernel))
    · exact va_eqt (z := 10) (hs_flattW (Cond.eq (Term.elem (Term.static "PatchHall$Kinds" "WANTED" "[I") (.int 6)) (.int 10)) (by decide +kernel))
    · exact va_eqt (z := 17) (hs_flattW (Cond.eq (Term.elem (Term.static "PatchHall$Kinds" "WANTED" "[I") (.int 7)) (.int 17)) (by decide +kernel))
    · exact va_eqt (z := 19) (hs_flattW (Cond.eq (Term.elem (Term.static "PatchHall$Kinds" "WANTED" "[I") (.int 8)) (.int 19)) (by decide +kernel))
  have hztW : va_Z "PatchHall$Kinds" "WANTED" "[I" (.ref tW) (fun q : Nat => s.heap.size ≤ q) s s.heap := va_Zof (hts (.laysStatic "PatchHall$Kinds" "WANTED" "[I") (List.mem_of_getElem? (i := 371) (by decide +kernel))) (hts2 (.initialized "PatchHall$Kinds") m_78) etW (fun a ha h => Nat.not_lt.mpr h ha)
  have hnest : ∀ w ∈ g_nest, va_Nw w s := by
    intro w hw
    refine va_Nw.of (g_nest_tab w hw) (A := #[Value.ref b]) (hts w ?_)
    exact g_nest_in w hw
  let E : g_Env := ((dC, dI), cI, cJ, cQ, tA, tW)
  have hK : va_K (dC, dI) vwCl (g_tys E) s := by
    refine ⟨hKc, fun k q hq => ?_⟩
    match k, hq with
    | 0, hq => cases hq; exact ⟨fun n z => ⟨fun k h => (by cases h), kI, fI2, cpI, fI3⟩, fI1⟩
    | 1, hq => cases hq; exact ⟨fun n z => ⟨fun k h => (by cases h), kJ, fJ2, cpJ, fJ3⟩, fJ1⟩
    | 2, hq => cases hq; exact ⟨fun n z => ⟨fun k h => (by cases h), kQ, fQ3, cpQ, fQ4⟩, kQ, cpQ, fQ3, fQ4, fQ1, fQ5⟩
    | k + 3, hq => simp [g_tys] at hq
  have C : g_C E (fun q : Nat => s.heap.size ≤ q) p s m #[Value.ref b] c code 4 R_law := ⟨⟨hx, hb, hml, hown, hts2⟩, hK, fun _ h => h, hnest, hztA, htA, hztW, htW, hAO⟩
  clear_value E
  have X : g_W E (fun q : Nat => s.heap.size ≤ q) s s.heap [] [] := ⟨fun k q h => by simp at h, ⟨fun i j p q h => by simp at h, fun k q h => by simp at h⟩, va_S.rf⟩
  have hl := lv_entry ([.ref b]) (n := 4) (Nat.le_of_ble_eq_true rfl)
  rw [lg_entry_eq]
  generalize (lg_sl ([.ref b]) ++ List.replicate (4 - (lg_sl ([.ref b])).length) Slot.unset).toArray = ls at hl ⊢
  have hl : lv_has ls 4 [(0, .ref b)] := hl
  refine g_new (ci := 5) (fs := [.null, .null, .null, .int 0]) C X g_iX7 tyX7_ok m_83 m_84 m_72 rfl (fun j hj => by rcases (show j = 0 ∨ j = 1 ∨ j = 2 ∨ j = 3 by omega) with rfl | rfl | rfl | rfl <;> rfl) (Nat.le_of_ble_eq_true rfl) (Nat.le_of_ble_eq_true rfl) dL_law_0 (fun ho H X => ?_)
  refine W.widen (k := 1) (n := 4) (Nat.le_of_ble_eq_true rfl) (Nat.le_of_ble_eq_true rfl) ?_
  refine lv_dup hx hb dL_law_3 rfl ?_
  refine g_callvP (fun v : Nat → Nat => wsC E v (cs0 [])) X (g_runI (As := []) (rest := [.ref ho]) C X (cI_Hall l E _ ho []) kX7_init m_85 hl.1 rfl ⟨Nat.le_of_ble_eq_true rfl, Nat.le_of_ble_eq_true rfl⟩ rfl (Nat.le_of_ble_eq_true rfl) dL_law_4 ⟨Nat.le_of_ble_eq_true rfl, Nat.le_of_ble_eq_true rfl⟩) (fun H locs ad had X => ?_)
  refine W.widen (k := 8) (n := 2967) (Nat.le_of_ble_eq_true rfl) (Nat.le_of_ble_eq_true rfl) ?_
  refine lv_astore_n (lv' := [(1, .ref ho), (0, .ref b)]) hx hb dL_law_7 rfl hl (by decide) rfl (fun ls hl => ?_)
  refine g_new (ci := 6) (fs := [.null, .null, .null, .null, .null, .null, .null, .null, .int 0, .null, .null, .int 0, .int 0, .int 0, .int 0, .int 0, .null, .null]) C X g_iX8 tyX8_ok m_635 m_636 m_76 rfl (fun j hj => by rcases (show j = 0 ∨ j = 1 ∨ j = 2 ∨ j = 3 ∨ j = 4 ∨ j = 5 ∨ j = 6 ∨ j = 7 ∨ j = 8 ∨ j = 9 ∨ j = 10 ∨ j = 11 ∨ j = 12 ∨ j = 13 ∨ j = 14 ∨ j = 15 ∨ j = 16 ∨ j = 17 by omega) with rfl | rfl | rfl | rfl | rfl | rfl | rfl | rfl | rfl | rfl | rfl | rfl | rfl | rfl | rfl | rfl | rfl | rfl <;> rfl) (Nat.le_of_ble_eq_true rfl) (Nat.le_of_ble_eq_true rfl) dL_law_8 (fun mo H X => ?_)
  refine W.widen (k := 9) (n := 2985) (Nat.le_of_ble_eq_true rfl) (Nat.le_of_ble_eq_true rfl) ?_
  have X := g_W.rotR X
  refine lv_dup hx hb dL_law_11 rfl ?_
  refine g_callvP (fun v : Nat → Nat => wsR E mo v rs0 ++ wsC E ad (cs0 [])) X (g_runI (As := []) (rest := [.ref mo]) C X (cI_Model l E _ mo (wsC E ad (cs0 []))) kX8_init m_637 hl.1 rfl ⟨Nat.le_of_ble_eq_true rfl, Nat.le_of_ble_eq_true rfl⟩ rfl (Nat.le_of_ble_eq_true rfl) dL_law_12 ⟨Nat.le_of_ble_eq_true rfl, Nat.le_of_ble_eq_true rfl⟩) (fun H locs adR _ X => ?_)
  refine W.widen (k := 21) (n := 12760) (Nat.le_of_ble_eq_true rfl) (Nat.le_of_ble_eq_true rfl) ?_
  refine lv_astore_n (lv' := [(2, .ref mo), (1, .ref ho), (0, .ref b)]) hx hb dL_law_15 rfl hl (by decide) rfl (fun ls hl => ?_)
  refine lv_iconst (v := 0) hx hb dL_law_16 (by decide) ?_
  refine lv_istore_n (lv' := [(3, .int 0), (2, .ref mo), (1, .ref ho), (0, .ref b)]) hx hb dL_law_17 rfl hl (by decide) rfl (fun ls hl => ?_)
  rw [← had] at hl
  exact law_loop l hL E C hX hbl hr hlocks (I E) (hI_skip E) (hs_make E) (hs_lay E) (hs_plug E) (hs_pull E) (hs_copy E) (hs_write E) (hs_knob E) (hs_play E) (hs_run E) (hs_ticks E) (hs_rest E) (hs_when E) (hs_begin E) (hs_end E) (hs_carry E) (hs_undo E) (hs_acts E) (hs_ask E) (hs_take E) (hs_size E) (hs_read E) (hs_at E) (hs_tell E) (hs_why E) 513 0 (by omega) (by omega) 0 rfl rs0 (cs0 []) ad mo adR H locs ls (h0 E) (lv_sub hl [3, 2, 1, 0] rfl) X
