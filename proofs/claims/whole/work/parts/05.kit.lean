/-! the uniform setting: one list of words for every method, one world, one A -/
abbrev g_Env : Type := va_G × ClassId × ClassId × ClassId × Nat × Nat
abbrev g_tys (E : g_Env) : List (ClassId × FieldType) := [(E.2.1, .int), (E.2.2.1, .long), (E.2.2.2.1, .object "PatchHall$Line")]
def g_lst (xs : List Int32) (j : Nat) : Int32 := xs.getD j 0
def g_aboveL : List Int32 := [1, 3, 7, 15, 31, 33, 97, 225, 481, 513, 5633, 6144, 4096, 8192, 16384, 32768, 65536, 131072, 393216, 917504, 1179648, 2097152, 6422528, 8388608, 25165824]
def g_wantedL : List Int32 := [13, 0, 1, 2, 7, 12, 10, 17, 19]
def g_above : Nat → Int32 := g_lst g_aboveL
def g_wanted : Nat → Int32 := g_lst g_wantedL
def g_Z (E : g_Env) (A : Nat → Prop) (U : State) (H : Heap) : Prop := va_Z "PatchHall$Kinds" "ABOVE" "[I" (.ref E.2.2.2.2.1) A U H ∧ va_T .int E.2.2.2.2.1 25 (fun j => .int (g_above j)) A U H ∧ va_Z "PatchHall$Kinds" "WANTED" "[I" (.ref E.2.2.2.2.2) A U H ∧ va_T .int E.2.2.2.2.2 9 (fun j => .int (g_wanted j)) A U H ∧ va_AO "PatchHall$Line" U
def g_at (E : g_Env) (A : Nat → Prop) (ws : va_W) (U : State) : Prop := va_P E.1 vwCl ws U.heap ∧ va_K E.1 vwCl (g_tys E) U ∧ va_D A ws ∧ (∀ q, U.heap.size ≤ q → A q) ∧ (∀ w ∈ g_nest, va_Nw w U) ∧ g_Z E A U U.heap
def g_B (E : g_Env) (A : Nat → Prop) (ws : va_W) (t : State) : Prop := va_P E.1 vwCl ws t.heap ∧ va_D A ws
def g_C (E : g_Env) (A : Nat → Prop) (p : Program) (s : State) (m : MethodId) (args : Array Value) (c : Code) (cc : ByteArray) (nL : Nat) (own : String) : Prop :=
  CallFix p m c cc nL s args g_tbl own ∧ va_K E.1 vwCl (g_tys E) s ∧ (∀ q, s.heap.size ≤ q → A q) ∧ (∀ w ∈ g_nest, va_Nw w s) ∧ g_Z E A s s.heap
def g_W (E : g_Env) (A : Nat → Prop) (s : State) (H : Heap) (locs : List Loc) (ws : va_W) : Prop := va_P E.1 vwCl ws H ∧ va_D A ws ∧ va_S A s.heap H locs
theorem g_Z.moved {E : g_Env} {A : Nat → Prop} {u U : State} {H : Heap} (hvm : u.vm.Alike U.vm) (h : g_Z E A u H) : g_Z E A U H := ⟨h.1.moved hvm, h.2.1.moved hvm, h.2.2.1.moved hvm, h.2.2.2.1.moved hvm, h.2.2.2.2.moved hvm⟩
theorem g_Z.kept {E : g_Env} {A : Nat → Prop} {U : State} {H H1 : Heap} (h : g_Z E A U H) (hq : ∀ a : Nat, a < H.size → ¬ A a → H1[a]? = H[a]?) : g_Z E A U H1 := ⟨h.1.kept hq, h.2.1.kept hq, h.2.2.1.kept hq, h.2.2.2.1.kept hq, h.2.2.2.2⟩
theorem g_Z.narrow {E : g_Env} {A B : Nat → Prop} {U : State} {H : Heap} (h : g_Z E A U H) (hAB : ∀ q, B q → A q) : g_Z E B U H := ⟨h.1.narrow hAB, h.2.1.narrow hAB, h.2.2.1.narrow hAB, h.2.2.2.1.narrow hAB, h.2.2.2.2⟩
theorem g_nest_ok : ∀ w ∈ g_nest, ∀ (s U : State), s.WarmedH U.vm → va_Nw w s → va_Nw w U := by
  intro w hw s U hW h
  simp only [g_nest, List.mem_cons, List.not_mem_nil, or_false] at hw
  rcases hw with rfl | rfl | rfl | rfl | rfl | rfl | rfl | rfl | rfl | rfl | rfl | rfl | rfl | rfl | rfl | rfl | rfl <;> first | exact va_Nw.warmF hW h | exact va_Nw.warmM hW h
theorem g_nest_tab : ∀ w ∈ g_nest, w.onTables = true := by decide +kernel
theorem g_good {y : MethodName} {b : ByteArray} {n : Nat} {r : Option FieldType} (h : Cond.code y b n r ∈ g_tbl) : GoodIn g_tbl (Cond.code y b n r :: g_tbl) := by
  have key : ∀ w ∈ g_tbl, w ∈ g_tbl ∧ ((w.onTables && w.keeps) = true ∨ ∃ ty, w = .arrayClass ty) := fun w hw => ⟨hw, good_of_word (List.mem_filter.mp hw).2⟩
  intro w hw
  rcases List.mem_cons.mp hw with rfl | hw
  · exact key _ h
  · exact key _ hw
theorem g_blind {E : g_Env} {A : Nat → Prop} {av : List Value} {ws : va_W} : FrameBlind (va_Pc av (g_at E A ws)) := by
  intro a U g mk h
  obtain ⟨h0, h1, h2, h3, h4, h5, h6⟩ := h
  exact ⟨h0, h1, va_K.moved (u := U) (U := U.calling g mk a) (Vm.Alike.refl U.vm) h2, h3, h4, fun w hw => va_Nw.same (g_nest_tab w hw) (u := U) (U := U.calling g mk a) rfl (h5 w hw), g_Z.moved (u := U) (U := U.calling g mk a) (Vm.Alike.refl U.vm) h6⟩
theorem g_at_call {E : g_Env} {A : Nat → Prop} {p : Program} {s : State} {m : MethodId} {args : Array Value} {c : Code} {cc : ByteArray} {nL : Nat} {own : String} {H : Heap} {locs : List Loc} {ws : va_W} (C : g_C E A p s m args c cc nL own) (X : g_W E A s H locs ws) : ∀ U : State, U.heap = H → s.WarmedH U.vm → g_at E A ws U := by
  intro U hU hW
  obtain ⟨hP, hD, hS⟩ := X
  obtain ⟨-, hK, hA, hN, hZ⟩ := C
  refine ⟨by rw [hU]; exact hP, va_K.moved hW.alike hK, hD, fun q hq => hA q (Nat.le_trans hS.1 (by rw [hU] at hq; exact hq)), fun w hw => g_nest_ok w hw s U hW (hN w hw), ?_⟩
  rw [hU]
  exact (hZ.kept hS.2.1).moved hW.alike
/-- a method of ours, with its world before and behind it -/
abbrev g_Mi (l : Launch) (y : MethodName) (b : ByteArray) (n : Nat) (ret : Option FieldType) (rm : Room) (E : g_Env) (A : Nat → Prop) (av : List Value) (ws : va_W) (r : Int32) (ws' : va_W) : Prop :=
  Met l y (.code y b n ret :: g_tbl) rm (va_Pc av (g_at E A ws)) (va_Qi (fun (r' : Int32) (u' : va_W) => r' = r ∧ u' = ws') (g_B E A) A) rm.cells rm.slots A
abbrev g_Ml (l : Launch) (y : MethodName) (b : ByteArray) (n : Nat) (rm : Room) (E : g_Env) (A : Nat → Prop) (av : List Value) (ws : va_W) (r : Int64) (ws' : va_W) : Prop :=
  Met l y (.code y b n (some .long) :: g_tbl) rm (va_Pc av (g_at E A ws)) (va_Ql (fun (r' : Int64) (u' : va_W) => r' = r ∧ u' = ws') (g_B E A) A) rm.cells rm.slots A
abbrev g_Mv (l : Launch) (y : MethodName) (b : ByteArray) (n : Nat) (rm : Room) (E : g_Env) (A : Nat → Prop) (av : List Value) (ws : va_W) (ws' : va_W) : Prop :=
  Met l y (.code y b n none :: g_tbl) rm (va_Pc av (g_at E A ws)) (va_Qv (fun (u' : va_W) => u' = ws') (g_B E A) A) rm.cells rm.slots A
theorem g_start {l : Launch} {y : MethodName} {b : ByteArray} {n : Nat} {ret : Option FieldType} {rm : Room} {E : g_Env} {A : Nat → Prop} {av : List Value} {ws : va_W} {Qc : Array Value → State → Outcome → State → Prop} (hy : plainName y.cls = true) (hlen : (lg_sl av).length ≤ n)
    (body : ∀ (p : Program) (e : Env) (s : State) (m : MethodId) (below : List Frame) (meth : Method) (c : Code), g_C E A p s m av.toArray c b n y.cls → meth.sig.returnType = ret → meth.locks = false → meth.name = y.name → ∀ ls : Array Slot, lv_has ls n (lv_args 0 av) → ∀ (H : Heap) (locs : List Loc), g_W E A s H locs ws → W p l e rm s m av.toArray below meth c H locs 0 0 (MQ below Qc av.toArray s rm.cells rm.slots A) (F0 m 0 ls [])) :
    Met l y (.code y b n ret :: g_tbl) rm (va_Pc av (g_at E A ws)) Qc rm.cells rm.slots A := by
  refine Met.ofW (cc := b) (maxL := n) (ret := ret) hy rfl ?_
  intro p e s m args below meth c s₁ B hml hv
  obtain ⟨rfl, hP, hK, hD, hA, hN, hZ⟩ := hv
  have hts := atoms_spec (ws := Cond.code y b n ret :: g_tbl) B.pre
  have hown : s.vm.findClass y.cls = some m.cls := findClass_of_methodNamed B.named
  have hl := lv_entry av (n := n) hlen
  rw [lg_entry_eq]
  exact body p e s m below meth c ⟨⟨B.exec, B.bytes, hml, hown, fun w hw => hts w (List.mem_cons_of_mem _ hw)⟩, hK, hA, hN, hZ⟩ B.returns B.notSynchronized (name_of_methodNamed B.named B.method).1 _ hl s.heap [] ⟨hP, hD, va_S.rf⟩
/-! what a step of the pure function gives -/
def g_let {α β : Type} (v : α) (k : α → Option β) : Option β := k v
def g_ck {α : Type} (i : Int32) (n : Nat) (k : Option α) : Option α := if i < 0 ∨ n ≤ i.toNatClampNeg then none else k
theorem g_le {α β : Type} {v : α} {k : α → Option β} {o : β} (h : g_let v k = some o) : ∃ x, x = v ∧ k x = some o := ⟨v, rfl, h⟩
theorem g_cke {α : Type} {i : Int32} {n : Nat} {k : Option α} {o : α} (h : g_ck i n k = some o) : vp_in i n ∧ k = some o := by
  unfold g_ck at h
  by_cases hc : i < 0 ∨ n ≤ i.toNatClampNeg
  · rw [if_pos hc] at h; cases h
  · rw [if_neg hc] at h; exact ⟨hc, h⟩
theorem g_be {α β : Type} {x : Option α} {k : α → Option β} {o : β} (h : x.bind k = some o) : ∃ a, x = some a ∧ k a = some o := by
  cases x with
  | none => cases h
  | some a => exact ⟨a, rfl, h⟩
theorem g_t {α : Type} {c : Prop} {d : Decidable c} {x y : Option α} {o : α} (h : (@ite (Option α) c d x y) = some o) (hc : c) : x = some o := by rw [if_pos hc] at h; exact h
theorem g_f {α : Type} {c : Prop} {d : Decidable c} {x y : Option α} {o : α} (h : (@ite (Option α) c d x y) = some o) (hc : ¬ c) : y = some o := by rw [if_neg hc] at h; exact h
def g_bool {α : Type} (v : Int32) (k : Option α) : Option α := if v = 0 ∨ v = 1 then k else none
theorem g_bz {α : Type} {v : Int32} {k : Option α} {o : α} (h : g_bool v k = some o) : narrow .boolean (.int v) = .int v ∧ k = some o := by
  unfold g_bool at h
  by_cases hc : v = 0 ∨ v = 1
  · rw [if_pos hc] at h
    rcases hc with rfl | rfl <;> exact ⟨rfl, h⟩
  · rw [if_neg hc] at h; cases h
def g_fuel : Nat := 5000
theorem g_ne {x kk : Int32} (k : Int) (h : ¬ x = kk) (hk : kk.toInt = k) : x.toInt ≠ k := fun e => h (Int32.toInt_inj.mp (e.trans hk.symm))
section GK
variable {p : Program} {l : Launch} {e : Env} {R : Room} {s : State} {m : MethodId} {args : Array Value} {below : List Frame} {meth : Method} {c : Code} {H : Heap} {locs : List Loc} {cells slots : Nat} {Q : State → Prop}
variable {cc : ByteArray} {pc nL : Nat} {ls : Array Slot} {rest : List Value} {A : Nat → Prop} {ws : va_W} {E : g_Env} {own : String} {a : Nat}
theorem g_iret {σ : Type} (F : σ → va_W) {r v : Int32} {w1 w2 : σ} (C : g_C E A p s m args c cc nL own) (hr : meth.sig.returnType = some .int) (hk : meth.locks = false) (X : g_W E A s H locs (F w1)) (hf : some (v, w1) = some (r, w2)) (hdg : decode cc pc = .ok (.ireturn, 1)) :
    W p l e R s m args below meth c H locs cells slots (MQ below (va_Qi (fun (r' : Int32) (u' : va_W) => r' = r ∧ u' = F w2) (g_B E A) A) args s cells slots A) (F0 m pc ls [.int v]) := by
  cases hf
  exact W.iret C.1.1 C.1.2.1 hr (fun t ht hW => ⟨⟨_, _, rfl, ⟨rfl, rfl⟩, by rw [ht]; exact X.1, X.2.1⟩, X.2.2.F ht⟩) X.2.2.2.2 hdg hk
theorem g_zret {σ : Type} (F : σ → va_W) {r v : Int32} {w1 w2 : σ} (C : g_C E A p s m args c cc nL own) (hr : meth.sig.returnType = some .boolean) (hk : meth.locks = false) (hn : narrow .boolean (.int v) = .int v) (X : g_W E A s H locs (F w1)) (hf : some (v, w1) = some (r, w2)) (hdg : decode cc pc = .ok (.ireturn, 1)) :
    W p l e R s m args below meth c H locs cells slots (MQ below (va_Qi (fun (r' : Int32) (u' : va_W) => r' = r ∧ u' = F w2) (g_B E A) A) args s cells slots A) (F0 m pc ls [.int v]) := by
  cases hf
  exact W.zret (ty := .boolean) C.1.1 C.1.2.1 hr hn (fun t ht hW => ⟨⟨_, _, rfl, ⟨rfl, rfl⟩, by rw [ht]; exact X.1, X.2.1⟩, X.2.2.F ht⟩) X.2.2.2.2 hdg hk
theorem g_lret {σ : Type} (F : σ → va_W) {r v : Int64} {w1 w2 : σ} (C : g_C E A p s m args c cc nL own) (hr : meth.sig.returnType = some .long) (hk : meth.locks = false) (X : g_W E A s H locs (F w1)) (hf : some (v, w1) = some (r, w2)) (hdg : decode cc pc = .ok (.lreturn, 1)) :
    W p l e R s m args below meth c H locs cells slots (MQ below (va_Ql (fun (r' : Int64) (u' : va_W) => r' = r ∧ u' = F w2) (g_B E A) A) args s cells slots A) (F0 m pc ls [.long v]) := by
  cases hf
  exact W.lret C.1.1 C.1.2.1 hr (fun t ht hW => ⟨⟨_, _, rfl, ⟨rfl, rfl⟩, by rw [ht]; exact X.1, X.2.1⟩, X.2.2.F ht⟩) X.2.2.2.2 hdg hk
theorem g_vret {σ : Type} (F : σ → va_W) {w1 w2 : σ} (C : g_C E A p s m args c cc nL own) (hr : meth.sig.returnType = none) (hk : meth.locks = false) (X : g_W E A s H locs (F w1)) (hf : some w1 = some w2) (hdg : decode cc pc = .ok (.return_, 1)) :
    W p l e R s m args below meth c H locs cells slots (MQ below (va_Qv (fun (u' : va_W) => u' = F w2) (g_B E A) A) args s cells slots A) (F0 m pc ls []) := by
  cases hf
  exact W.vret C.1.1 C.1.2.1 hr (fun t ht hW => ⟨⟨F w1, rfl, rfl, by rw [ht]; exact X.1, X.2.1⟩, X.2.2.F ht⟩) X.2.2.2.2 hdg hk
/-! fields and arrays -/
theorem g_get {Cn : String} {T : u_T} {N ci index : Nat} (C : g_C E A p s m args c cc nL own) (X : g_W E A s H locs ws) (hin : ∀ w ∈ u_ws Cn T N, w ∈ g_tbl) (q0 : Nat) {fs : List Value} (he : ws[q0]? = some (a, .inr (ci, fs))) (hc : vwCl[ci]? = some (Cn, T, N)) (k : Nat) (hk : k < N) (hT : (T k).1 = Cn) (hlink : Cond.fieldLink own index Cn (T k).2.1 (T k).2.2.1 ∈ g_tbl) {v : Value} (hv : fs[k]? = some v) (hdg : decode cc pc = .ok (.getfield index, 3))
    (kk : W p l e R s m args below meth c H locs cells slots Q (F0 m (pc + 3) ls (v :: rest))) : W p l e R s m args below meth c H locs cells slots Q (F0 m pc ls (.ref a :: rest)) :=
  va_get C.1.1 C.1.2.1 C.1.2.2.2.2 hin C.1.2.2.2.1 C.2.1 X.1 q0 he hc k hk (C.1.2.2.2.2 _ hlink) (fun x h => by rw [hT] at h; exact h) hv hdg kk
theorem g_getN {Cn host : String} {T : u_T} {N ci index : Nat} (C : g_C E A p s m args c cc nL own) (X : g_W E A s H locs ws) (hin : ∀ w ∈ u_ws Cn T N, w ∈ g_tbl) (q0 : Nat) {fs : List Value} (he : ws[q0]? = some (a, .inr (ci, fs))) (hc : vwCl[ci]? = some (Cn, T, N)) (k : Nat) (hk : k < N) (hT : (T k).1 = Cn) (hlink : Cond.fieldLinkNest own index Cn (T k).2.1 (T k).2.2.1 host ∈ g_nest) {v : Value} (hv : fs[k]? = some v) (hdg : decode cc pc = .ok (.getfield index, 3))
    (kk : W p l e R s m args below meth c H locs cells slots Q (F0 m (pc + 3) ls (v :: rest))) : W p l e R s m args below meth c H locs cells slots Q (F0 m pc ls (.ref a :: rest)) :=
  va_getN C.1.1 C.1.2.1 C.1.2.2.2.2 hin C.1.2.2.2.1 C.2.1 X.1 q0 he hc k hk (va_Nw.use rfl (C.2.2.2.1 _ hlink)) (fun x h => by rw [hT] at h; exact h) hv hdg kk
theorem g_put {Cn : String} {T : u_T} {N ci index : Nat} {ty0 : Nat → FieldType} (C : g_C E A p s m args c cc nL own) (X : g_W E A s H locs ws) (hin : ∀ w ∈ u_ws Cn T N, w ∈ g_tbl) (hty : ∀ k, k < N → parseFieldDescriptor (T k).2.2.1 = some (ty0 k)) (hnm : ∀ a, a < N → ∀ b, b < N → a ≠ b → (T a).2.1 ≠ (T b).2.1) (q0 : Nat) {fs : List Value} (he : ws[q0]? = some (a, .inr (ci, fs))) (hc : vwCl[ci]? = some (Cn, T, N)) (k : Nat) (hk : k < N) (hT : (T k).1 = Cn) (hlink : Cond.fieldLink own index Cn (T k).2.1 (T k).2.2.1 ∈ g_tbl) (hfin : (T k).2.2.2 = false) {v : Value} (hn : narrow (ty0 k) v = v) (hfit : fits (ty0 k) v = true) (hl : k < fs.length) (hdg : decode cc pc = .ok (.putfield index, 3)) {ws2 : va_W} (hws : ws.set q0 (a, .inr (ci, fs.set k v)) = ws2)
    (kk : ∀ (H1 : Heap) (locs1 : List Loc), g_W E A s H1 locs1 ws2 → W p l e R s m args below meth c H1 locs1 cells slots Q (F0 m (pc + 3) ls rest)) : W p l e R s m args below meth c H locs cells slots Q (F0 m pc ls (v :: .ref a :: rest)) := by
  subst hws
  exact va_put C.1.1 C.1.2.1 C.1.2.2.2.2 hin ty0 hty hnm C.1.2.2.2.1 C.2.1 X.1 X.2.1 X.2.2 q0 he hc k hk (C.1.2.2.2.2 _ hlink) (fun x h => by rw [hT] at h; exact h) hfin (hty k hk) hn hfit hl hdg (fun H1 locs1 h1 h2 h3 => kk H1 locs1 ⟨h1, h2, h3⟩)
theorem g_putN {Cn host : String} {T : u_T} {N ci index : Nat} {ty0 : Nat → FieldType} (C : g_C E A p s m args c cc nL own) (X : g_W E A s H locs ws) (hin : ∀ w ∈ u_ws Cn T N, w ∈ g_tbl) (hty : ∀ k, k < N → parseFieldDescriptor (T k).2.2.1 = some (ty0 k)) (hnm : ∀ a, a < N → ∀ b, b < N → a ≠ b → (T a).2.1 ≠ (T b).2.1) (q0 : Nat) {fs : List Value} (he : ws[q0]? = some (a, .inr (ci, fs))) (hc : vwCl[ci]? = some (Cn, T, N)) (k : Nat) (hk : k < N) (hT : (T k).1 = Cn) (hlink : Cond.fieldLinkNest own index Cn (T k).2.1 (T k).2.2.1 host ∈ g_nest) (hfin : (T k).2.2.2 = false) {v : Value} (hn : narrow (ty0 k) v = v) (hfit : fits (ty0 k) v = true) (hl : k < fs.length) (hdg : decode cc pc = .ok (.putfield index, 3)) {ws2 : va_W} (hws : ws.set q0 (a, .inr (ci, fs.set k v)) = ws2)
    (kk : ∀ (H1 : Heap) (locs1 : List Loc), g_W E A s H1 locs1 ws2 → W p l e R s m args below meth c H1 locs1 cells slots Q (F0 m (pc + 3) ls rest)) : W p l e R s m args below meth c H locs cells slots Q (F0 m pc ls (v :: .ref a :: rest)) := by
  subst hws
  exact va_putN C.1.1 C.1.2.1 C.1.2.2.2.2 hin ty0 hty hnm C.1.2.2.2.1 C.2.1 X.1 X.2.1 X.2.2 q0 he hc k hk (va_Nw.use rfl (C.2.2.2.1 _ hlink)) (fun x h => by rw [hT] at h; exact h) hfin (hty k hk) hn hfit hl hdg (fun H1 locs1 h1 h2 h3 => kk H1 locs1 ⟨h1, h2, h3⟩)
theorem g_iald (C : g_C E A p s m args c cc nL own) (X : g_W E A s H locs ws) (q0 : Nat) {n : Nat} {f : Nat → Int32} (ha : ws[q0]? = some (a, .inl (E.2.1, n, .inl f))) {i : Int32} (hin : vp_in i n) {v : Int32} (hv : v = f i.toNatClampNeg) (hdg : decode cc pc = .ok (.iaload, 1))
    (kk : W p l e R s m args below meth c H locs cells slots Q (F0 m (pc + 1) ls (.int v :: rest))) : W p l e R s m args below meth c H locs cells slots Q (F0 m pc ls (.int i :: .ref a :: rest)) := by
  subst hv
  exact va_iald C.1.1 C.1.2.1 C.2.1 X.1 q0 0 ha rfl hin hdg kk
theorem g_lald (C : g_C E A p s m args c cc nL own) (X : g_W E A s H locs ws) (q0 : Nat) {n : Nat} {f : Nat → Int64} (ha : ws[q0]? = some (a, .inl (E.2.2.1, n, .inr (.inl f)))) {i : Int32} (hin : vp_in i n) {v : Int64} (hv : v = f i.toNatClampNeg) (hdg : decode cc pc = .ok (.laload, 1))
    (kk : W p l e R s m args below meth c H locs cells slots Q (F0 m (pc + 1) ls (.long v :: rest))) : W p l e R s m args below meth c H locs cells slots Q (F0 m pc ls (.int i :: .ref a :: rest)) := by
  subst hv
  exact va_lald C.1.1 C.1.2.1 C.2.1 X.1 q0 1 ha rfl hin hdg kk
theorem g_iast (C : g_C E A p s m args c cc nL own) (X : g_W E A s H locs ws) (q0 : Nat) {n : Nat} {f : Nat → Int32} (ha : ws[q0]? = some (a, .inl (E.2.1, n, .inl f))) {i x : Int32} (hin : vp_in i n) (hdg : decode cc pc = .ok (.iastore, 1)) {ws2 : va_W} (hws : ws.set q0 (a, .inl (E.2.1, n, .inl (upd f i.toNatClampNeg x))) = ws2)
    (kk : ∀ (H1 : Heap) (locs1 : List Loc), g_W E A s H1 locs1 ws2 → W p l e R s m args below meth c H1 locs1 cells slots Q (F0 m (pc + 1) ls rest)) : W p l e R s m args below meth c H locs cells slots Q (F0 m pc ls (.int x :: .int i :: .ref a :: rest)) := by
  subst hws
  exact va_iast C.1.1 C.1.2.1 C.2.1 X.1 X.2.1 X.2.2 q0 0 ha rfl hin hdg (fun H1 locs1 h1 h2 h3 => kk H1 locs1 ⟨h1, h2, h3⟩)
theorem g_last (C : g_C E A p s m args c cc nL own) (X : g_W E A s H locs ws) (q0 : Nat) {n : Nat} {f : Nat → Int64} (ha : ws[q0]? = some (a, .inl (E.2.2.1, n, .inr (.inl f)))) {i : Int32} {x : Int64} (hin : vp_in i n) (hdg : decode cc pc = .ok (.lastore, 1)) {ws2 : va_W} (hws : ws.set q0 (a, .inl (E.2.2.1, n, .inr (.inl (vp_updL f i.toNatClampNeg x)))) = ws2)
    (kk : ∀ (H1 : Heap) (locs1 : List Loc), g_W E A s H1 locs1 ws2 → W p l e R s m args below meth c H1 locs1 cells slots Q (F0 m (pc + 1) ls rest)) : W p l e R s m args below meth c H locs cells slots Q (F0 m pc ls (.long x :: .int i :: .ref a :: rest)) := by
  subst hws
  exact va_last C.1.1 C.1.2.1 C.2.1 X.1 X.2.1 X.2.2 q0 1 ha rfl hin hdg (fun H1 locs1 h1 h2 h3 => kk H1 locs1 ⟨h1, h2, h3⟩)
theorem g_ilen (C : g_C E A p s m args c cc nL own) (X : g_W E A s H locs ws) (q0 : Nat) {n : Nat} {f : Nat → Int32} (ha : ws[q0]? = some (a, .inl (E.2.1, n, .inl f))) {v : Int32} (hv : Int32.ofNat n = v) (hdg : decode cc pc = .ok (.arraylength, 1))
    (kk : W p l e R s m args below meth c H locs cells slots Q (F0 m (pc + 1) ls (.int v :: rest))) : W p l e R s m args below meth c H locs cells slots Q (F0 m pc ls (.ref a :: rest)) :=
  va_alen C.1.1 C.1.2.1 C.2.1 X.1 q0 0 ha rfl hv hdg kk
theorem g_llen (C : g_C E A p s m args c cc nL own) (X : g_W E A s H locs ws) (q0 : Nat) {n : Nat} {f : Nat → Int64} (ha : ws[q0]? = some (a, .inl (E.2.2.1, n, .inr (.inl f)))) {v : Int32} (hv : Int32.ofNat n = v) (hdg : decode cc pc = .ok (.arraylength, 1))
    (kk : W p l e R s m args below meth c H locs cells slots Q (F0 m (pc + 1) ls (.int v :: rest))) : W p l e R s m args below meth c H locs cells slots Q (F0 m pc ls (.ref a :: rest)) :=
  va_alen C.1.1 C.1.2.1 C.2.1 X.1 q0 1 ha rfl hv hdg kk
theorem g_rlen (C : g_C E A p s m args c cc nL own) (X : g_W E A s H locs ws) (q0 : Nat) {n : Nat} {f : Nat → Option Nat} (ha : ws[q0]? = some (a, .inl (E.2.2.2.1, n, .inr (.inr (.inr (.inr f)))))) {v : Int32} (hv : Int32.ofNat n = v) (hdg : decode cc pc = .ok (.arraylength, 1))
    (kk : W p l e R s m args below meth c H locs cells slots Q (F0 m (pc + 1) ls (.int v :: rest))) : W p l e R s m args below meth c H locs cells slots Q (F0 m pc ls (.ref a :: rest)) :=
  va_alen C.1.1 C.1.2.1 C.2.1 X.1 q0 2 ha rfl hv hdg kk
theorem g_tabIn (hexec : p.tables.exec = Jvm.exec) (hb : c.code = cc) {dflt lo hi : Int} {offs : Array Int} {len : Nat} {x kk : Int32} (hxk : x = kk) {off : Int} {tgt : Nat} (hdg : decode cc pc = .ok (.tableswitch dflt lo hi offs, len)) (h1 : ¬ kk.toInt < lo) (h2 : ¬ hi < kk.toInt) (ho : offs[(kk.toInt - lo).toNat]? = some off) (ht : (pc : Int) + off = (tgt : Int))
    (k : W p l e R s m args below meth c H locs cells slots Q (F0 m tgt ls rest)) : W p l e R s m args below meth c H locs cells slots Q (F0 m pc ls (.int x :: rest)) := by
  subst hxk
  exact lv_tableIn hexec hb hdg h1 h2 ho ht k
/-! calls -/
def g_KV (y : MethodName) (b : ByteArray) (n : Nat) (ret : Option FieldType) (k : Nat) : Prop := Cond.code y b n ret ∈ g_tbl ∧ Cond.instanceMethod y ∈ g_tbl ∧ Cond.selects y.cls y y ∈ g_tbl ∧ Cond.initialized y.cls ∈ g_tbl ∧ (y.cls ≠ "java/lang/invoke/MethodHandle" ∧ y.cls ≠ "java/lang/invoke/VarHandle" ∧ (parseMethodDescriptor y.desc).map (fun d => d.parameters.length) = some k)
def g_KS (y : MethodName) (b : ByteArray) (n : Nat) (ret : Option FieldType) (k : Nat) : Prop := Cond.code y b n ret ∈ g_tbl ∧ Cond.static y ∈ g_tbl ∧ Cond.initialized y.cls ∈ g_tbl ∧ (y.cls ≠ "java/lang/invoke/MethodHandle" ∧ y.cls ≠ "java/lang/invoke/VarHandle" ∧ (parseMethodDescriptor y.desc).map (fun d => d.parameters.length) = some k)
variable {y : MethodName} {b' : ByteArray} {n' k' index : Nat} {ret' : Option FieldType} {rm : Room} {As : List Value} {Pc : Array Value → State → Prop} {Qc : Array Value → State → Outcome → State → Prop} {mc ms : Nat} {T : u_T} {N : Nat} {fs : List Value} {st : List Value} {ws' : va_W}
theorem g_runV (C : g_C E A p s m args c cc nL own) (X : g_W E A s H locs ws) (hM : Met l y (.code y b' n' ret' :: g_tbl) rm (va_Pc (.ref a :: As) (g_at E A ws)) Qc rm.cells rm.slots A) (K : g_KV y b' n' ret' k') (hlink : Cond.methodLink own index y ∈ g_tbl) (q0 ci : Nat) (he : ws[q0]? = some (a, .inr (ci, fs))) (hc : vwCl[ci]? = some (y.cls, T, N)) (hl : ls.size = nL) (hn : As.length = k') (hR : rm.frames + 1 ≤ R.frames ∧ 8 + (n' + 11) + rm.locals ≤ R.locals) (hst : st = As.reverse ++ .ref a :: rest) (hre : (rest.map fun v => v.category).sum ≤ 8) (hdg : decode cc pc = .ok (.invokevirtual index, 3)) (hcs : cells + rm.cells ≤ R.cells ∧ slots + rm.slots ≤ R.slots) :
    va_Run p l e R s m args below meth c H locs cells slots rm.cells rm.slots (F0 m pc ls st) rest (Qc (Value.ref a :: As).toArray) A := by
  have hts := C.1.2.2.2.2
  exact va_runV (As := As) (rest := rest) C.1 hM ⟨callB_of k' hts (g_good K.1) rfl rfl rfl (hts _ K.2.2.2.1) (hts _ hlink) K.2.2.2.2 hR, hts _ K.2.1, hts _ K.2.2.1⟩ ⟨g_blind, va_recv C.2.1 X.1 hc he, fun U hU hW => ⟨rfl, g_at_call C X U hU hW⟩⟩ rfl hn hl hst (lv_room hre) hdg hcs
theorem g_runS (C : g_C E A p s m args c cc nL own) (X : g_W E A s H locs ws) (hM : Met l y (.code y b' n' ret' :: g_tbl) rm (va_Pc As (g_at E A ws)) Qc rm.cells rm.slots A) (K : g_KS y b' n' ret' k') (hlink : Cond.methodLink own index y ∈ g_tbl) (hl : ls.size = nL) (hn : As.length = k') (hR : rm.frames + 1 ≤ R.frames ∧ 8 + (n' + 11) + rm.locals ≤ R.locals) (hst : st = As.reverse ++ rest) (hre : (rest.map fun v => v.category).sum ≤ 8) (hdg : decode cc pc = .ok (.invokestatic index, 3)) (hcs : cells + rm.cells ≤ R.cells ∧ slots + rm.slots ≤ R.slots) :
    va_Run p l e R s m args below meth c H locs cells slots rm.cells rm.slots (F0 m pc ls st) rest (Qc As.toArray) A := by
  have hts := C.1.2.2.2.2
  exact va_runS (As := As) (rest := rest) C.1 hM ⟨callB_of k' hts (g_good K.1) rfl rfl rfl (hts _ K.2.2.1) (hts _ hlink) K.2.2.2 hR, hts _ K.2.1⟩ ⟨g_blind, fun U hU hW => ⟨rfl, g_at_call C X U hU hW⟩⟩ rfl hn hl hst (lv_room hre) hdg hcs
theorem g_runSN {host : String} (C : g_C E A p s m args c cc nL own) (X : g_W E A s H locs ws) (hM : Met l y (.code y b' n' ret' :: g_tbl) rm (va_Pc As (g_at E A ws)) Qc rm.cells rm.slots A) (K : g_KS y b' n' ret' k') (hlink : Cond.methodLinkNest own index y host ∈ g_nest) (hl : ls.size = nL) (hn : As.length = k') (hR : rm.frames + 1 ≤ R.frames ∧ 8 + (n' + 11) + rm.locals ≤ R.locals) (hst : st = As.reverse ++ rest) (hre : (rest.map fun v => v.category).sum ≤ 8) (hdg : decode cc pc = .ok (.invokestatic index, 3)) (hcs : cells + rm.cells ≤ R.cells ∧ slots + rm.slots ≤ R.slots) :
    va_Run p l e R s m args below meth c H locs cells slots rm.cells rm.slots (F0 m pc ls st) rest (Qc As.toArray) A := by
  have hts := C.1.2.2.2.2
  exact va_runSN (As := As) (rest := rest) C.1 hM ⟨va_cnB k' hts (g_good K.1) rfl rfl rfl (C.2.2.2.1 _ hlink) (hts _ K.2.2.1) K.2.2.2 hR, hts _ K.2.1, trivial⟩ ⟨g_blind, fun U hU hW => ⟨rfl, g_at_call C X U hU hW⟩⟩ rfl hn hl hst (lv_room hre) hdg hcs
theorem g_calli {a' : Array Value} {st : List Value} {r : Int32} (X : g_W E A s H locs ws) (hr : va_Run p l e R s m args below meth c H locs cells slots mc ms (F0 m pc ls st) rest (va_Qi (fun (r' : Int32) (u' : va_W) => r' = r ∧ u' = ws') (g_B E A) A a') A) (hmc : mc = 0) (hms : ms = 0)
    (kk : ∀ (H1 : Heap) (locs1 : List Loc), g_W E A s H1 locs1 ws' → W p l e R s m args below meth c H1 locs1 cells slots Q (F0 m (pc + 3) ls (.int r :: rest))) : W p l e R s m args below meth c H locs cells slots Q (F0 m pc ls st) := by
  subst hmc hms
  refine va_calli hr X.2.2 (fun q _ h => h) (fun q h => h) (fun r1 u t H1 locs1 ht hvm hw hB hz hk hS => ?_)
  obtain ⟨rfl, rfl⟩ := hw
  exact kk H1 locs1 ⟨by rw [← ht]; exact hB.1, hB.2, hS⟩
theorem g_calll {a' : Array Value} {st : List Value} {r : Int64} (X : g_W E A s H locs ws) (hr : va_Run p l e R s m args below meth c H locs cells slots mc ms (F0 m pc ls st) rest (va_Ql (fun (r' : Int64) (u' : va_W) => r' = r ∧ u' = ws') (g_B E A) A a') A) (hmc : mc = 0) (hms : ms = 0)
    (kk : ∀ (H1 : Heap) (locs1 : List Loc), g_W E A s H1 locs1 ws' → W p l e R s m args below meth c H1 locs1 cells slots Q (F0 m (pc + 3) ls (.long r :: rest))) : W p l e R s m args below meth c H locs cells slots Q (F0 m pc ls st) := by
  subst hmc hms
  refine va_calll hr X.2.2 (fun q _ h => h) (fun q h => h) (fun r1 u t H1 locs1 ht hvm hw hB hz hk hS => ?_)
  obtain ⟨rfl, rfl⟩ := hw
  exact kk H1 locs1 ⟨by rw [← ht]; exact hB.1, hB.2, hS⟩
theorem g_callv {a' : Array Value} {st : List Value} (X : g_W E A s H locs ws) (hr : va_Run p l e R s m args below meth c H locs cells slots mc ms (F0 m pc ls st) rest (va_Qv (fun (u' : va_W) => u' = ws') (g_B E A) A a') A) (hmc : mc = 0) (hms : ms = 0)
    (kk : ∀ (H1 : Heap) (locs1 : List Loc), g_W E A s H1 locs1 ws' → W p l e R s m args below meth c H1 locs1 cells slots Q (F0 m (pc + 3) ls rest)) : W p l e R s m args below meth c H locs cells slots Q (F0 m pc ls st) := by
  subst hmc hms
  refine va_callv hr X.2.2 (fun q _ h => h) (fun q h => h) (fun u t H1 locs1 ht hvm hw hB hz hk hS => ?_)
  subst hw
  exact kk H1 locs1 ⟨by rw [← ht]; exact hB.1, hB.2, hS⟩
end GK
