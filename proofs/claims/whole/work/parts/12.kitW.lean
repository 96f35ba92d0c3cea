def cN (w : CS) (x : Nat × va_E) : CS := (w.1, w.2.1, w.2.2.1, w.2.2.2.1, w.2.2.2.2.1, w.2.2.2.2.2 ++ [x])
def cR (w : CS) (i : Nat) (v : Option Nat) : CS := (w.1, w.2.1, w.2.2.1, w.2.2.2.1, va_up w.2.2.2.2.1 i v, w.2.2.2.2.2)
def g_letP {α : Type} (v : α) (k : α → Prop) : Prop := k v
def g_ckP (i : Int32) (n : Nat) (k : Prop) : Prop := vp_in i n ∧ k
def g_cps1 (W : (Int32 → CS → Prop) → Prop) (Q : Int32 → CS → Prop) : Prop := W Q
def g_cps0 (W : (CS → Prop) → Prop) (Q : CS → Prop) : Prop := W Q
theorem g_unc1 {W : (Int32 → CS → Prop) → Prop} {Q : Int32 → CS → Prop} (h : g_cps1 W Q) : W Q := h
theorem g_unc0 {W : (CS → Prop) → Prop} {Q : CS → Prop} (h : g_cps0 W Q) : W Q := h
theorem g_leP {α : Type} {v : α} {k : α → Prop} (h : g_letP v k) : ∃ x, x = v ∧ k x := ⟨v, rfl, h⟩
theorem g_ckPe {i : Int32} {n : Nat} {k : Prop} (h : g_ckP i n k) : vp_in i n ∧ k := h
theorem g_tP {c : Prop} {d : Decidable c} {x y : Prop} (h : @ite Prop c d x y) (hc : c) : x := by rw [if_pos hc] at h; exact h
theorem g_fP {c : Prop} {d : Decidable c} {x y : Prop} (h : @ite Prop c d x y) (hc : ¬ c) : y := by rw [if_neg hc] at h; exact h
theorem g_tget (E : g_Env) (ad : Nat → Nat) (w : CS) (x : Nat × va_E) : (wsC E ad (cN w x))[w.2.2.2.2.2.length + 8]? = some x := by
  show (w.2.2.2.2.2 ++ [x])[w.2.2.2.2.2.length]? = some x
  rw [List.getElem?_append_right (Nat.le_refl _), Nat.sub_self]
  rfl
theorem g_tset (E : g_Env) (ad : Nat → Nat) (w : CS) (x y : Nat × va_E) : (wsC E ad (cN w x)).set (w.2.2.2.2.2.length + 8) y = wsC E ad (cN w y) := by
  have h : (w.2.2.2.2.2 ++ [x]).set w.2.2.2.2.2.length y = w.2.2.2.2.2 ++ [y] := by
    rw [List.set_append_right _ _ (Nat.le_refl _), Nat.sub_self]
    rfl
  show _ :: _ :: _ :: _ :: _ :: _ :: _ :: _ :: ((w.2.2.2.2.2 ++ [x]).set w.2.2.2.2.2.length y) = _
  rw [h]
  rfl
section GP
variable {p : Program} {l : Launch} {e : Env} {R : Room} {s : State} {m : MethodId} {args : Array Value} {below : List Frame} {meth : Method} {c : Code} {H : Heap} {locs : List Loc} {cells slots : Nat} {Q : State → Prop}
variable {cc : ByteArray} {pc nL : Nat} {ls : Array Slot} {rest : List Value} {A : Nat → Prop} {ws : va_W} {E : g_Env} {own : String} {a : Nat}
theorem g_iretP {σ : Type} (F : σ → va_W) {Q' : Int32 → σ → Prop} {v : Int32} {w1 : σ} (C : g_C E A p s m args c cc nL own) (hr : meth.sig.returnType = some .int) (hk : meth.locks = false) (X : g_W E A s H locs (F w1)) (hq : Q' v w1) (hdg : decode cc pc = .ok (.ireturn, 1)) :
    W p l e R s m args below meth c H locs cells slots (MQ below (va_Qi (fun (r' : Int32) (u' : va_W) => ∃ w' : σ, u' = F w' ∧ Q' r' w') (g_B E A) A) args s cells slots A) (F0 m pc ls [.int v]) :=
  W.iret C.1.1 C.1.2.1 hr (fun t ht hW => ⟨⟨_, _, rfl, ⟨w1, rfl, hq⟩, by rw [ht]; exact X.1, X.2.1⟩, X.2.2.F ht⟩) X.2.2.2.2 hdg hk
theorem g_vretP {σ : Type} (F : σ → va_W) {Q' : σ → Prop} {w1 : σ} (C : g_C E A p s m args c cc nL own) (hr : meth.sig.returnType = none) (hk : meth.locks = false) (X : g_W E A s H locs (F w1)) (hq : Q' w1) (hdg : decode cc pc = .ok (.return_, 1)) :
    W p l e R s m args below meth c H locs cells slots (MQ below (va_Qv (fun (u' : va_W) => ∃ w' : σ, u' = F w' ∧ Q' w') (g_B E A) A) args s cells slots A) (F0 m pc ls []) :=
  W.vret C.1.1 C.1.2.1 hr (fun t ht hW => ⟨⟨_, rfl, ⟨w1, rfl, hq⟩, by rw [ht]; exact X.1, X.2.1⟩, X.2.2.F ht⟩) X.2.2.2.2 hdg hk
theorem g_calliP {σ : Type} (F : σ → va_W) {Q' : Int32 → σ → Prop} {mc ms : Nat} {a' : Array Value} {st : List Value} (X : g_W E A s H locs ws) (hr : va_Run p l e R s m args below meth c H locs cells slots mc ms (F0 m pc ls st) rest (va_Qi (fun (r' : Int32) (u' : va_W) => ∃ w' : σ, u' = F w' ∧ Q' r' w') (g_B E A) A a') A)
    (kk : ∀ (H1 : Heap) (locs1 : List Loc) (r : Int32) (w1 : σ), Q' r w1 → g_W E A s H1 locs1 (F w1) → W p l e R s m args below meth c H1 locs1 (cells + mc) (slots + ms) Q (F0 m (pc + 3) ls (.int r :: rest))) : W p l e R s m args below meth c H locs cells slots Q (F0 m pc ls st) := by
  refine va_calli hr X.2.2 (fun q _ h => h) (fun q h => h) (fun r1 u t H1 locs1 ht hvm hw hB hz hk hS => ?_)
  obtain ⟨w1, rfl, hq⟩ := hw
  exact kk H1 locs1 r1 w1 hq ⟨by rw [← ht]; exact hB.1, hB.2, hS⟩
theorem g_callvP {σ : Type} (F : σ → va_W) {Q' : σ → Prop} {mc ms : Nat} {a' : Array Value} {st : List Value} (X : g_W E A s H locs ws) (hr : va_Run p l e R s m args below meth c H locs cells slots mc ms (F0 m pc ls st) rest (va_Qv (fun (u' : va_W) => ∃ w' : σ, u' = F w' ∧ Q' w') (g_B E A) A a') A)
    (kk : ∀ (H1 : Heap) (locs1 : List Loc) (w1 : σ), Q' w1 → g_W E A s H1 locs1 (F w1) → W p l e R s m args below meth c H1 locs1 (cells + mc) (slots + ms) Q (F0 m (pc + 3) ls rest)) : W p l e R s m args below meth c H locs cells slots Q (F0 m pc ls st) := by
  refine va_callv hr X.2.2 (fun q _ h => h) (fun q h => h) (fun u t H1 locs1 ht hvm hw hB hz hk hS => ?_)
  obtain ⟨w1, rfl, hq⟩ := hw
  exact kk H1 locs1 w1 hq ⟨by rw [← ht]; exact hB.1, hB.2, hS⟩
theorem g_callr {mc ms : Nat} {a' : Array Value} {st : List Value} {b : Nat} {ws' : va_W} (X : g_W E A s H locs ws) (hr : va_Run p l e R s m args below meth c H locs cells slots mc ms (F0 m pc ls st) rest (va_Qr (fun (u' : va_W) => u' = ws') (fun (u : va_W) (x : Nat) (t : State) => x = b ∧ g_B E A u t) A a') A) (hmc : mc = 0) (hms : ms = 0)
    (kk : ∀ (H1 : Heap) (locs1 : List Loc), g_W E A s H1 locs1 ws' → W p l e R s m args below meth c H1 locs1 cells slots Q (F0 m (pc + 3) ls (.ref b :: rest))) : W p l e R s m args below meth c H locs cells slots Q (F0 m pc ls st) := by
  subst hmc hms
  refine va_callr hr X.2.2 (fun q _ h => h) (fun q h => h) (fun u ra t H1 locs1 ht hvm hw hB hz hk hS => ?_)
  subst hw
  obtain ⟨rfl, hB⟩ := hB
  exact kk H1 locs1 ⟨by rw [← ht]; exact hB.1, hB.2, hS⟩
theorem g_new {Cn : String} {T : u_T} {N ci index : Nat} {ty : Nat → FieldType} (C : g_C E A p s m args c cc nL own) (X : g_W E A s H locs ws) (hin : ∀ w ∈ u_ws Cn T N, w ∈ g_tbl) (hty : ∀ k, k < N → parseFieldDescriptor (T k).2.2.1 = some (ty k)) (hcl : Cond.classLink own index Cn ∈ g_tbl) (hinst : Cond.instantiable Cn N ∈ g_tbl) (hini : Cond.initialized Cn ∈ g_tbl) (hc : vwCl[ci]? = some (Cn, T, N)) {fs : List Value} (hfs : ∀ j, j < N → defaultValue (ty j) = vp_V fs j) (hcells : cells + 1 ≤ R.cells) (hslots : slots + N ≤ R.slots) (hdg : decode cc pc = .ok (.new index, 3))
    (kk : ∀ (q : Nat) (H1 : Heap), g_W E A s H1 locs (ws ++ [(q, .inr (ci, fs))]) → W p l e R s m args below meth c H1 locs (cells + 1) (slots + N) Q (F0 m (pc + 3) ls (.ref q :: rest))) : W p l e R s m args below meth c H locs cells slots Q (F0 m pc ls rest) := by
  have hts := C.1.2.2.2.2
  exact va_new C.1.1 C.1.2.1 hts hin ty hty C.1.2.2.2.1 (hts _ hcl) (hts _ hinst) (hts _ hini) C.2.1 X.1 X.2.1 X.2.2 C.2.2.1 hc hfs hcells hslots hdg (fun q H1 h1 h2 h3 => kk q H1 ⟨h1, h2, h3⟩)
theorem g_newL {index : Nat} (C : g_C E A p s m args c cc nL own) (X : g_W E A s H locs ws) (hcl : Cond.classLink own index RX3 ∈ g_tbl) (hinst : Cond.instantiable RX3 6 ∈ g_tbl) (hini : Cond.initialized RX3 ∈ g_tbl) (hcells : cells + 1 ≤ R.cells) (hslots : slots + 6 ≤ R.slots) (hdg : decode cc pc = .ok (.new index, 3))
    (kk : ∀ (q : Nat) (H1 : Heap), g_W E A s H1 locs (ws ++ [(q, .inr (2, [.int 0, .int 0, .int 0, .long 0, .int 0, .int 0]))]) → W p l e R s m args below meth c H1 locs (cells + 1) (slots + 6) Q (F0 m (pc + 3) ls (.ref q :: rest))) : W p l e R s m args below meth c H locs cells slots Q (F0 m pc ls rest) :=
  g_new (ci := 2) C X g_iX3 tyX3_ok hcl hinst hini rfl (fun j hj => by rcases (show j = 0 ∨ j = 1 ∨ j = 2 ∨ j = 3 ∨ j = 4 ∨ j = 5 by omega) with rfl | rfl | rfl | rfl | rfl | rfl <;> rfl) hcells hslots hdg kk
theorem g_astq {v : Nat} {vs : List Value} {n : Nat} {f : Nat → Option Nat} (C : g_C E A p s m args c cc nL own) (X : g_W E A s H locs ws) (q0 qk : Nat) (ha : ws[q0]? = some (a, .inl (E.2.2.2.1, n, .inr (.inr (.inr (.inr f)))))) (hv : ws[qk]? = some (v, .inr (2, vs))) {i : Int32} (hin : vp_in i n) (hdg : decode cc pc = .ok (.aastore, 1)) {ws2 : va_W} (hws : ws.set q0 (a, .inl (E.2.2.2.1, n, .inr (.inr (.inr (.inr (va_up f i.toNatClampNeg (some v))))))) = ws2)
    (kk : ∀ (H1 : Heap) (locs1 : List Loc), g_W E A s H1 locs1 ws2 → W p l e R s m args below meth c H1 locs1 cells slots Q (F0 m (pc + 1) ls rest)) : W p l e R s m args below meth c H locs cells slots Q (F0 m pc ls (.ref v :: .int i :: .ref a :: rest)) := by
  subst hws
  exact va_astq (r := (RX3, TX3, 6)) C.1.1 C.1.2.1 C.2.1 X.1 X.2.1 X.2.2 q0 2 qk 2 ha rfl hv rfl hin hdg (fun H1 locs1 h1 h2 h3 => kk H1 locs1 ⟨h1, h2, h3⟩)
/-! constructors: final fields -/
theorem g_putF {Cn : String} {T : u_T} {N ci index : Nat} {ty0 : Nat → FieldType} (C : g_C E A p s m args c cc nL own) (hnm0 : meth.name = "<init>") (X : g_W E A s H locs ws) (hin : ∀ w ∈ u_ws Cn T N, w ∈ g_tbl) (hty : ∀ k, k < N → parseFieldDescriptor (T k).2.2.1 = some (ty0 k)) (hnm : ∀ a, a < N → ∀ b, b < N → a ≠ b → (T a).2.1 ≠ (T b).2.1) (q0 : Nat) {fs : List Value} (he : ws[q0]? = some (a, .inr (ci, fs))) (hc : vwCl[ci]? = some (Cn, T, N)) (k : Nat) (hk : k < N) (hT : (T k).1 = Cn) (ho : own = Cn) (hlink : Cond.fieldLink own index Cn (T k).2.1 (T k).2.2.1 ∈ g_tbl) (hfin : (T k).2.2.2 = true) {v : Value} (hn : narrow (ty0 k) v = v) (hfit : fits (ty0 k) v = true) (hl : k < fs.length) (hdg : decode cc pc = .ok (.putfield index, 3)) {ws2 : va_W} (hws : ws.set q0 (a, .inr (ci, fs.set k v)) = ws2)
    (kk : ∀ (H1 : Heap) (locs1 : List Loc), g_W E A s H1 locs1 ws2 → W p l e R s m args below meth c H1 locs1 cells slots Q (F0 m (pc + 3) ls rest)) : W p l e R s m args below meth c H locs cells slots Q (F0 m pc ls (v :: .ref a :: rest)) := by
  subst hws
  exact va_putF C.1.1 C.1.2.1 C.1.2.2.2.2 hin ty0 hty hnm C.1.2.2.2.1 C.2.1 X.1 X.2.1 X.2.2 q0 he hc k hk (C.1.2.2.2.2 _ hlink) (fun x h => by rw [hT] at h; exact h) hfin hnm0 (hT.trans ho.symm) (hty k hk) hn hfit hl hdg (fun H1 locs1 h1 h2 h3 => kk H1 locs1 ⟨h1, h2, h3⟩)
theorem g_objInit {idx : Nat} (C : g_C E A p s m args c cc nL own) (hl : ls.size = nL) (hlink : Cond.methodLink own idx Lib.objectInit ∈ g_tbl) (hinst : Cond.instanceMethod Lib.objectInit ∈ g_tbl) (hcode : Cond.code Lib.objectInit ⟨#[0xb1]⟩ 1 none ∈ g_tbl) (hd : decode cc pc = .ok (.invokespecial idx, 3)) (hframes : 1 ≤ R.frames) (hlocals : (rest.map fun v => v.category).sum + 12 ≤ R.locals)
    (kk : W p l e R s m args below meth c H locs cells slots Q (F0 m (pc + 3) ls rest)) : W p l e R s m args below meth c H locs cells slots Q (F0 m pc ls (.ref a :: rest)) := by
  have hts := C.1.2.2.2.2
  exact W.objInit C.1.1 C.1.2.1 C.1.2.2.2.1 (hts _ hlink) (hts _ hinst) (hts _ hcode) rfl (hl.trans C.1.2.2.1.symm) rfl hd hframes (by show 2 * 0 + _ + 12 ≤ _; omega) kk
def g_KI (y : MethodName) (b : ByteArray) (n k : Nat) : Prop := Cond.code y b n none ∈ g_tbl ∧ Cond.instanceMethod y ∈ g_tbl ∧ Cond.initialized y.cls ∈ g_tbl ∧ y.name = "<init>" ∧ (y.cls ≠ "java/lang/invoke/MethodHandle" ∧ y.cls ≠ "java/lang/invoke/VarHandle" ∧ (parseMethodDescriptor y.desc).map (fun d => d.parameters.length) = some k)
theorem g_runI {y : MethodName} {b' : ByteArray} {n' k' index : Nat} {rm : Room} {As : List Value} {Qc : Array Value → State → Outcome → State → Prop} {st : List Value} (C : g_C E A p s m args c cc nL own) (X : g_W E A s H locs ws) (hM : Met l y (.code y b' n' none :: g_tbl) rm (va_Pc (.ref a :: As) (g_at E A ws)) Qc rm.cells rm.slots A) (K : g_KI y b' n' k') (hlink : Cond.methodLink own index y ∈ g_tbl) (hl : ls.size = nL) (hn : As.length = k') (hR : rm.frames + 1 ≤ R.frames ∧ 8 + (n' + 11) + rm.locals ≤ R.locals) (hst : st = As.reverse ++ .ref a :: rest) (hre : (rest.map fun v => v.category).sum ≤ 8) (hdg : decode cc pc = .ok (.invokespecial index, 3)) (hcs : cells + rm.cells ≤ R.cells ∧ slots + rm.slots ≤ R.slots) :
    va_Run p l e R s m args below meth c H locs cells slots rm.cells rm.slots (F0 m pc ls st) rest (Qc (Value.ref a :: As).toArray) A := by
  have hts := C.1.2.2.2.2
  exact va_runI (As := As) (rest := rest) C.1 hM ⟨callB_of k' hts (g_good K.1) rfl rfl rfl (hts _ K.2.2.1) (hts _ hlink) K.2.2.2.2 hR, K.2.2.2.1, hts _ K.2.1⟩ ⟨g_blind, fun U hU hW => ⟨rfl, g_at_call C X U hU hW⟩⟩ rfl hn hl hst (lv_room hre) hdg hcs
theorem g_runIN {host : String} {y : MethodName} {b' : ByteArray} {n' k' index : Nat} {rm : Room} {As : List Value} {Qc : Array Value → State → Outcome → State → Prop} {st : List Value} (C : g_C E A p s m args c cc nL own) (X : g_W E A s H locs ws) (hM : Met l y (.code y b' n' none :: g_tbl) rm (va_Pc (.ref a :: As) (g_at E A ws)) Qc rm.cells rm.slots A) (K : g_KI y b' n' k') (hlink : Cond.methodLinkNest own index y host ∈ g_nest) (hl : ls.size = nL) (hn : As.length = k') (hR : rm.frames + 1 ≤ R.frames ∧ 8 + (n' + 11) + rm.locals ≤ R.locals) (hst : st = As.reverse ++ .ref a :: rest) (hre : (rest.map fun v => v.category).sum ≤ 8) (hdg : decode cc pc = .ok (.invokespecial index, 3)) (hcs : cells + rm.cells ≤ R.cells ∧ slots + rm.slots ≤ R.slots) :
    va_Run p l e R s m args below meth c H locs cells slots rm.cells rm.slots (F0 m pc ls st) rest (Qc (Value.ref a :: As).toArray) A := by
  have hts := C.1.2.2.2.2
  exact va_runIN (As := As) (rest := rest) C.1 hM ⟨va_cnB k' hts (g_good K.1) rfl rfl rfl (C.2.2.2.1 _ hlink) (hts _ K.2.2.1) K.2.2.2.2 hR, K.2.2.2.1, hts _ K.2.1⟩ ⟨g_blind, fun U hU hW => ⟨rfl, g_at_call C X U hU hW⟩⟩ rfl hn hl hst (lv_room hre) hdg hcs
end GP
theorem kX5_add : g_KV yX5_add cX5_add 2 ((some .int)) 1 := ⟨m_211, m_209, m_210, m_75, ⟨by decide +kernel, by decide +kernel, by decide +kernel⟩⟩
theorem kX5_isFull : g_KV yX5_isFull cX5_isFull 1 ((some .boolean)) 0 := ⟨m_203, m_201, m_202, m_75, ⟨by decide +kernel, by decide +kernel, by decide +kernel⟩⟩
theorem kX5_lineNumbered : g_KV yX5_lineNumbered cX5_lineNumbered 2 ((Option.some (.object "PatchHall$Line"))) 1 := ⟨m_567, m_565, m_566, m_75, ⟨by decide +kernel, by decide +kernel, by decide +kernel⟩⟩
theorem kX6_dropChanges : g_KV yX6_dropChanges cX6_dropChanges 1 (none) 0 := ⟨m_280, m_278, m_279, m_73, ⟨by decide +kernel, by decide +kernel, by decide +kernel⟩⟩
theorem kX6_isHistoryFull : g_KV yX6_isHistoryFull cX6_isHistoryFull 1 ((some .boolean)) 0 := ⟨m_276, m_274, m_275, m_73, ⟨by decide +kernel, by decide +kernel, by decide +kernel⟩⟩
theorem kX6_keepAct : g_KV yX6_keepAct cX6_keepAct 5 (none) 0 := ⟨m_287, m_285, m_286, m_73, ⟨by decide +kernel, by decide +kernel, by decide +kernel⟩⟩
theorem kX6_takeBackAct : g_KV yX6_takeBackAct cX6_takeBackAct 3 (none) 0 := ⟨m_587, m_585, m_586, m_73, ⟨by decide +kernel, by decide +kernel, by decide +kernel⟩⟩
theorem kX7_copyPlaces : g_KV yX7_copyPlaces cX7_copyPlaces 9 ((some .int)) 5 := ⟨m_394, m_393, m_13, m_72, ⟨by decide +kernel, by decide +kernel, by decide +kernel⟩⟩
theorem kX7_isWhen : g_KS yX7_isWhen cX7_isWhen 1 ((some .boolean)) 1 := ⟨m_579, m_578, m_72, ⟨by decide +kernel, by decide +kernel, by decide +kernel⟩⟩
theorem kX7_keep : g_KV yX7_keep cX7_keep 2 ((some .int)) 1 := ⟨m_272, m_271, m_4, m_72, ⟨by decide +kernel, by decide +kernel, by decide +kernel⟩⟩
theorem kX7_keepIfDone : g_KV yX7_keepIfDone cX7_keepIfDone 2 ((some .int)) 1 := ⟨m_268, m_267, m_3, m_72, ⟨by decide +kernel, by decide +kernel, by decide +kernel⟩⟩
theorem kX7_layOver : g_KV yX7_layOver cX7_layOver 3 ((some .int)) 2 := ⟨m_332, m_331, m_7, m_72, ⟨by decide +kernel, by decide +kernel, by decide +kernel⟩⟩
theorem kX7_makeThing : g_KV yX7_makeThing cX7_makeThing 5 ((some .int)) 3 := ⟨m_215, m_214, m_2, m_72, ⟨by decide +kernel, by decide +kernel, by decide +kernel⟩⟩
theorem kX7_noteDown : g_KV yX7_noteDown cX7_noteDown 2 ((some .int)) 1 := ⟨m_199, m_198, m_0, m_72, ⟨by decide +kernel, by decide +kernel, by decide +kernel⟩⟩
theorem kX7_perform : g_KV yX7_perform cX7_perform 2 ((some .int)) 1 := ⟨m_571, m_570, m_24, m_72, ⟨by decide +kernel, by decide +kernel, by decide +kernel⟩⟩
theorem kX7_playOnce : g_KV yX7_playOnce cX7_playOnce 3 ((some .int)) 2 := ⟨m_450, m_449, m_17, m_72, ⟨by decide +kernel, by decide +kernel, by decide +kernel⟩⟩
theorem kX7_plugIn : g_KV yX7_plugIn cX7_plugIn 8 ((some .int)) 3 := ⟨m_348, m_347, m_9, m_72, ⟨by decide +kernel, by decide +kernel, by decide +kernel⟩⟩
theorem kX7_pullOut : g_KV yX7_pullOut cX7_pullOut 4 ((some .int)) 3 := ⟨m_386, m_385, m_12, m_72, ⟨by decide +kernel, by decide +kernel, by decide +kernel⟩⟩
theorem kX7_restAll : g_KV yX7_restAll cX7_restAll 3 ((some .int)) 1 := ⟨m_540, m_539, m_23, m_72, ⟨by decide +kernel, by decide +kernel, by decide +kernel⟩⟩
theorem kX7_runOver : g_KV yX7_runOver cX7_runOver 7 ((some .int)) 2 := ⟨m_515, m_514, m_21, m_72, ⟨by decide +kernel, by decide +kernel, by decide +kernel⟩⟩
theorem kX7_setKnob : g_KV yX7_setKnob cX7_setKnob 5 ((some .int)) 2 := ⟨m_441, m_440, m_16, m_72, ⟨by decide +kernel, by decide +kernel, by decide +kernel⟩⟩
theorem kX7_tickOn : g_KV yX7_tickOn cX7_tickOn 6 ((some .int)) 2 := ⟨m_524, m_523, m_22, m_72, ⟨by decide +kernel, by decide +kernel, by decide +kernel⟩⟩
theorem kX7_writeNumber : g_KV yX7_writeNumber cX7_writeNumber 6 ((some .int)) 3 := ⟨m_429, m_428, m_15, m_72, ⟨by decide +kernel, by decide +kernel, by decide +kernel⟩⟩
