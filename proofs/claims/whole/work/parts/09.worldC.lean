abbrev CS : Type := (Nat → Int32) × (Nat → Nat → Int64) × (Nat → Int32) × (Option Nat) × (Nat → Option Nat) × va_W
def cI (w : CS) (k : Nat) (v : Int32) : CS := (va_up w.1 k v, w.2)
def cL (w : CS) (k i : Nat) (v : Int64) : CS := (w.1, va_up w.2.1 k (vp_updL (w.2.1 k) i v), w.2.2)
def cC (w : CS) (j k sp dp n : Nat) : CS := (w.1, va_up w.2.1 k (va_cpy (w.2.1 j) (w.2.1 k) sp dp n), w.2.2)
def cP (w : CS) (i : Nat) (v : Int32) : CS := (w.1, w.2.1, upd w.2.2.1 i v, w.2.2.2)
abbrev wsC (E : g_Env) (ad : Nat → Nat) (w : CS) : va_W := (ad 0, .inr (5, [.ref (ad 1), .ref (ad 4), .ref (ad 6), .int (w.1 0)])) :: (ad 1, .inr (4, [.ref (ad 2), .ref (ad 3), va_rf w.2.2.2.1, .int (w.1 1)])) :: (ad 2, .inl (E.2.2.1, 1397, .inr (.inl (w.2.1 2)))) :: (ad 3, .inl (E.2.2.1, 1397, .inr (.inl (w.2.1 3)))) :: (ad 4, .inr (0, [.ref (ad 5), .int (w.1 2)])) :: (ad 5, .inl (E.2.1, 144, .inl w.2.2.1)) :: (ad 6, .inr (3, [.ref (ad 7), .int (w.1 3), .int (w.1 4)])) :: (ad 7, .inl (E.2.2.2.1, 16, .inr (.inr (.inr (.inr w.2.2.2.2.1))))) :: w.2.2.2.2.2
def g_abs (x : Int32) : Int32 := if 0 ≤ x then x else 0 - x
def g_max (x y : Int32) : Int32 := if x < y then y else x
def g_min (x y : Int32) : Int32 := if y < x then y else x
def g_cpk {α : Type} (sp dp n : Int32) (n0 n1 : Nat) (k : Option α) : Option α := if sp < 0 ∨ dp < 0 ∨ n < 0 ∨ n0 < sp.toNatClampNeg + n.toNatClampNeg ∨ n1 < dp.toNatClampNeg + n.toNatClampNeg then none else k
theorem g_cpe {α : Type} {sp dp n : Int32} {n0 n1 : Nat} {k : Option α} {o : α} (h : g_cpk sp dp n n0 n1 k = some o) : (¬ sp < 0 ∧ ¬ dp < 0 ∧ ¬ n < 0 ∧ sp.toNatClampNeg + n.toNatClampNeg ≤ n0 ∧ dp.toNatClampNeg + n.toNatClampNeg ≤ n1) ∧ k = some o := by
  unfold g_cpk at h
  by_cases hc : sp < 0 ∨ dp < 0 ∨ n < 0 ∨ n0 < sp.toNatClampNeg + n.toNatClampNeg ∨ n1 < dp.toNatClampNeg + n.toNatClampNeg
  · rw [if_pos hc] at h; cases h
  · rw [if_neg hc] at h
    exact ⟨⟨fun q => hc (Or.inl q), fun q => hc (Or.inr (Or.inl q)), fun q => hc (Or.inr (Or.inr (Or.inl q))), Nat.not_lt.mp fun q => hc (Or.inr (Or.inr (Or.inr (Or.inl q)))), Nat.not_lt.mp fun q => hc (Or.inr (Or.inr (Or.inr (Or.inr q))))⟩, h⟩
section GJ
variable {p : Program} {l : Launch} {e : Env} {R : Room} {s : State} {m : MethodId} {args : Array Value} {below : List Frame} {meth : Method} {c : Code} {H : Heap} {locs : List Loc} {cells slots : Nat} {Q : State → Prop}
variable {cc : ByteArray} {pc nL : Nat} {ls : Array Slot} {rest : List Value} {A : Nat → Prop} {ws : va_W} {E : g_Env} {own : String} {a : Nat}
theorem g_mabs {index : Nat} (C : g_C E A p s m args c cc nL own) (hl : ls.size = nL) (hlink : Cond.methodLink own index Lib.Math.abs.name ∈ g_tbl) (hstat : Cond.static Lib.Math.abs.name ∈ g_tbl) (hini : Cond.initialized "java/lang/Math" ∈ g_tbl) (hcode : Cond.code Lib.Math.abs.name Lib.Math.abs.code 1 (some .int) ∈ g_tbl)
    (hframes : 1 ≤ R.frames) (hlocals : (rest.map fun v => v.category).sum + 13 ≤ R.locals) (hc : cells ≤ R.cells) (hs : slots ≤ R.slots) {x v : Int32} (hv : v = g_abs x) (hdg : decode cc pc = .ok (.invokestatic index, 3))
    (kk : W p l e R s m args below meth c H locs cells slots Q (F0 m (pc + 3) ls (.int v :: rest))) : W p l e R s m args below meth c H locs cells slots Q (F0 m pc ls (.int x :: rest)) := by
  subst hv
  have hts := C.1.2.2.2.2
  exact va_mabs C.1.1 C.1.2.1 (C.1.2.2.1.trans hl.symm) C.1.2.2.2.1 (hts _ hlink) (hts _ hstat) (hts _ hini) (hts _ hcode) hframes hlocals hc hs hdg kk
theorem g_mmax {index : Nat} (C : g_C E A p s m args c cc nL own) (hl : ls.size = nL) (hlink : Cond.methodLink own index Lib.Math.max.name ∈ g_tbl) (hstat : Cond.static Lib.Math.max.name ∈ g_tbl) (hini : Cond.initialized "java/lang/Math" ∈ g_tbl) (hcode : Cond.code Lib.Math.max.name Lib.Math.max.code 2 (some .int) ∈ g_tbl)
    (hframes : 1 ≤ R.frames) (hlocals : (rest.map fun v => v.category).sum + 13 ≤ R.locals) (hc : cells ≤ R.cells) (hs : slots ≤ R.slots) {x y v : Int32} (hv : v = g_max x y) (hdg : decode cc pc = .ok (.invokestatic index, 3))
    (kk : W p l e R s m args below meth c H locs cells slots Q (F0 m (pc + 3) ls (.int v :: rest))) : W p l e R s m args below meth c H locs cells slots Q (F0 m pc ls (.int y :: .int x :: rest)) := by
  subst hv
  have hts := C.1.2.2.2.2
  exact va_mmax C.1.1 C.1.2.1 (C.1.2.2.1.trans hl.symm) C.1.2.2.2.1 (hts _ hlink) (hts _ hstat) (hts _ hini) (hts _ hcode) hframes hlocals hc hs hdg kk
theorem g_mmin {index : Nat} (C : g_C E A p s m args c cc nL own) (hl : ls.size = nL) (hlink : Cond.methodLink own index Lib.Math.min.name ∈ g_tbl) (hstat : Cond.static Lib.Math.min.name ∈ g_tbl) (hini : Cond.initialized "java/lang/Math" ∈ g_tbl) (hcode : Cond.code Lib.Math.min.name Lib.Math.min.code 2 (some .int) ∈ g_tbl)
    (hframes : 1 ≤ R.frames) (hlocals : (rest.map fun v => v.category).sum + 13 ≤ R.locals) (hc : cells ≤ R.cells) (hs : slots ≤ R.slots) {x y v : Int32} (hv : v = g_min x y) (hdg : decode cc pc = .ok (.invokestatic index, 3))
    (kk : W p l e R s m args below meth c H locs cells slots Q (F0 m (pc + 3) ls (.int v :: rest))) : W p l e R s m args below meth c H locs cells slots Q (F0 m pc ls (.int y :: .int x :: rest)) := by
  subst hv
  have hts := C.1.2.2.2.2
  exact va_mmin C.1.1 C.1.2.1 (C.1.2.2.1.trans hl.symm) C.1.2.2.2.1 (hts _ hlink) (hts _ hstat) (hts _ hini) (hts _ hcode) hframes hlocals hc hs hdg kk
theorem g_copyl {index : Nat} (C : g_C E A p s m args c cc nL own) (X : g_W E A s H locs ws) (hl : ls.size = nL) (hlink : Cond.methodLink own index arraycopyName ∈ g_tbl) (hnat : Cond.native arraycopyName ∈ g_tbl) (hstat : Cond.static arraycopyName ∈ g_tbl) (hini : Cond.initialized "java/lang/System" ∈ g_tbl) (q0 q1 : Nat) {a0 : Nat} {n0 n1 : Nat} {f g : Nat → Int64} (ha0 : ws[q0]? = some (a0, .inl (E.2.2.1, n0, .inr (.inl f)))) (ha1 : ws[q1]? = some (a, .inl (E.2.2.1, n1, .inr (.inl g))))
    {sp dp n : Int32} (hh : ¬ sp < 0 ∧ ¬ dp < 0 ∧ ¬ n < 0 ∧ sp.toNatClampNeg + n.toNatClampNeg ≤ n0 ∧ dp.toNatClampNeg + n.toNatClampNeg ≤ n1) (hframes : 1 ≤ R.frames) (hlocals : (rest.map fun v => v.category).sum + (nativeFrameWords "java/lang/System" "arraycopy" 5 + 11) ≤ R.locals) (hdg : decode cc pc = .ok (.invokestatic index, 3)) {ws2 : va_W} (hws : ws.set q1 (a, .inl (E.2.2.1, n1, .inr (.inl (va_cpy f g sp.toNatClampNeg dp.toNatClampNeg n.toNatClampNeg)))) = ws2)
    (kk : ∀ (H1 : Heap) (locs1 : List Loc), g_W E A s H1 locs1 ws2 → W p l e R s m args below meth c H1 locs1 cells slots Q (F0 m (pc + 3) ls rest)) : W p l e R s m args below meth c H locs cells slots Q (F0 m pc ls (.int n :: .int dp :: .ref a :: .int sp :: .ref a0 :: rest)) := by
  subst hws
  have hts := C.1.2.2.2.2
  obtain ⟨h1, h2, h3, h4, h5⟩ := hh
  exact va_copyl C.1.1 C.1.2.1 (C.1.2.2.1.trans hl.symm) C.1.2.2.2.1 (hts _ hlink) (hts _ hnat) (hts _ hstat) (hts _ hini) C.2.1 X.1 X.2.1 X.2.2 q0 q1 1 1 ha0 ha1 rfl rfl rfl h1 h2 h3 h4 h5 (fun i _ => rfl) hframes hlocals hdg (fun H1 locs1 x1 x2 x3 => kk H1 locs1 ⟨x1, x2, x3⟩)
end GJ

theorem kX0_add : g_KV yX0_add cX0_add 2 (none) 1 := ⟨m_465, m_464, m_19, m_74, ⟨by decide +kernel, by decide +kernel, by decide +kernel⟩⟩
theorem kX0_addPartsOf : g_KV yX0_addPartsOf cX0_addPartsOf 4 (none) 2 := ⟨m_461, m_460, m_18, m_74, ⟨by decide +kernel, by decide +kernel, by decide +kernel⟩⟩
theorem kX0_lineUp : g_KV yX0_lineUp cX0_lineUp 4 (none) 2 := ⟨m_455, m_453, m_454, m_74, ⟨by decide +kernel, by decide +kernel, by decide +kernel⟩⟩
theorem kX0_partAt : g_KV yX0_partAt cX0_partAt 2 ((some .int)) 1 := ⟨m_478, m_476, m_477, m_74, ⟨by decide +kernel, by decide +kernel, by decide +kernel⟩⟩
theorem kX2_asHeldIn : g_KS yX2_asHeldIn cX2_asHeldIn 3 ((some .long)) 2 := ⟨m_433, m_432, m_78, ⟨by decide +kernel, by decide +kernel, by decide +kernel⟩⟩
theorem kX2_fittingIn : g_KS yX2_fittingIn cX2_fittingIn 1 ((some .int)) 1 := ⟨m_369, m_368, m_78, ⟨by decide +kernel, by decide +kernel, by decide +kernel⟩⟩
theorem kX2_isCopied : g_KS yX2_isCopied cX2_isCopied 2 ((some .boolean)) 2 := ⟨m_402, m_401, m_78, ⟨by decide +kernel, by decide +kernel, by decide +kernel⟩⟩
theorem kX2_isKind : g_KS yX2_isKind cX2_isKind 1 ((some .boolean)) 1 := ⟨m_224, m_223, m_78, ⟨by decide +kernel, by decide +kernel, by decide +kernel⟩⟩
theorem kX2_isMade : g_KS yX2_isMade cX2_isMade 1 ((some .boolean)) 1 := ⟨m_221, m_220, m_78, ⟨by decide +kernel, by decide +kernel, by decide +kernel⟩⟩
theorem kX2_isUnderAny : g_KS yX2_isUnderAny cX2_isUnderAny 2 ((some .boolean)) 2 := ⟨m_242, m_241, m_78, ⟨by decide +kernel, by decide +kernel, by decide +kernel⟩⟩
theorem kX4_bend : g_KS yX4_bend cX4_bend 4 ((some .int)) 4 := ⟨m_497, m_496, m_82, ⟨by decide +kernel, by decide +kernel, by decide +kernel⟩⟩
theorem kX4_clip : g_KS yX4_clip cX4_clip 4 ((some .int)) 3 := ⟨m_489, m_488, m_82, ⟨by decide +kernel, by decide +kernel, by decide +kernel⟩⟩
theorem kX4_countIn : g_KS yX4_countIn cX4_countIn 3 ((some .int)) 3 := ⟨m_507, m_506, m_82, ⟨by decide +kernel, by decide +kernel, by decide +kernel⟩⟩
theorem kX4_echo : g_KS yX4_echo cX4_echo 4 ((some .int)) 3 := ⟨m_500, m_499, m_82, ⟨by decide +kernel, by decide +kernel, by decide +kernel⟩⟩
theorem kX4_load : g_KS yX4_load cX4_load 3 ((some .int)) 2 := ⟨m_613, m_612, m_82, ⟨by decide +kernel, by decide +kernel, by decide +kernel⟩⟩
theorem kX4_putToRest : g_KS yX4_putToRest cX4_putToRest 2 (none) 2 := ⟨m_543, m_542, m_82, ⟨by decide +kernel, by decide +kernel, by decide +kernel⟩⟩
theorem kX4_resound : g_KS yX4_resound cX4_resound 3 ((some .int)) 3 := ⟨m_504, m_503, m_82, ⟨by decide +kernel, by decide +kernel, by decide +kernel⟩⟩
theorem kX4_tick : g_KS yX4_tick cX4_tick 3 ((some .int)) 3 := ⟨m_531, m_530, m_82, ⟨by decide +kernel, by decide +kernel, by decide +kernel⟩⟩
theorem kX4_ticksBy : g_KS yX4_ticksBy cX4_ticksBy 5 ((some .int)) 3 := ⟨m_528, m_527, m_82, ⟨by decide +kernel, by decide +kernel, by decide +kernel⟩⟩
theorem kX4_turn : g_KS yX4_turn cX4_turn 3 ((some .int)) 3 := ⟨m_481, m_480, m_82, ⟨by decide +kernel, by decide +kernel, by decide +kernel⟩⟩
theorem kX5_startAnew : g_KV yX5_startAnew cX5_startAnew 1 (none) 0 := ⟨m_555, m_553, m_554, m_75, ⟨by decide +kernel, by decide +kernel, by decide +kernel⟩⟩
theorem kX6_add : g_KV yX6_add cX6_add 5 ((some .int)) 2 := ⟨m_234, m_232, m_233, m_73, ⟨by decide +kernel, by decide +kernel, by decide +kernel⟩⟩
theorem kX6_atPlace : g_KV yX6_atPlace cX6_atPlace 3 ((some .long)) 2 := ⟨m_376, m_374, m_375, m_73, ⟨by decide +kernel, by decide +kernel, by decide +kernel⟩⟩
theorem kX6_fits : g_KV yX6_fits cX6_fits 3 ((some .boolean)) 2 := ⟨m_366, m_364, m_365, m_73, ⟨by decide +kernel, by decide +kernel, by decide +kernel⟩⟩
theorem kX6_grow : g_KV yX6_grow cX6_grow 5 (none) 3 := ⟨m_485, m_483, m_484, m_73, ⟨by decide +kernel, by decide +kernel, by decide +kernel⟩⟩
theorem kX6_hasPlace : g_KV yX6_hasPlace cX6_hasPlace 3 ((some .boolean)) 2 := ⟨m_252, m_250, m_251, m_73, ⟨by decide +kernel, by decide +kernel, by decide +kernel⟩⟩
theorem kX6_hasPlaces : g_KV yX6_hasPlaces cX6_hasPlaces 4 ((some .boolean)) 3 := ⟨m_409, m_407, m_408, m_73, ⟨by decide +kernel, by decide +kernel, by decide +kernel⟩⟩
theorem kX6_howManyFit : g_KV yX6_howManyFit cX6_howManyFit 6 ((some .int)) 4 := ⟨m_413, m_411, m_412, m_73, ⟨by decide +kernel, by decide +kernel, by decide +kernel⟩⟩
theorem kX6_isIn : g_KV yX6_isIn cX6_isIn 3 ((some .boolean)) 2 := ⟨m_361, m_359, m_360, m_73, ⟨by decide +kernel, by decide +kernel, by decide +kernel⟩⟩
theorem kX6_movePlaces : g_KV yX6_movePlaces cX6_movePlaces 6 (none) 5 := ⟨m_420, m_418, m_419, m_73, ⟨by decide +kernel, by decide +kernel, by decide +kernel⟩⟩
theorem kX6_onShelf : g_KV yX6_onShelf cX6_onShelf 2 ((some .int)) 1 := ⟨m_336, m_334, m_335, m_73, ⟨by decide +kernel, by decide +kernel, by decide +kernel⟩⟩
theorem kX6_placeCell : g_KS yX6_placeCell cX6_placeCell 2 ((some .int)) 2 := ⟨m_259, m_258, m_73, ⟨by decide +kernel, by decide +kernel, by decide +kernel⟩⟩
theorem kX6_places : g_KV yX6_places cX6_places 2 ((some .int)) 1 := ⟨m_469, m_467, m_468, m_73, ⟨by decide +kernel, by decide +kernel, by decide +kernel⟩⟩
theorem kX6_setPlace : g_KV yX6_setPlace cX6_setPlace 5 (none) 3 := ⟨m_248, m_246, m_247, m_73, ⟨by decide +kernel, by decide +kernel, by decide +kernel⟩⟩
theorem kX6_setShelf : g_KV yX6_setShelf cX6_setShelf 3 (none) 2 := ⟨m_263, m_261, m_262, m_73, ⟨by decide +kernel, by decide +kernel, by decide +kernel⟩⟩
theorem kX6_setTrait : g_KV yX6_setTrait cX6_setTrait 5 (none) 3 := ⟨m_239, m_237, m_238, m_73, ⟨by decide +kernel, by decide +kernel, by decide +kernel⟩⟩
theorem kX6_thingsMade : g_KV yX6_thingsMade cX6_thingsMade 1 ((some .int)) 0 := ⟨m_230, m_228, m_229, m_73, ⟨by decide +kernel, by decide +kernel, by decide +kernel⟩⟩
theorem kX6_trait : g_KV yX6_trait cX6_trait 4 ((some .int)) 2 := ⟨m_256, m_254, m_255, m_73, ⟨by decide +kernel, by decide +kernel, by decide +kernel⟩⟩
theorem kX7_askWhether : g_KV yX7_askWhether cX7_askWhether 3 ((some .int)) 2 := ⟨m_575, m_574, m_25, m_72, ⟨by decide +kernel, by decide +kernel, by decide +kernel⟩⟩
theorem kX7_hasNoPlace : g_KV yX7_hasNoPlace cX7_hasNoPlace 4 ((some .boolean)) 3 := ⟨m_353, m_352, m_10, m_72, ⟨by decide +kernel, by decide +kernel, by decide +kernel⟩⟩
theorem kX7_holdsNone : g_KV yX7_holdsNone cX7_holdsNone 3 ((some .boolean)) 2 := ⟨m_357, m_356, m_11, m_72, ⟨by decide +kernel, by decide +kernel, by decide +kernel⟩⟩
theorem kX7_isEitherEmpty : g_KV yX7_isEitherEmpty cX7_isEitherEmpty 3 ((some .boolean)) 2 := ⟨m_398, m_397, m_14, m_72, ⟨by decide +kernel, by decide +kernel, by decide +kernel⟩⟩
theorem kX7_isShelf : g_KS yX7_isShelf cX7_isShelf 1 ((some .boolean)) 1 := ⟨m_218, m_217, m_72, ⟨by decide +kernel, by decide +kernel, by decide +kernel⟩⟩
theorem kX7_playChain : g_KV yX7_playChain cX7_playChain 4 ((some .int)) 1 := ⟨m_474, m_473, m_20, m_72, ⟨by decide +kernel, by decide +kernel, by decide +kernel⟩⟩
theorem kX7_putOnShelf : g_KV yX7_putOnShelf cX7_putOnShelf 3 ((some .int)) 2 := ⟨m_340, m_339, m_8, m_72, ⟨by decide +kernel, by decide +kernel, by decide +kernel⟩⟩
theorem kX7_refuse : g_KV yX7_refuse cX7_refuse 2 ((some .int)) 1 := ⟨m_207, m_206, m_1, m_72, ⟨by decide +kernel, by decide +kernel, by decide +kernel⟩⟩
theorem kX7_takeFromOther : g_KV yX7_takeFromOther cX7_takeFromOther 3 ((some .int)) 2 := ⟨m_610, m_609, m_27, m_72, ⟨by decide +kernel, by decide +kernel, by decide +kernel⟩⟩
theorem kX7_takeFromRow : g_KV yX7_takeFromRow cX7_takeFromRow 6 ((some .long)) 3 := ⟨m_605, m_604, m_26, m_72, ⟨by decide +kernel, by decide +kernel, by decide +kernel⟩⟩
