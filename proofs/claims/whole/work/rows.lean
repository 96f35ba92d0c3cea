section
-- ===== PART A: goes FIRST, ahead of the names: the tables' words, and 'selects' of the private methods out of them =====
/-- a private method of a class that the tables say can be made, by its rows of tables_1 -/
def lw_okq (q : MethodName × Nat) : Prop := (q.1.cls ≠ "java/lang/invoke/MethodHandle" ∧ q.1.cls ≠ "java/lang/invoke/VarHandle") ∧ Cond.instantiable q.1.cls q.2 ∈ tables_1 ∧ Cond.privateMethod q.1 ∈ tables_1 ∧ Cond.instanceMethod q.1 ∈ tables_1
theorem lw_p0 : lw_okq (⟨"PatchHall", "noteDown", "(LPatchHall$Line;)I"⟩, 4) := ⟨⟨by decide +kernel, by decide +kernel⟩, List.mem_of_getElem? (i := 13) (by decide +kernel), List.mem_of_getElem? (i := 126) (by decide +kernel), List.mem_of_getElem? (i := 127) (by decide +kernel)⟩
theorem lw_p1 : lw_okq (⟨"PatchHall", "refuse", "(I)I"⟩, 4) := ⟨⟨by decide +kernel, by decide +kernel⟩, List.mem_of_getElem? (i := 13) (by decide +kernel), List.mem_of_getElem? (i := 134) (by decide +kernel), List.mem_of_getElem? (i := 135) (by decide +kernel)⟩
theorem lw_p2 : lw_okq (⟨"PatchHall", "makeThing", "(III)I"⟩, 4) := ⟨⟨by decide +kernel, by decide +kernel⟩, List.mem_of_getElem? (i := 13) (by decide +kernel), List.mem_of_getElem? (i := 142) (by decide +kernel), List.mem_of_getElem? (i := 143) (by decide +kernel)⟩
theorem lw_p3 : lw_okq (⟨"PatchHall", "keepIfDone", "(I)I"⟩, 4) := ⟨⟨by decide +kernel, by decide +kernel⟩, List.mem_of_getElem? (i := 13) (by decide +kernel), List.mem_of_getElem? (i := 195) (by decide +kernel), List.mem_of_getElem? (i := 196) (by decide +kernel)⟩
theorem lw_p4 : lw_okq (⟨"PatchHall", "keep", "(I)I"⟩, 4) := ⟨⟨by decide +kernel, by decide +kernel⟩, List.mem_of_getElem? (i := 13) (by decide +kernel), List.mem_of_getElem? (i := 199) (by decide +kernel), List.mem_of_getElem? (i := 200) (by decide +kernel)⟩
theorem lw_p5 : lw_okq (⟨"PatchHall$Stock", "cellsInUse", "()I"⟩, 4) := ⟨⟨by decide +kernel, by decide +kernel⟩, List.mem_of_getElem? (i := 21) (by decide +kernel), List.mem_of_getElem? (i := 218) (by decide +kernel), List.mem_of_getElem? (i := 219) (by decide +kernel)⟩
theorem lw_p6 : lw_okq (⟨"PatchHall$Stock", "countChanges", "(I)I"⟩, 4) := ⟨⟨by decide +kernel, by decide +kernel⟩, List.mem_of_getElem? (i := 21) (by decide +kernel), List.mem_of_getElem? (i := 227) (by decide +kernel), List.mem_of_getElem? (i := 228) (by decide +kernel)⟩
theorem lw_p7 : lw_okq (⟨"PatchHall", "layOver", "(II)I"⟩, 4) := ⟨⟨by decide +kernel, by decide +kernel⟩, List.mem_of_getElem? (i := 13) (by decide +kernel), List.mem_of_getElem? (i := 259) (by decide +kernel), List.mem_of_getElem? (i := 260) (by decide +kernel)⟩
theorem lw_p8 : lw_okq (⟨"PatchHall", "putOnShelf", "(II)I"⟩, 4) := ⟨⟨by decide +kernel, by decide +kernel⟩, List.mem_of_getElem? (i := 13) (by decide +kernel), List.mem_of_getElem? (i := 267) (by decide +kernel), List.mem_of_getElem? (i := 268) (by decide +kernel)⟩
theorem lw_p9 : lw_okq (⟨"PatchHall", "plugIn", "(III)I"⟩, 4) := ⟨⟨by decide +kernel, by decide +kernel⟩, List.mem_of_getElem? (i := 13) (by decide +kernel), List.mem_of_getElem? (i := 275) (by decide +kernel), List.mem_of_getElem? (i := 276) (by decide +kernel)⟩
theorem lw_p10 : lw_okq (⟨"PatchHall", "hasNoPlace", "(III)Z"⟩, 4) := ⟨⟨by decide +kernel, by decide +kernel⟩, List.mem_of_getElem? (i := 13) (by decide +kernel), List.mem_of_getElem? (i := 280) (by decide +kernel), List.mem_of_getElem? (i := 281) (by decide +kernel)⟩
theorem lw_p11 : lw_okq (⟨"PatchHall", "holdsNone", "(II)Z"⟩, 4) := ⟨⟨by decide +kernel, by decide +kernel⟩, List.mem_of_getElem? (i := 13) (by decide +kernel), List.mem_of_getElem? (i := 284) (by decide +kernel), List.mem_of_getElem? (i := 285) (by decide +kernel)⟩
theorem lw_p12 : lw_okq (⟨"PatchHall", "pullOut", "(III)I"⟩, 4) := ⟨⟨by decide +kernel, by decide +kernel⟩, List.mem_of_getElem? (i := 13) (by decide +kernel), List.mem_of_getElem? (i := 313) (by decide +kernel), List.mem_of_getElem? (i := 314) (by decide +kernel)⟩
theorem lw_p13 : lw_okq (⟨"PatchHall", "copyPlaces", "(IIIII)I"⟩, 4) := ⟨⟨by decide +kernel, by decide +kernel⟩, List.mem_of_getElem? (i := 13) (by decide +kernel), List.mem_of_getElem? (i := 321) (by decide +kernel), List.mem_of_getElem? (i := 322) (by decide +kernel)⟩
theorem lw_p14 : lw_okq (⟨"PatchHall", "isEitherEmpty", "(II)Z"⟩, 4) := ⟨⟨by decide +kernel, by decide +kernel⟩, List.mem_of_getElem? (i := 13) (by decide +kernel), List.mem_of_getElem? (i := 325) (by decide +kernel), List.mem_of_getElem? (i := 326) (by decide +kernel)⟩
theorem lw_p15 : lw_okq (⟨"PatchHall", "writeNumber", "(IIJ)I"⟩, 4) := ⟨⟨by decide +kernel, by decide +kernel⟩, List.mem_of_getElem? (i := 13) (by decide +kernel), List.mem_of_getElem? (i := 356) (by decide +kernel), List.mem_of_getElem? (i := 357) (by decide +kernel)⟩
def lw_privs_1 : List (MethodName × Nat) := [(⟨"PatchHall", "noteDown", "(LPatchHall$Line;)I"⟩, 4), (⟨"PatchHall", "refuse", "(I)I"⟩, 4), (⟨"PatchHall", "makeThing", "(III)I"⟩, 4), (⟨"PatchHall", "keepIfDone", "(I)I"⟩, 4), (⟨"PatchHall", "keep", "(I)I"⟩, 4), (⟨"PatchHall$Stock", "cellsInUse", "()I"⟩, 4), (⟨"PatchHall$Stock", "countChanges", "(I)I"⟩, 4), (⟨"PatchHall", "layOver", "(II)I"⟩, 4), (⟨"PatchHall", "putOnShelf", "(II)I"⟩, 4), (⟨"PatchHall", "plugIn", "(III)I"⟩, 4), (⟨"PatchHall", "hasNoPlace", "(III)Z"⟩, 4), (⟨"PatchHall", "holdsNone", "(II)Z"⟩, 4), (⟨"PatchHall", "pullOut", "(III)I"⟩, 4), (⟨"PatchHall", "copyPlaces", "(IIIII)I"⟩, 4), (⟨"PatchHall", "isEitherEmpty", "(II)Z"⟩, 4), (⟨"PatchHall", "writeNumber", "(IIJ)I"⟩, 4)]
theorem lw_r1 : ∀ q ∈ lw_privs_1, lw_okq q := List.forall_mem_cons.mpr ⟨lw_p0, List.forall_mem_cons.mpr ⟨lw_p1, List.forall_mem_cons.mpr ⟨lw_p2, List.forall_mem_cons.mpr ⟨lw_p3, List.forall_mem_cons.mpr ⟨lw_p4, List.forall_mem_cons.mpr ⟨lw_p5, List.forall_mem_cons.mpr ⟨lw_p6, List.forall_mem_cons.mpr ⟨lw_p7, List.forall_mem_cons.mpr ⟨lw_p8, List.forall_mem_cons.mpr ⟨lw_p9, List.forall_mem_cons.mpr ⟨lw_p10, List.forall_mem_cons.mpr ⟨lw_p11, List.forall_mem_cons.mpr ⟨lw_p12, List.forall_mem_cons.mpr ⟨lw_p13, List.forall_mem_cons.mpr ⟨lw_p14, List.forall_mem_cons.mpr ⟨lw_p15, fun _ h => absurd h List.not_mem_nil⟩⟩⟩⟩⟩⟩⟩⟩⟩⟩⟩⟩⟩⟩⟩⟩
theorem lw_p16 : lw_okq (⟨"PatchHall", "setKnob", "(II)I"⟩, 4) := ⟨⟨by decide +kernel, by decide +kernel⟩, List.mem_of_getElem? (i := 13) (by decide +kernel), List.mem_of_getElem? (i := 368) (by decide +kernel), List.mem_of_getElem? (i := 369) (by decide +kernel)⟩
theorem lw_p17 : lw_okq (⟨"PatchHall", "playOnce", "(II)I"⟩, 4) := ⟨⟨by decide +kernel, by decide +kernel⟩, List.mem_of_getElem? (i := 13) (by decide +kernel), List.mem_of_getElem? (i := 377) (by decide +kernel), List.mem_of_getElem? (i := 378) (by decide +kernel)⟩
theorem lw_p18 : lw_okq (⟨"PatchHall$Chain", "addPartsOf", "(LPatchHall$Stock;I)V"⟩, 2) := ⟨⟨by decide +kernel, by decide +kernel⟩, List.mem_of_getElem? (i := 43) (by decide +kernel), List.mem_of_getElem? (i := 388) (by decide +kernel), List.mem_of_getElem? (i := 389) (by decide +kernel)⟩
theorem lw_p19 : lw_okq (⟨"PatchHall$Chain", "add", "(I)V"⟩, 2) := ⟨⟨by decide +kernel, by decide +kernel⟩, List.mem_of_getElem? (i := 43) (by decide +kernel), List.mem_of_getElem? (i := 392) (by decide +kernel), List.mem_of_getElem? (i := 393) (by decide +kernel)⟩
theorem lw_p20 : lw_okq (⟨"PatchHall", "playChain", "(I)I"⟩, 4) := ⟨⟨by decide +kernel, by decide +kernel⟩, List.mem_of_getElem? (i := 13) (by decide +kernel), List.mem_of_getElem? (i := 401) (by decide +kernel), List.mem_of_getElem? (i := 402) (by decide +kernel)⟩
theorem lw_p21 : lw_okq (⟨"PatchHall", "runOver", "(II)I"⟩, 4) := ⟨⟨by decide +kernel, by decide +kernel⟩, List.mem_of_getElem? (i := 13) (by decide +kernel), List.mem_of_getElem? (i := 442) (by decide +kernel), List.mem_of_getElem? (i := 443) (by decide +kernel)⟩
theorem lw_p22 : lw_okq (⟨"PatchHall", "tickOn", "(II)I"⟩, 4) := ⟨⟨by decide +kernel, by decide +kernel⟩, List.mem_of_getElem? (i := 13) (by decide +kernel), List.mem_of_getElem? (i := 451) (by decide +kernel), List.mem_of_getElem? (i := 452) (by decide +kernel)⟩
theorem lw_p23 : lw_okq (⟨"PatchHall", "restAll", "(I)I"⟩, 4) := ⟨⟨by decide +kernel, by decide +kernel⟩, List.mem_of_getElem? (i := 13) (by decide +kernel), List.mem_of_getElem? (i := 467) (by decide +kernel), List.mem_of_getElem? (i := 468) (by decide +kernel)⟩
theorem lw_p24 : lw_okq (⟨"PatchHall", "perform", "(LPatchHall$Line;)I"⟩, 4) := ⟨⟨by decide +kernel, by decide +kernel⟩, List.mem_of_getElem? (i := 13) (by decide +kernel), List.mem_of_getElem? (i := 498) (by decide +kernel), List.mem_of_getElem? (i := 499) (by decide +kernel)⟩
theorem lw_p25 : lw_okq (⟨"PatchHall", "askWhether", "(II)I"⟩, 4) := ⟨⟨by decide +kernel, by decide +kernel⟩, List.mem_of_getElem? (i := 13) (by decide +kernel), List.mem_of_getElem? (i := 502) (by decide +kernel), List.mem_of_getElem? (i := 503) (by decide +kernel)⟩
theorem lw_p26 : lw_okq (⟨"PatchHall", "takeFromRow", "(III)J"⟩, 4) := ⟨⟨by decide +kernel, by decide +kernel⟩, List.mem_of_getElem? (i := 13) (by decide +kernel), List.mem_of_getElem? (i := 532) (by decide +kernel), List.mem_of_getElem? (i := 533) (by decide +kernel)⟩
theorem lw_p27 : lw_okq (⟨"PatchHall", "takeFromOther", "(II)I"⟩, 4) := ⟨⟨by decide +kernel, by decide +kernel⟩, List.mem_of_getElem? (i := 13) (by decide +kernel), List.mem_of_getElem? (i := 537) (by decide +kernel), List.mem_of_getElem? (i := 538) (by decide +kernel)⟩
theorem lw_p28 : lw_okq (⟨"PatchHallModel", "called", "(IIIIIIJ)I"⟩, 18) := ⟨⟨by decide +kernel, by decide +kernel⟩, List.mem_of_getElem? (i := 565) (by decide +kernel), List.mem_of_getElem? (i := 630) (by decide +kernel), List.mem_of_getElem? (i := 631) (by decide +kernel)⟩
theorem lw_p29 : lw_okq (⟨"PatchHallModel", "lineMore", "(J)I"⟩, 18) := ⟨⟨by decide +kernel, by decide +kernel⟩, List.mem_of_getElem? (i := 565) (by decide +kernel), List.mem_of_getElem? (i := 634) (by decide +kernel), List.mem_of_getElem? (i := 635) (by decide +kernel)⟩
theorem lw_p30 : lw_okq (⟨"PatchHallModel", "refuse", "(I)I"⟩, 18) := ⟨⟨by decide +kernel, by decide +kernel⟩, List.mem_of_getElem? (i := 565) (by decide +kernel), List.mem_of_getElem? (i := 638) (by decide +kernel), List.mem_of_getElem? (i := 639) (by decide +kernel)⟩
theorem lw_p31 : lw_okq (⟨"PatchHallModel", "done", "([IIJ)I"⟩, 18) := ⟨⟨by decide +kernel, by decide +kernel⟩, List.mem_of_getElem? (i := 565) (by decide +kernel), List.mem_of_getElem? (i := 645) (by decide +kernel), List.mem_of_getElem? (i := 646) (by decide +kernel)⟩
def lw_privs_2 : List (MethodName × Nat) := [(⟨"PatchHall", "setKnob", "(II)I"⟩, 4), (⟨"PatchHall", "playOnce", "(II)I"⟩, 4), (⟨"PatchHall$Chain", "addPartsOf", "(LPatchHall$Stock;I)V"⟩, 2), (⟨"PatchHall$Chain", "add", "(I)V"⟩, 2), (⟨"PatchHall", "playChain", "(I)I"⟩, 4), (⟨"PatchHall", "runOver", "(II)I"⟩, 4), (⟨"PatchHall", "tickOn", "(II)I"⟩, 4), (⟨"PatchHall", "restAll", "(I)I"⟩, 4), (⟨"PatchHall", "perform", "(LPatchHall$Line;)I"⟩, 4), (⟨"PatchHall", "askWhether", "(II)I"⟩, 4), (⟨"PatchHall", "takeFromRow", "(III)J"⟩, 4), (⟨"PatchHall", "takeFromOther", "(II)I"⟩, 4), (⟨"PatchHallModel", "called", "(IIIIIIJ)I"⟩, 18), (⟨"PatchHallModel", "lineMore", "(J)I"⟩, 18), (⟨"PatchHallModel", "refuse", "(I)I"⟩, 18), (⟨"PatchHallModel", "done", "([IIJ)I"⟩, 18)]
theorem lw_r2 : ∀ q ∈ lw_privs_2, lw_okq q := List.forall_mem_cons.mpr ⟨lw_p16, List.forall_mem_cons.mpr ⟨lw_p17, List.forall_mem_cons.mpr ⟨lw_p18, List.forall_mem_cons.mpr ⟨lw_p19, List.forall_mem_cons.mpr ⟨lw_p20, List.forall_mem_cons.mpr ⟨lw_p21, List.forall_mem_cons.mpr ⟨lw_p22, List.forall_mem_cons.mpr ⟨lw_p23, List.forall_mem_cons.mpr ⟨lw_p24, List.forall_mem_cons.mpr ⟨lw_p25, List.forall_mem_cons.mpr ⟨lw_p26, List.forall_mem_cons.mpr ⟨lw_p27, List.forall_mem_cons.mpr ⟨lw_p28, List.forall_mem_cons.mpr ⟨lw_p29, List.forall_mem_cons.mpr ⟨lw_p30, List.forall_mem_cons.mpr ⟨lw_p31, fun _ h => absurd h List.not_mem_nil⟩⟩⟩⟩⟩⟩⟩⟩⟩⟩⟩⟩⟩⟩⟩⟩
theorem lw_p32 : lw_okq (⟨"PatchHallModel", "makeNew", "(III)I"⟩, 18) := ⟨⟨by decide +kernel, by decide +kernel⟩, List.mem_of_getElem? (i := 565) (by decide +kernel), List.mem_of_getElem? (i := 649) (by decide +kernel), List.mem_of_getElem? (i := 650) (by decide +kernel)⟩
theorem lw_p33 : lw_okq (⟨"PatchHallModel", "isPart", "(I)Z"⟩, 18) := ⟨⟨by decide +kernel, by decide +kernel⟩, List.mem_of_getElem? (i := 565) (by decide +kernel), List.mem_of_getElem? (i := 656) (by decide +kernel), List.mem_of_getElem? (i := 657) (by decide +kernel)⟩
theorem lw_p34 : lw_okq (⟨"PatchHallModel", "isUnder", "(II)Z"⟩, 18) := ⟨⟨by decide +kernel, by decide +kernel⟩, List.mem_of_getElem? (i := 565) (by decide +kernel), List.mem_of_getElem? (i := 660) (by decide +kernel), List.mem_of_getElem? (i := 661) (by decide +kernel)⟩
theorem lw_p35 : lw_okq (⟨"PatchHallModel", "isPartUnder", "(II)Z"⟩, 18) := ⟨⟨by decide +kernel, by decide +kernel⟩, List.mem_of_getElem? (i := 565) (by decide +kernel), List.mem_of_getElem? (i := 664) (by decide +kernel), List.mem_of_getElem? (i := 665) (by decide +kernel)⟩
theorem lw_p36 : lw_okq (⟨"PatchHallModel", "memberOf", "(I)I"⟩, 18) := ⟨⟨by decide +kernel, by decide +kernel⟩, List.mem_of_getElem? (i := 565) (by decide +kernel), List.mem_of_getElem? (i := 674) (by decide +kernel), List.mem_of_getElem? (i := 675) (by decide +kernel)⟩
theorem lw_p37 : lw_okq (⟨"PatchHallModel", "layOn", "(II)I"⟩, 18) := ⟨⟨by decide +kernel, by decide +kernel⟩, List.mem_of_getElem? (i := 565) (by decide +kernel), List.mem_of_getElem? (i := 678) (by decide +kernel), List.mem_of_getElem? (i := 679) (by decide +kernel)⟩
theorem lw_p38 : lw_okq (⟨"PatchHallModel", "plugIn", "(III)I"⟩, 18) := ⟨⟨by decide +kernel, by decide +kernel⟩, List.mem_of_getElem? (i := 565) (by decide +kernel), List.mem_of_getElem? (i := 682) (by decide +kernel), List.mem_of_getElem? (i := 683) (by decide +kernel)⟩
theorem lw_p39 : lw_okq (⟨"PatchHallModel", "reasonOfPlace", "(II)I"⟩, 18) := ⟨⟨by decide +kernel, by decide +kernel⟩, List.mem_of_getElem? (i := 565) (by decide +kernel), List.mem_of_getElem? (i := 686) (by decide +kernel), List.mem_of_getElem? (i := 687) (by decide +kernel)⟩
theorem lw_p40 : lw_okq (⟨"PatchHallModel", "on", "(I)I"⟩, 18) := ⟨⟨by decide +kernel, by decide +kernel⟩, List.mem_of_getElem? (i := 565) (by decide +kernel), List.mem_of_getElem? (i := 690) (by decide +kernel), List.mem_of_getElem? (i := 691) (by decide +kernel)⟩
theorem lw_p41 : lw_okq (⟨"PatchHallModel", "kindOf", "(I)I"⟩, 18) := ⟨⟨by decide +kernel, by decide +kernel⟩, List.mem_of_getElem? (i := 565) (by decide +kernel), List.mem_of_getElem? (i := 694) (by decide +kernel), List.mem_of_getElem? (i := 695) (by decide +kernel)⟩
theorem lw_p42 : lw_okq (⟨"PatchHallModel", "hasPlace", "(II)Z"⟩, 18) := ⟨⟨by decide +kernel, by decide +kernel⟩, List.mem_of_getElem? (i := 565) (by decide +kernel), List.mem_of_getElem? (i := 701) (by decide +kernel), List.mem_of_getElem? (i := 702) (by decide +kernel)⟩
theorem lw_p43 : lw_okq (⟨"PatchHallModel", "lengthOf", "(I)I"⟩, 18) := ⟨⟨by decide +kernel, by decide +kernel⟩, List.mem_of_getElem? (i := 565) (by decide +kernel), List.mem_of_getElem? (i := 705) (by decide +kernel), List.mem_of_getElem? (i := 706) (by decide +kernel)⟩
theorem lw_p44 : lw_okq (⟨"PatchHallModel", "fits", "(IJ)Z"⟩, 18) := ⟨⟨by decide +kernel, by decide +kernel⟩, List.mem_of_getElem? (i := 565) (by decide +kernel), List.mem_of_getElem? (i := 709) (by decide +kernel), List.mem_of_getElem? (i := 710) (by decide +kernel)⟩
theorem lw_p45 : lw_okq (⟨"PatchHallModel", "thingAt", "(II)I"⟩, 18) := ⟨⟨by decide +kernel, by decide +kernel⟩, List.mem_of_getElem? (i := 565) (by decide +kernel), List.mem_of_getElem? (i := 713) (by decide +kernel), List.mem_of_getElem? (i := 714) (by decide +kernel)⟩
theorem lw_p46 : lw_okq (⟨"PatchHallModel", "pullOut", "(III)I"⟩, 18) := ⟨⟨by decide +kernel, by decide +kernel⟩, List.mem_of_getElem? (i := 565) (by decide +kernel), List.mem_of_getElem? (i := 717) (by decide +kernel), List.mem_of_getElem? (i := 718) (by decide +kernel)⟩
theorem lw_p47 : lw_okq (⟨"PatchHallModel", "copyOver", "(IIIII)I"⟩, 18) := ⟨⟨by decide +kernel, by decide +kernel⟩, List.mem_of_getElem? (i := 565) (by decide +kernel), List.mem_of_getElem? (i := 721) (by decide +kernel), List.mem_of_getElem? (i := 722) (by decide +kernel)⟩
def lw_privs_3 : List (MethodName × Nat) := [(⟨"PatchHallModel", "makeNew", "(III)I"⟩, 18), (⟨"PatchHallModel", "isPart", "(I)Z"⟩, 18), (⟨"PatchHallModel", "isUnder", "(II)Z"⟩, 18), (⟨"PatchHallModel", "isPartUnder", "(II)Z"⟩, 18), (⟨"PatchHallModel", "memberOf", "(I)I"⟩, 18), (⟨"PatchHallModel", "layOn", "(II)I"⟩, 18), (⟨"PatchHallModel", "plugIn", "(III)I"⟩, 18), (⟨"PatchHallModel", "reasonOfPlace", "(II)I"⟩, 18), (⟨"PatchHallModel", "on", "(I)I"⟩, 18), (⟨"PatchHallModel", "kindOf", "(I)I"⟩, 18), (⟨"PatchHallModel", "hasPlace", "(II)Z"⟩, 18), (⟨"PatchHallModel", "lengthOf", "(I)I"⟩, 18), (⟨"PatchHallModel", "fits", "(IJ)Z"⟩, 18), (⟨"PatchHallModel", "thingAt", "(II)I"⟩, 18), (⟨"PatchHallModel", "pullOut", "(III)I"⟩, 18), (⟨"PatchHallModel", "copyOver", "(IIIII)I"⟩, 18)]
theorem lw_r3 : ∀ q ∈ lw_privs_3, lw_okq q := List.forall_mem_cons.mpr ⟨lw_p32, List.forall_mem_cons.mpr ⟨lw_p33, List.forall_mem_cons.mpr ⟨lw_p34, List.forall_mem_cons.mpr ⟨lw_p35, List.forall_mem_cons.mpr ⟨lw_p36, List.forall_mem_cons.mpr ⟨lw_p37, List.forall_mem_cons.mpr ⟨lw_p38, List.forall_mem_cons.mpr ⟨lw_p39, List.forall_mem_cons.mpr ⟨lw_p40, List.forall_mem_cons.mpr ⟨lw_p41, List.forall_mem_cons.mpr ⟨lw_p42, List.forall_mem_cons.mpr ⟨lw_p43, List.forall_mem_cons.mpr ⟨lw_p44, List.forall_mem_cons.mpr ⟨lw_p45, List.forall_mem_cons.mpr ⟨lw_p46, List.forall_mem_cons.mpr ⟨lw_p47, fun _ h => absurd h List.not_mem_nil⟩⟩⟩⟩⟩⟩⟩⟩⟩⟩⟩⟩⟩⟩⟩⟩
theorem lw_p48 : lw_okq (⟨"PatchHallModel", "reasonOfCopy", "(IIIII)I"⟩, 18) := ⟨⟨by decide +kernel, by decide +kernel⟩, List.mem_of_getElem? (i := 565) (by decide +kernel), List.mem_of_getElem? (i := 725) (by decide +kernel), List.mem_of_getElem? (i := 726) (by decide +kernel)⟩
theorem lw_p49 : lw_okq (⟨"PatchHallModel", "writeIn", "(IIJ)I"⟩, 18) := ⟨⟨by decide +kernel, by decide +kernel⟩, List.mem_of_getElem? (i := 565) (by decide +kernel), List.mem_of_getElem? (i := 732) (by decide +kernel), List.mem_of_getElem? (i := 733) (by decide +kernel)⟩
theorem lw_p50 : lw_okq (⟨"PatchHallModel", "knobTo", "(II)I"⟩, 18) := ⟨⟨by decide +kernel, by decide +kernel⟩, List.mem_of_getElem? (i := 565) (by decide +kernel), List.mem_of_getElem? (i := 736) (by decide +kernel), List.mem_of_getElem? (i := 737) (by decide +kernel)⟩
theorem lw_p51 : lw_okq (⟨"PatchHallModel", "playBy", "(II)I"⟩, 18) := ⟨⟨by decide +kernel, by decide +kernel⟩, List.mem_of_getElem? (i := 565) (by decide +kernel), List.mem_of_getElem? (i := 740) (by decide +kernel), List.mem_of_getElem? (i := 741) (by decide +kernel)⟩
theorem lw_p52 : lw_okq (⟨"PatchHallModel", "reasonOfPlay", "(I)I"⟩, 18) := ⟨⟨by decide +kernel, by decide +kernel⟩, List.mem_of_getElem? (i := 565) (by decide +kernel), List.mem_of_getElem? (i := 744) (by decide +kernel), List.mem_of_getElem? (i := 745) (by decide +kernel)⟩
theorem lw_p53 : lw_okq (⟨"PatchHallModel", "isPlayed", "(I)Z"⟩, 18) := ⟨⟨by decide +kernel, by decide +kernel⟩, List.mem_of_getElem? (i := 565) (by decide +kernel), List.mem_of_getElem? (i := 748) (by decide +kernel), List.mem_of_getElem? (i := 749) (by decide +kernel)⟩
theorem lw_p54 : lw_okq (⟨"PatchHallModel", "playThing", "(II)I"⟩, 18) := ⟨⟨by decide +kernel, by decide +kernel⟩, List.mem_of_getElem? (i := 565) (by decide +kernel), List.mem_of_getElem? (i := 752) (by decide +kernel), List.mem_of_getElem? (i := 753) (by decide +kernel)⟩
theorem lw_p55 : lw_okq (⟨"PatchHallModel", "turn", "(II)I"⟩, 18) := ⟨⟨by decide +kernel, by decide +kernel⟩, List.mem_of_getElem? (i := 565) (by decide +kernel), List.mem_of_getElem? (i := 756) (by decide +kernel), List.mem_of_getElem? (i := 757) (by decide +kernel)⟩
theorem lw_p56 : lw_okq (⟨"PatchHallModel", "clipped", "(II)I"⟩, 18) := ⟨⟨by decide +kernel, by decide +kernel⟩, List.mem_of_getElem? (i := 565) (by decide +kernel), List.mem_of_getElem? (i := 760) (by decide +kernel), List.mem_of_getElem? (i := 761) (by decide +kernel)⟩
theorem lw_p57 : lw_okq (⟨"PatchHallModel", "playRow", "(II)I"⟩, 18) := ⟨⟨by decide +kernel, by decide +kernel⟩, List.mem_of_getElem? (i := 565) (by decide +kernel), List.mem_of_getElem? (i := 767) (by decide +kernel), List.mem_of_getElem? (i := 768) (by decide +kernel)⟩
theorem lw_p58 : lw_okq (⟨"PatchHallModel", "runOver", "(II)I"⟩, 18) := ⟨⟨by decide +kernel, by decide +kernel⟩, List.mem_of_getElem? (i := 565) (by decide +kernel), List.mem_of_getElem? (i := 771) (by decide +kernel), List.mem_of_getElem? (i := 772) (by decide +kernel)⟩
theorem lw_p59 : lw_okq (⟨"PatchHallModel", "ticksBy", "(II)I"⟩, 18) := ⟨⟨by decide +kernel, by decide +kernel⟩, List.mem_of_getElem? (i := 565) (by decide +kernel), List.mem_of_getElem? (i := 775) (by decide +kernel), List.mem_of_getElem? (i := 776) (by decide +kernel)⟩
theorem lw_p60 : lw_okq (⟨"PatchHallModel", "ticksOf", "(II)I"⟩, 18) := ⟨⟨by decide +kernel, by decide +kernel⟩, List.mem_of_getElem? (i := 565) (by decide +kernel), List.mem_of_getElem? (i := 779) (by decide +kernel), List.mem_of_getElem? (i := 780) (by decide +kernel)⟩
theorem lw_p61 : lw_okq (⟨"PatchHallModel", "restOf", "(I)I"⟩, 18) := ⟨⟨by decide +kernel, by decide +kernel⟩, List.mem_of_getElem? (i := 565) (by decide +kernel), List.mem_of_getElem? (i := 783) (by decide +kernel), List.mem_of_getElem? (i := 784) (by decide +kernel)⟩
theorem lw_p62 : lw_okq (⟨"PatchHallModel", "calm", "(I)V"⟩, 18) := ⟨⟨by decide +kernel, by decide +kernel⟩, List.mem_of_getElem? (i := 565) (by decide +kernel), List.mem_of_getElem? (i := 787) (by decide +kernel), List.mem_of_getElem? (i := 788) (by decide +kernel)⟩
theorem lw_p63 : lw_okq (⟨"PatchHallModel", "calmRow", "(I)I"⟩, 18) := ⟨⟨by decide +kernel, by decide +kernel⟩, List.mem_of_getElem? (i := 565) (by decide +kernel), List.mem_of_getElem? (i := 791) (by decide +kernel), List.mem_of_getElem? (i := 792) (by decide +kernel)⟩
def lw_privs_4 : List (MethodName × Nat) := [(⟨"PatchHallModel", "reasonOfCopy", "(IIIII)I"⟩, 18), (⟨"PatchHallModel", "writeIn", "(IIJ)I"⟩, 18), (⟨"PatchHallModel", "knobTo", "(II)I"⟩, 18), (⟨"PatchHallModel", "playBy", "(II)I"⟩, 18), (⟨"PatchHallModel", "reasonOfPlay", "(I)I"⟩, 18), (⟨"PatchHallModel", "isPlayed", "(I)Z"⟩, 18), (⟨"PatchHallModel", "playThing", "(II)I"⟩, 18), (⟨"PatchHallModel", "turn", "(II)I"⟩, 18), (⟨"PatchHallModel", "clipped", "(II)I"⟩, 18), (⟨"PatchHallModel", "playRow", "(II)I"⟩, 18), (⟨"PatchHallModel", "runOver", "(II)I"⟩, 18), (⟨"PatchHallModel", "ticksBy", "(II)I"⟩, 18), (⟨"PatchHallModel", "ticksOf", "(II)I"⟩, 18), (⟨"PatchHallModel", "restOf", "(I)I"⟩, 18), (⟨"PatchHallModel", "calm", "(I)V"⟩, 18), (⟨"PatchHallModel", "calmRow", "(I)I"⟩, 18)]
theorem lw_r4 : ∀ q ∈ lw_privs_4, lw_okq q := List.forall_mem_cons.mpr ⟨lw_p48, List.forall_mem_cons.mpr ⟨lw_p49, List.forall_mem_cons.mpr ⟨lw_p50, List.forall_mem_cons.mpr ⟨lw_p51, List.forall_mem_cons.mpr ⟨lw_p52, List.forall_mem_cons.mpr ⟨lw_p53, List.forall_mem_cons.mpr ⟨lw_p54, List.forall_mem_cons.mpr ⟨lw_p55, List.forall_mem_cons.mpr ⟨lw_p56, List.forall_mem_cons.mpr ⟨lw_p57, List.forall_mem_cons.mpr ⟨lw_p58, List.forall_mem_cons.mpr ⟨lw_p59, List.forall_mem_cons.mpr ⟨lw_p60, List.forall_mem_cons.mpr ⟨lw_p61, List.forall_mem_cons.mpr ⟨lw_p62, List.forall_mem_cons.mpr ⟨lw_p63, fun _ h => absurd h List.not_mem_nil⟩⟩⟩⟩⟩⟩⟩⟩⟩⟩⟩⟩⟩⟩⟩⟩
theorem lw_p64 : lw_okq (⟨"PatchHallModel", "whenUnder", "(II)I"⟩, 18) := ⟨⟨by decide +kernel, by decide +kernel⟩, List.mem_of_getElem? (i := 565) (by decide +kernel), List.mem_of_getElem? (i := 795) (by decide +kernel), List.mem_of_getElem? (i := 796) (by decide +kernel)⟩
theorem lw_p65 : lw_okq (⟨"PatchHallModel", "keepAct", "(J)V"⟩, 18) := ⟨⟨by decide +kernel, by decide +kernel⟩, List.mem_of_getElem? (i := 565) (by decide +kernel), List.mem_of_getElem? (i := 799) (by decide +kernel), List.mem_of_getElem? (i := 800) (by decide +kernel)⟩
theorem lw_p66 : lw_okq (⟨"PatchHallModel", "keepState", "()V"⟩, 18) := ⟨⟨by decide +kernel, by decide +kernel⟩, List.mem_of_getElem? (i := 565) (by decide +kernel), List.mem_of_getElem? (i := 859) (by decide +kernel), List.mem_of_getElem? (i := 860) (by decide +kernel)⟩
theorem lw_p67 : lw_okq (⟨"PatchHallModel", "carried", "(III)I"⟩, 18) := ⟨⟨by decide +kernel, by decide +kernel⟩, List.mem_of_getElem? (i := 565) (by decide +kernel), List.mem_of_getElem? (i := 863) (by decide +kernel), List.mem_of_getElem? (i := 864) (by decide +kernel)⟩
theorem lw_p68 : lw_okq (⟨"PatchHallModel", "putBack", "()V"⟩, 18) := ⟨⟨by decide +kernel, by decide +kernel⟩, List.mem_of_getElem? (i := 565) (by decide +kernel), List.mem_of_getElem? (i := 867) (by decide +kernel), List.mem_of_getElem? (i := 868) (by decide +kernel)⟩
theorem lw_p69 : lw_okq (⟨"PatchHallModel", "toldAs", "(III)J"⟩, 18) := ⟨⟨by decide +kernel, by decide +kernel⟩, List.mem_of_getElem? (i := 565) (by decide +kernel), List.mem_of_getElem? (i := 887) (by decide +kernel), List.mem_of_getElem? (i := 888) (by decide +kernel)⟩
theorem lw_p70 : lw_okq (⟨"PatchHallModel", "load", "(I)I"⟩, 18) := ⟨⟨by decide +kernel, by decide +kernel⟩, List.mem_of_getElem? (i := 565) (by decide +kernel), List.mem_of_getElem? (i := 891) (by decide +kernel), List.mem_of_getElem? (i := 892) (by decide +kernel)⟩
def lw_privs_5 : List (MethodName × Nat) := [(⟨"PatchHallModel", "whenUnder", "(II)I"⟩, 18), (⟨"PatchHallModel", "keepAct", "(J)V"⟩, 18), (⟨"PatchHallModel", "keepState", "()V"⟩, 18), (⟨"PatchHallModel", "carried", "(III)I"⟩, 18), (⟨"PatchHallModel", "putBack", "()V"⟩, 18), (⟨"PatchHallModel", "toldAs", "(III)J"⟩, 18), (⟨"PatchHallModel", "load", "(I)I"⟩, 18)]
theorem lw_r5 : ∀ q ∈ lw_privs_5, lw_okq q := List.forall_mem_cons.mpr ⟨lw_p64, List.forall_mem_cons.mpr ⟨lw_p65, List.forall_mem_cons.mpr ⟨lw_p66, List.forall_mem_cons.mpr ⟨lw_p67, List.forall_mem_cons.mpr ⟨lw_p68, List.forall_mem_cons.mpr ⟨lw_p69, List.forall_mem_cons.mpr ⟨lw_p70, fun _ h => absurd h List.not_mem_nil⟩⟩⟩⟩⟩⟩⟩
def lw_privs : List (MethodName × Nat) := lw_privs_1 ++ (lw_privs_2 ++ (lw_privs_3 ++ (lw_privs_4 ++ (lw_privs_5))))
def lw_tbl : List Cond := k2_sels lw_privs ++ tables_1
theorem lw_privs_ok : ∀ q ∈ lw_privs, lw_okq q := by
  show ∀ q ∈ lw_privs_1 ++ (lw_privs_2 ++ (lw_privs_3 ++ (lw_privs_4 ++ (lw_privs_5)))), lw_okq q
  exact List.forall_mem_append.mpr ⟨lw_r1, List.forall_mem_append.mpr ⟨lw_r2, List.forall_mem_append.mpr ⟨lw_r3, List.forall_mem_append.mpr ⟨lw_r4, lw_r5⟩⟩⟩⟩
end
section
def RX0 : String := "PatchHall$Chain"
def TX0 : u_T := fun k => match k with
  | 0 => ("PatchHall$Chain", "parts", "[I", true)
  | _ => ("PatchHall$Chain", "length", "I", false)
def tyX0 : Nat → FieldType := fun k => match k with
  | 0 => .array .int
  | _ => .int
abbrev wsX00 : List Cond := u_ws RX0 TX0 2
theorem nmX0 : ∀ a, a < 2 → ∀ b, b < 2 → a ≠ b → (TX0 a).2.1 ≠ (TX0 b).2.1 := by decide +kernel
theorem tyX0_ok : ∀ k, k < 2 → parseFieldDescriptor (TX0 k).2.2.1 = some (tyX0 k) := by decide +kernel
abbrev cX0_init : ByteArray := prog_2_method_1_code
def yX0_init : MethodName := ⟨RX0, "<init>", "()V"⟩
abbrev cX0_partAt : ByteArray := prog_2_method_2_code
def yX0_partAt : MethodName := ⟨RX0, "partAt", "(I)I"⟩
abbrev cX0_lineUp : ByteArray := prog_2_method_3_code
def yX0_lineUp : MethodName := ⟨RX0, "lineUp", "(LPatchHall$Stock;I)V"⟩
abbrev cX0_addPartsOf : ByteArray := prog_2_method_4_code
def yX0_addPartsOf : MethodName := ⟨RX0, "addPartsOf", "(LPatchHall$Stock;I)V"⟩
abbrev cX0_add : ByteArray := prog_2_method_5_code
def yX0_add : MethodName := ⟨RX0, "add", "(I)V"⟩
def RX1 : String := "PatchHall$Change"
def TX1 : u_T := fun k => match k with
  | 0 => ("PatchHall$Change", "length", "I", true)
  | 1 => ("PatchHall$Change", "cells", "[I", true)
  | 2 => ("PatchHall$Change", "before", "[J", true)
  | _ => ("PatchHall$Change", "earlier", "LPatchHall$Change;", true)
def tyX1 : Nat → FieldType := fun k => match k with
  | 0 => .int
  | 1 => .array .int
  | 2 => .array .long
  | _ => .object "PatchHall$Change"
abbrev wsX10 : List Cond := u_ws RX1 TX1 4
theorem nmX1 : ∀ a, a < 4 → ∀ b, b < 4 → a ≠ b → (TX1 a).2.1 ≠ (TX1 b).2.1 := by decide +kernel
theorem tyX1_ok : ∀ k, k < 4 → parseFieldDescriptor (TX1 k).2.2.1 = some (tyX1 k) := by decide +kernel
abbrev cX1_init : ByteArray := prog_3_method_1_code
def yX1_init : MethodName := ⟨RX1, "<init>", "(ILPatchHall$Change;)V"⟩
def RX2 : String := "PatchHall$Kinds"
def TX2 : u_T := fun k => match k with
  | _ => ("", "", "", false)
def tyX2 : Nat → FieldType := fun k => match k with
  | _ => .int
abbrev wsX20 : List Cond := u_ws RX2 TX2 0
theorem nmX2 : ∀ a, a < 0 → ∀ b, b < 0 → a ≠ b → (TX2 a).2.1 ≠ (TX2 b).2.1 := by decide +kernel
theorem tyX2_ok : ∀ k, k < 0 → parseFieldDescriptor (TX2 k).2.2.1 = some (tyX2 k) := by decide +kernel
abbrev cX2_isKind : ByteArray := prog_4_method_2_code
def yX2_isKind : MethodName := ⟨RX2, "isKind", "(I)Z"⟩
abbrev cX2_isMade : ByteArray := prog_4_method_3_code
def yX2_isMade : MethodName := ⟨RX2, "isMade", "(I)Z"⟩
abbrev cX2_isUnderAny : ByteArray := prog_4_method_4_code
def yX2_isUnderAny : MethodName := ⟨RX2, "isUnderAny", "(II)Z"⟩
abbrev cX2_fittingIn : ByteArray := prog_4_method_5_code
def yX2_fittingIn : MethodName := ⟨RX2, "fittingIn", "(I)I"⟩
abbrev cX2_isCopied : ByteArray := prog_4_method_6_code
def yX2_isCopied : MethodName := ⟨RX2, "isCopied", "(II)Z"⟩
abbrev cX2_asHeldIn : ByteArray := prog_4_method_7_code
def yX2_asHeldIn : MethodName := ⟨RX2, "asHeldIn", "(IJ)J"⟩
def RX3 : String := "PatchHall$Line"
def TX3 : u_T := fun k => match k with
  | 0 => ("PatchHall$Line", "call", "I", true)
  | 1 => ("PatchHall$Line", "a", "I", true)
  | 2 => ("PatchHall$Line", "b", "I", true)
  | 3 => ("PatchHall$Line", "c", "J", true)
  | 4 => ("PatchHall$Line", "d", "I", true)
  | _ => ("PatchHall$Line", "e", "I", true)
def tyX3 : Nat → FieldType := fun k => match k with
  | 0 => .int
  | 1 => .int
  | 2 => .int
  | 3 => .long
  | 4 => .int
  | _ => .int
abbrev wsX30 : List Cond := u_ws RX3 TX3 6
theorem nmX3 : ∀ a, a < 6 → ∀ b, b < 6 → a ≠ b → (TX3 a).2.1 ≠ (TX3 b).2.1 := by decide +kernel
theorem tyX3_ok : ∀ k, k < 6 → parseFieldDescriptor (TX3 k).2.2.1 = some (tyX3 k) := by decide +kernel
abbrev cX3_init : ByteArray := prog_5_method_1_code
def yX3_init : MethodName := ⟨RX3, "<init>", "(IIIJII)V"⟩
def RX4 : String := "PatchHall$Rules"
def TX4 : u_T := fun k => match k with
  | _ => ("", "", "", false)
def tyX4 : Nat → FieldType := fun k => match k with
  | _ => .int
abbrev wsX40 : List Cond := u_ws RX4 TX4 0
theorem nmX4 : ∀ a, a < 0 → ∀ b, b < 0 → a ≠ b → (TX4 a).2.1 ≠ (TX4 b).2.1 := by decide +kernel
theorem tyX4_ok : ∀ k, k < 0 → parseFieldDescriptor (TX4 k).2.2.1 = some (tyX4 k) := by decide +kernel
abbrev cX4_turn : ByteArray := prog_6_method_2_code
def yX4_turn : MethodName := ⟨RX4, "turn", "(LPatchHall$Stock;II)I"⟩
abbrev cX4_clip : ByteArray := prog_6_method_3_code
def yX4_clip : MethodName := ⟨RX4, "clip", "(LPatchHall$Stock;II)I"⟩
abbrev cX4_bend : ByteArray := prog_6_method_4_code
def yX4_bend : MethodName := ⟨RX4, "bend", "(LPatchHall$Stock;III)I"⟩
abbrev cX4_echo : ByteArray := prog_6_method_5_code
def yX4_echo : MethodName := ⟨RX4, "echo", "(LPatchHall$Stock;II)I"⟩
abbrev cX4_resound : ByteArray := prog_6_method_6_code
def yX4_resound : MethodName := ⟨RX4, "resound", "(LPatchHall$Stock;II)I"⟩
abbrev cX4_countIn : ByteArray := prog_6_method_7_code
def yX4_countIn : MethodName := ⟨RX4, "countIn", "(LPatchHall$Stock;II)I"⟩
abbrev cX4_load : ByteArray := prog_6_method_8_code
def yX4_load : MethodName := ⟨RX4, "load", "(LPatchHall$Stock;I)I"⟩
abbrev cX4_putToRest : ByteArray := prog_6_method_9_code
def yX4_putToRest : MethodName := ⟨RX4, "putToRest", "(LPatchHall$Stock;I)V"⟩
abbrev cX4_ticksBy : ByteArray := prog_6_method_10_code
def yX4_ticksBy : MethodName := ⟨RX4, "ticksBy", "(LPatchHall$Stock;II)I"⟩
abbrev cX4_tick : ByteArray := prog_6_method_11_code
def yX4_tick : MethodName := ⟨RX4, "tick", "(LPatchHall$Stock;II)I"⟩
def RX5 : String := "PatchHall$Sheet"
def TX5 : u_T := fun k => match k with
  | 0 => ("PatchHall$Sheet", "lines", "[LPatchHall$Line;", true)
  | 1 => ("PatchHall$Sheet", "length", "I", false)
  | _ => ("PatchHall$Sheet", "recording", "Z", false)
def tyX5 : Nat → FieldType := fun k => match k with
  | 0 => .array (.object "PatchHall$Line")
  | 1 => .int
  | _ => .boolean
abbrev wsX50 : List Cond := u_ws RX5 TX5 3
theorem nmX5 : ∀ a, a < 3 → ∀ b, b < 3 → a ≠ b → (TX5 a).2.1 ≠ (TX5 b).2.1 := by decide +kernel
theorem tyX5_ok : ∀ k, k < 3 → parseFieldDescriptor (TX5 k).2.2.1 = some (tyX5 k) := by decide +kernel
abbrev cX5_init : ByteArray := prog_7_method_1_code
def yX5_init : MethodName := ⟨RX5, "<init>", "()V"⟩
abbrev cX5_startAnew : ByteArray := prog_7_method_2_code
def yX5_startAnew : MethodName := ⟨RX5, "startAnew", "()V"⟩
abbrev cX5_isFull : ByteArray := prog_7_method_3_code
def yX5_isFull : MethodName := ⟨RX5, "isFull", "()Z"⟩
abbrev cX5_add : ByteArray := prog_7_method_4_code
def yX5_add : MethodName := ⟨RX5, "add", "(LPatchHall$Line;)I"⟩
abbrev cX5_lineNumbered : ByteArray := prog_7_method_5_code
def yX5_lineNumbered : MethodName := ⟨RX5, "lineNumbered", "(I)LPatchHall$Line;"⟩
def RX6 : String := "PatchHall$Stock"
def TX6 : u_T := fun k => match k with
  | 0 => ("PatchHall$Stock", "cells", "[J", true)
  | 1 => ("PatchHall$Stock", "settled", "[J", true)
  | 2 => ("PatchHall$Stock", "latest", "LPatchHall$Change;", false)
  | _ => ("PatchHall$Stock", "actsKept", "I", false)
def tyX6 : Nat → FieldType := fun k => match k with
  | 0 => .array .long
  | 1 => .array .long
  | 2 => .object "PatchHall$Change"
  | _ => .int
abbrev wsX60 : List Cond := u_ws RX6 TX6 4
theorem nmX6 : ∀ a, a < 4 → ∀ b, b < 4 → a ≠ b → (TX6 a).2.1 ≠ (TX6 b).2.1 := by decide +kernel
theorem tyX6_ok : ∀ k, k < 4 → parseFieldDescriptor (TX6 k).2.2.1 = some (tyX6 k) := by decide +kernel
abbrev cX6_init : ByteArray := prog_8_method_1_code
def yX6_init : MethodName := ⟨RX6, "<init>", "()V"⟩
abbrev cX6_onShelf : ByteArray := prog_8_method_2_code
def yX6_onShelf : MethodName := ⟨RX6, "onShelf", "(I)I"⟩
abbrev cX6_setShelf : ByteArray := prog_8_method_3_code
def yX6_setShelf : MethodName := ⟨RX6, "setShelf", "(II)V"⟩
abbrev cX6_thingsMade : ByteArray := prog_8_method_4_code
def yX6_thingsMade : MethodName := ⟨RX6, "thingsMade", "()I"⟩
abbrev cX6_add : ByteArray := prog_8_method_5_code
def yX6_add : MethodName := ⟨RX6, "add", "(II)I"⟩
abbrev cX6_trait : ByteArray := prog_8_method_6_code
def yX6_trait : MethodName := ⟨RX6, "trait", "(II)I"⟩
abbrev cX6_setTrait : ByteArray := prog_8_method_7_code
def yX6_setTrait : MethodName := ⟨RX6, "setTrait", "(III)V"⟩
abbrev cX6_grow : ByteArray := prog_8_method_8_code
def yX6_grow : MethodName := ⟨RX6, "grow", "(III)V"⟩
abbrev cX6_isIn : ByteArray := prog_8_method_9_code
def yX6_isIn : MethodName := ⟨RX6, "isIn", "(II)Z"⟩
abbrev cX6_places : ByteArray := prog_8_method_10_code
def yX6_places : MethodName := ⟨RX6, "places", "(I)I"⟩
abbrev cX6_hasPlace : ByteArray := prog_8_method_11_code
def yX6_hasPlace : MethodName := ⟨RX6, "hasPlace", "(II)Z"⟩
abbrev cX6_hasPlaces : ByteArray := prog_8_method_12_code
def yX6_hasPlaces : MethodName := ⟨RX6, "hasPlaces", "(III)Z"⟩
abbrev cX6_placeCell : ByteArray := prog_8_method_13_code
def yX6_placeCell : MethodName := ⟨RX6, "placeCell", "(II)I"⟩
abbrev cX6_atPlace : ByteArray := prog_8_method_14_code
def yX6_atPlace : MethodName := ⟨RX6, "atPlace", "(II)J"⟩
abbrev cX6_setPlace : ByteArray := prog_8_method_15_code
def yX6_setPlace : MethodName := ⟨RX6, "setPlace", "(IIJ)V"⟩
abbrev cX6_fits : ByteArray := prog_8_method_16_code
def yX6_fits : MethodName := ⟨RX6, "fits", "(II)Z"⟩
abbrev cX6_howManyFit : ByteArray := prog_8_method_17_code
def yX6_howManyFit : MethodName := ⟨RX6, "howManyFit", "(IIII)I"⟩
abbrev cX6_movePlaces : ByteArray := prog_8_method_18_code
def yX6_movePlaces : MethodName := ⟨RX6, "movePlaces", "(IIIII)V"⟩
abbrev cX6_isHistoryFull : ByteArray := prog_8_method_19_code
def yX6_isHistoryFull : MethodName := ⟨RX6, "isHistoryFull", "()Z"⟩
abbrev cX6_cellsInUse : ByteArray := prog_8_method_20_code
def yX6_cellsInUse : MethodName := ⟨RX6, "cellsInUse", "()I"⟩
abbrev cX6_countChanges : ByteArray := prog_8_method_21_code
def yX6_countChanges : MethodName := ⟨RX6, "countChanges", "(I)I"⟩
abbrev cX6_keepAct : ByteArray := prog_8_method_22_code
def yX6_keepAct : MethodName := ⟨RX6, "keepAct", "()V"⟩
abbrev cX6_dropChanges : ByteArray := prog_8_method_23_code
def yX6_dropChanges : MethodName := ⟨RX6, "dropChanges", "()V"⟩
abbrev cX6_takeBackAct : ByteArray := prog_8_method_24_code
def yX6_takeBackAct : MethodName := ⟨RX6, "takeBackAct", "()V"⟩
def RX7 : String := "PatchHall"
def TX7 : u_T := fun k => match k with
  | 0 => ("PatchHall", "stock", "LPatchHall$Stock;", true)
  | 1 => ("PatchHall", "chain", "LPatchHall$Chain;", true)
  | 2 => ("PatchHall", "sheet", "LPatchHall$Sheet;", true)
  | _ => ("PatchHall", "reason", "I", false)
def tyX7 : Nat → FieldType := fun k => match k with
  | 0 => .object "PatchHall$Stock"
  | 1 => .object "PatchHall$Chain"
  | 2 => .object "PatchHall$Sheet"
  | _ => .int
abbrev wsX70 : List Cond := u_ws RX7 TX7 4
theorem nmX7 : ∀ a, a < 4 → ∀ b, b < 4 → a ≠ b → (TX7 a).2.1 ≠ (TX7 b).2.1 := by decide +kernel
theorem tyX7_ok : ∀ k, k < 4 → parseFieldDescriptor (TX7 k).2.2.1 = some (tyX7 k) := by decide +kernel
abbrev cX7_init : ByteArray := prog_1_method_1_code
def yX7_init : MethodName := ⟨RX7, "<init>", "()V"⟩
abbrev cX7_make : ByteArray := prog_1_method_2_code
def yX7_make : MethodName := ⟨RX7, "make", "(III)I"⟩
abbrev cX7_lay : ByteArray := prog_1_method_3_code
def yX7_lay : MethodName := ⟨RX7, "lay", "(II)I"⟩
abbrev cX7_plug : ByteArray := prog_1_method_4_code
def yX7_plug : MethodName := ⟨RX7, "plug", "(III)I"⟩
abbrev cX7_pull : ByteArray := prog_1_method_5_code
def yX7_pull : MethodName := ⟨RX7, "pull", "(III)I"⟩
abbrev cX7_copy : ByteArray := prog_1_method_6_code
def yX7_copy : MethodName := ⟨RX7, "copy", "(IIIII)I"⟩
abbrev cX7_write : ByteArray := prog_1_method_7_code
def yX7_write : MethodName := ⟨RX7, "write", "(IIJ)I"⟩
abbrev cX7_knob : ByteArray := prog_1_method_8_code
def yX7_knob : MethodName := ⟨RX7, "knob", "(II)I"⟩
abbrev cX7_play : ByteArray := prog_1_method_9_code
def yX7_play : MethodName := ⟨RX7, "play", "(II)I"⟩
abbrev cX7_run : ByteArray := prog_1_method_10_code
def yX7_run : MethodName := ⟨RX7, "run", "(II)I"⟩
abbrev cX7_ticks : ByteArray := prog_1_method_11_code
def yX7_ticks : MethodName := ⟨RX7, "ticks", "(II)I"⟩
abbrev cX7_rest : ByteArray := prog_1_method_12_code
def yX7_rest : MethodName := ⟨RX7, "rest", "(I)I"⟩
abbrev cX7_when : ByteArray := prog_1_method_13_code
def yX7_when : MethodName := ⟨RX7, "when", "(II)I"⟩
abbrev cX7_begin : ByteArray := prog_1_method_14_code
def yX7_begin : MethodName := ⟨RX7, "begin", "()I"⟩
abbrev cX7_end : ByteArray := prog_1_method_15_code
def yX7_end : MethodName := ⟨RX7, "end", "()I"⟩
abbrev cX7_carry : ByteArray := prog_1_method_16_code
def yX7_carry : MethodName := ⟨RX7, "carry", "(I)I"⟩
abbrev cX7_undo : ByteArray := prog_1_method_17_code
def yX7_undo : MethodName := ⟨RX7, "undo", "()I"⟩
abbrev cX7_acts : ByteArray := prog_1_method_18_code
def yX7_acts : MethodName := ⟨RX7, "acts", "()I"⟩
abbrev cX7_ask : ByteArray := prog_1_method_19_code
def yX7_ask : MethodName := ⟨RX7, "ask", "(II)I"⟩
abbrev cX7_take : ByteArray := prog_1_method_20_code
def yX7_take : MethodName := ⟨RX7, "take", "(III)J"⟩
abbrev cX7_size : ByteArray := prog_1_method_21_code
def yX7_size : MethodName := ⟨RX7, "size", "(I)I"⟩
abbrev cX7_read : ByteArray := prog_1_method_22_code
def yX7_read : MethodName := ⟨RX7, "read", "(II)J"⟩
abbrev cX7_at : ByteArray := prog_1_method_23_code
def yX7_at : MethodName := ⟨RX7, "at", "(III)I"⟩
abbrev cX7_tell : ByteArray := prog_1_method_24_code
def yX7_tell : MethodName := ⟨RX7, "tell", "(II)I"⟩
abbrev cX7_why : ByteArray := prog_1_method_25_code
def yX7_why : MethodName := ⟨RX7, "why", "()I"⟩
abbrev cX7_refuse : ByteArray := prog_1_method_26_code
def yX7_refuse : MethodName := ⟨RX7, "refuse", "(I)I"⟩
abbrev cX7_isShelf : ByteArray := prog_1_method_27_code
def yX7_isShelf : MethodName := ⟨RX7, "isShelf", "(I)Z"⟩
abbrev cX7_holdsNone : ByteArray := prog_1_method_28_code
def yX7_holdsNone : MethodName := ⟨RX7, "holdsNone", "(II)Z"⟩
abbrev cX7_hasNoPlace : ByteArray := prog_1_method_29_code
def yX7_hasNoPlace : MethodName := ⟨RX7, "hasNoPlace", "(III)Z"⟩
abbrev cX7_isEitherEmpty : ByteArray := prog_1_method_30_code
def yX7_isEitherEmpty : MethodName := ⟨RX7, "isEitherEmpty", "(II)Z"⟩
abbrev cX7_keepIfDone : ByteArray := prog_1_method_31_code
def yX7_keepIfDone : MethodName := ⟨RX7, "keepIfDone", "(I)I"⟩
abbrev cX7_keep : ByteArray := prog_1_method_32_code
def yX7_keep : MethodName := ⟨RX7, "keep", "(I)I"⟩
abbrev cX7_noteDown : ByteArray := prog_1_method_33_code
def yX7_noteDown : MethodName := ⟨RX7, "noteDown", "(LPatchHall$Line;)I"⟩
abbrev cX7_isWhen : ByteArray := prog_1_method_34_code
def yX7_isWhen : MethodName := ⟨RX7, "isWhen", "(LPatchHall$Line;)Z"⟩
abbrev cX7_perform : ByteArray := prog_1_method_35_code
def yX7_perform : MethodName := ⟨RX7, "perform", "(LPatchHall$Line;)I"⟩
abbrev cX7_makeThing : ByteArray := prog_1_method_36_code
def yX7_makeThing : MethodName := ⟨RX7, "makeThing", "(III)I"⟩
abbrev cX7_layOver : ByteArray := prog_1_method_37_code
def yX7_layOver : MethodName := ⟨RX7, "layOver", "(II)I"⟩
abbrev cX7_putOnShelf : ByteArray := prog_1_method_38_code
def yX7_putOnShelf : MethodName := ⟨RX7, "putOnShelf", "(II)I"⟩
abbrev cX7_plugIn : ByteArray := prog_1_method_39_code
def yX7_plugIn : MethodName := ⟨RX7, "plugIn", "(III)I"⟩
abbrev cX7_pullOut : ByteArray := prog_1_method_40_code
def yX7_pullOut : MethodName := ⟨RX7, "pullOut", "(III)I"⟩
abbrev cX7_copyPlaces : ByteArray := prog_1_method_41_code
def yX7_copyPlaces : MethodName := ⟨RX7, "copyPlaces", "(IIIII)I"⟩
abbrev cX7_writeNumber : ByteArray := prog_1_method_42_code
def yX7_writeNumber : MethodName := ⟨RX7, "writeNumber", "(IIJ)I"⟩
abbrev cX7_setKnob : ByteArray := prog_1_method_43_code
def yX7_setKnob : MethodName := ⟨RX7, "setKnob", "(II)I"⟩
abbrev cX7_playOnce : ByteArray := prog_1_method_44_code
def yX7_playOnce : MethodName := ⟨RX7, "playOnce", "(II)I"⟩
abbrev cX7_playChain : ByteArray := prog_1_method_45_code
def yX7_playChain : MethodName := ⟨RX7, "playChain", "(I)I"⟩
abbrev cX7_runOver : ByteArray := prog_1_method_46_code
def yX7_runOver : MethodName := ⟨RX7, "runOver", "(II)I"⟩
abbrev cX7_tickOn : ByteArray := prog_1_method_47_code
def yX7_tickOn : MethodName := ⟨RX7, "tickOn", "(II)I"⟩
abbrev cX7_restAll : ByteArray := prog_1_method_48_code
def yX7_restAll : MethodName := ⟨RX7, "restAll", "(I)I"⟩
abbrev cX7_askWhether : ByteArray := prog_1_method_49_code
def yX7_askWhether : MethodName := ⟨RX7, "askWhether", "(II)I"⟩
abbrev cX7_takeFromRow : ByteArray := prog_1_method_50_code
def yX7_takeFromRow : MethodName := ⟨RX7, "takeFromRow", "(III)J"⟩
abbrev cX7_takeFromOther : ByteArray := prog_1_method_51_code
def yX7_takeFromOther : MethodName := ⟨RX7, "takeFromOther", "(II)I"⟩
def RX8 : String := "PatchHallModel"
def TX8 : u_T := fun k => match k with
  | 0 => ("PatchHallModel", "above", "[I", true)
  | 1 => ("PatchHallModel", "members", "[I", true)
  | 2 => ("PatchHallModel", "state", "[I", true)
  | 3 => ("PatchHallModel", "places", "[J", true)
  | 4 => ("PatchHallModel", "stateBefore", "[I", true)
  | 5 => ("PatchHallModel", "placesBefore", "[J", true)
  | 6 => ("PatchHallModel", "acts", "[I", true)
  | 7 => ("PatchHallModel", "actLongs", "[J", true)
  | 8 => ("PatchHallModel", "actCount", "I", false)
  | 9 => ("PatchHallModel", "lines", "[I", true)
  | 10 => ("PatchHallModel", "lineLongs", "[J", true)
  | 11 => ("PatchHallModel", "lineCount", "I", false)
  | 12 => ("PatchHallModel", "sheetFrom", "I", false)
  | 13 => ("PatchHallModel", "sheetSize", "I", false)
  | 14 => ("PatchHallModel", "recording", "Z", false)
  | 15 => ("PatchHallModel", "why", "I", false)
  | 16 => ("PatchHallModel", "taken", "[J", true)
  | _ => ("PatchHallModel", "call", "[I", true)
def tyX8 : Nat → FieldType := fun k => match k with
  | 0 => .array .int
  | 1 => .array .int
  | 2 => .array .int
  | 3 => .array .long
  | 4 => .array .int
  | 5 => .array .long
  | 6 => .array .int
  | 7 => .array .long
  | 8 => .int
  | 9 => .array .int
  | 10 => .array .long
  | 11 => .int
  | 12 => .int
  | 13 => .int
  | 14 => .boolean
  | 15 => .int
  | 16 => .array .long
  | _ => .array .int
abbrev wsX80 : List Cond := u_ws RX8 TX8 18
theorem nmX8 : ∀ a, a < 18 → ∀ b, b < 18 → a ≠ b → (TX8 a).2.1 ≠ (TX8 b).2.1 := by decide +kernel
theorem tyX8_ok : ∀ k, k < 18 → parseFieldDescriptor (TX8 k).2.2.1 = some (tyX8 k) := by decide +kernel
abbrev cX8_init : ByteArray := prog_10_method_1_code
def yX8_init : MethodName := ⟨RX8, "<init>", "()V"⟩
abbrev cX8_isPartUnder : ByteArray := prog_10_method_2_code
def yX8_isPartUnder : MethodName := ⟨RX8, "isPartUnder", "(II)Z"⟩
abbrev cX8_isRowOf : ByteArray := prog_10_method_3_code
def yX8_isRowOf : MethodName := ⟨RX8, "isRowOf", "(I)Z"⟩
abbrev cX8_isBoard : ByteArray := prog_10_method_4_code
def yX8_isBoard : MethodName := ⟨RX8, "isBoard", "(I)Z"⟩
abbrev cX8_isNumberRow : ByteArray := prog_10_method_5_code
def yX8_isNumberRow : MethodName := ⟨RX8, "isNumberRow", "(I)Z"⟩
abbrev cX8_isRowOfThings : ByteArray := prog_10_method_6_code
def yX8_isRowOfThings : MethodName := ⟨RX8, "isRowOfThings", "(I)Z"⟩
abbrev cX8_memberOf : ByteArray := prog_10_method_7_code
def yX8_memberOf : MethodName := ⟨RX8, "memberOf", "(I)I"⟩
abbrev cX8_isUnder : ByteArray := prog_10_method_8_code
def yX8_isUnder : MethodName := ⟨RX8, "isUnder", "(II)Z"⟩
abbrev cX8_isPart : ByteArray := prog_10_method_9_code
def yX8_isPart : MethodName := ⟨RX8, "isPart", "(I)Z"⟩
abbrev cX8_isPlayed : ByteArray := prog_10_method_10_code
def yX8_isPlayed : MethodName := ⟨RX8, "isPlayed", "(I)Z"⟩
abbrev cX8_fits : ByteArray := prog_10_method_11_code
def yX8_fits : MethodName := ⟨RX8, "fits", "(IJ)Z"⟩
abbrev cX8_isShelf : ByteArray := prog_10_method_12_code
def yX8_isShelf : MethodName := ⟨RX8, "isShelf", "(I)Z"⟩
abbrev cX8_on : ByteArray := prog_10_method_13_code
def yX8_on : MethodName := ⟨RX8, "on", "(I)I"⟩
abbrev cX8_kindOf : ByteArray := prog_10_method_14_code
def yX8_kindOf : MethodName := ⟨RX8, "kindOf", "(I)I"⟩
abbrev cX8_lengthOf : ByteArray := prog_10_method_15_code
def yX8_lengthOf : MethodName := ⟨RX8, "lengthOf", "(I)I"⟩
abbrev cX8_hasPlace : ByteArray := prog_10_method_16_code
def yX8_hasPlace : MethodName := ⟨RX8, "hasPlace", "(II)Z"⟩
abbrev cX8_refuse : ByteArray := prog_10_method_17_code
def yX8_refuse : MethodName := ⟨RX8, "refuse", "(I)I"⟩
abbrev cX8_sizeOf : ByteArray := prog_10_method_18_code
def yX8_sizeOf : MethodName := ⟨RX8, "sizeOf", "(I)I"⟩
abbrev cX8_clipped : ByteArray := prog_10_method_19_code
def yX8_clipped : MethodName := ⟨RX8, "clipped", "(II)I"⟩
abbrev cX8_turn : ByteArray := prog_10_method_20_code
def yX8_turn : MethodName := ⟨RX8, "turn", "(II)I"⟩
abbrev cX8_load : ByteArray := prog_10_method_21_code
def yX8_load : MethodName := ⟨RX8, "load", "(I)I"⟩
abbrev cX8_calm : ByteArray := prog_10_method_22_code
def yX8_calm : MethodName := ⟨RX8, "calm", "(I)V"⟩
abbrev cX8_ticksOf : ByteArray := prog_10_method_23_code
def yX8_ticksOf : MethodName := ⟨RX8, "ticksOf", "(II)I"⟩
abbrev cX8_thingAt : ByteArray := prog_10_method_24_code
def yX8_thingAt : MethodName := ⟨RX8, "thingAt", "(II)I"⟩
abbrev cX8_playRow : ByteArray := prog_10_method_25_code
def yX8_playRow : MethodName := ⟨RX8, "playRow", "(II)I"⟩
abbrev cX8_playThing : ByteArray := prog_10_method_26_code
def yX8_playThing : MethodName := ⟨RX8, "playThing", "(II)I"⟩
abbrev cX8_calmRow : ByteArray := prog_10_method_27_code
def yX8_calmRow : MethodName := ⟨RX8, "calmRow", "(I)I"⟩
abbrev cX8_makeNew : ByteArray := prog_10_method_28_code
def yX8_makeNew : MethodName := ⟨RX8, "makeNew", "(III)I"⟩
abbrev cX8_layOn : ByteArray := prog_10_method_29_code
def yX8_layOn : MethodName := ⟨RX8, "layOn", "(II)I"⟩
abbrev cX8_reasonOfPlace : ByteArray := prog_10_method_30_code
def yX8_reasonOfPlace : MethodName := ⟨RX8, "reasonOfPlace", "(II)I"⟩
abbrev cX8_plugIn : ByteArray := prog_10_method_31_code
def yX8_plugIn : MethodName := ⟨RX8, "plugIn", "(III)I"⟩
abbrev cX8_pullOut : ByteArray := prog_10_method_32_code
def yX8_pullOut : MethodName := ⟨RX8, "pullOut", "(III)I"⟩
abbrev cX8_reasonOfCopy : ByteArray := prog_10_method_33_code
def yX8_reasonOfCopy : MethodName := ⟨RX8, "reasonOfCopy", "(IIIII)I"⟩
abbrev cX8_copyOver : ByteArray := prog_10_method_34_code
def yX8_copyOver : MethodName := ⟨RX8, "copyOver", "(IIIII)I"⟩
abbrev cX8_writeIn : ByteArray := prog_10_method_35_code
def yX8_writeIn : MethodName := ⟨RX8, "writeIn", "(IIJ)I"⟩
abbrev cX8_knobTo : ByteArray := prog_10_method_36_code
def yX8_knobTo : MethodName := ⟨RX8, "knobTo", "(II)I"⟩
abbrev cX8_reasonOfPlay : ByteArray := prog_10_method_37_code
def yX8_reasonOfPlay : MethodName := ⟨RX8, "reasonOfPlay", "(I)I"⟩
abbrev cX8_playBy : ByteArray := prog_10_method_38_code
def yX8_playBy : MethodName := ⟨RX8, "playBy", "(II)I"⟩
abbrev cX8_runOver : ByteArray := prog_10_method_39_code
def yX8_runOver : MethodName := ⟨RX8, "runOver", "(II)I"⟩
abbrev cX8_ticksBy : ByteArray := prog_10_method_40_code
def yX8_ticksBy : MethodName := ⟨RX8, "ticksBy", "(II)I"⟩
abbrev cX8_restOf : ByteArray := prog_10_method_41_code
def yX8_restOf : MethodName := ⟨RX8, "restOf", "(I)I"⟩
abbrev cX8_whenUnder : ByteArray := prog_10_method_42_code
def yX8_whenUnder : MethodName := ⟨RX8, "whenUnder", "(II)I"⟩
abbrev cX8_done : ByteArray := prog_10_method_43_code
def yX8_done : MethodName := ⟨RX8, "done", "([IIJ)I"⟩
abbrev cX8_carried : ByteArray := prog_10_method_44_code
def yX8_carried : MethodName := ⟨RX8, "carried", "(III)I"⟩
abbrev cX8_copyInts : ByteArray := prog_10_method_45_code
def yX8_copyInts : MethodName := ⟨RX8, "copyInts", "([II[III)V"⟩
abbrev cX8_keepAct : ByteArray := prog_10_method_46_code
def yX8_keepAct : MethodName := ⟨RX8, "keepAct", "(J)V"⟩
abbrev cX8_called : ByteArray := prog_10_method_47_code
def yX8_called : MethodName := ⟨RX8, "called", "(IIIIIIJ)I"⟩
abbrev cX8_lineMore : ByteArray := prog_10_method_48_code
def yX8_lineMore : MethodName := ⟨RX8, "lineMore", "(J)I"⟩
abbrev cX8_make : ByteArray := prog_10_method_49_code
def yX8_make : MethodName := ⟨RX8, "make", "(III)I"⟩
abbrev cX8_lay : ByteArray := prog_10_method_50_code
def yX8_lay : MethodName := ⟨RX8, "lay", "(II)I"⟩
abbrev cX8_plug : ByteArray := prog_10_method_51_code
def yX8_plug : MethodName := ⟨RX8, "plug", "(III)I"⟩
abbrev cX8_pull : ByteArray := prog_10_method_52_code
def yX8_pull : MethodName := ⟨RX8, "pull", "(III)I"⟩
abbrev cX8_copy : ByteArray := prog_10_method_53_code
def yX8_copy : MethodName := ⟨RX8, "copy", "(IIIII)I"⟩
abbrev cX8_write : ByteArray := prog_10_method_54_code
def yX8_write : MethodName := ⟨RX8, "write", "(IIJ)I"⟩
abbrev cX8_knob : ByteArray := prog_10_method_55_code
def yX8_knob : MethodName := ⟨RX8, "knob", "(II)I"⟩
abbrev cX8_play : ByteArray := prog_10_method_56_code
def yX8_play : MethodName := ⟨RX8, "play", "(II)I"⟩
abbrev cX8_run : ByteArray := prog_10_method_57_code
def yX8_run : MethodName := ⟨RX8, "run", "(II)I"⟩
abbrev cX8_ticks : ByteArray := prog_10_method_58_code
def yX8_ticks : MethodName := ⟨RX8, "ticks", "(II)I"⟩
abbrev cX8_rest : ByteArray := prog_10_method_59_code
def yX8_rest : MethodName := ⟨RX8, "rest", "(I)I"⟩
abbrev cX8_when : ByteArray := prog_10_method_60_code
def yX8_when : MethodName := ⟨RX8, "when", "(II)I"⟩
abbrev cX8_begin : ByteArray := prog_10_method_61_code
def yX8_begin : MethodName := ⟨RX8, "begin", "()I"⟩
abbrev cX8_end : ByteArray := prog_10_method_62_code
def yX8_end : MethodName := ⟨RX8, "end", "()I"⟩
abbrev cX8_keepState : ByteArray := prog_10_method_63_code
def yX8_keepState : MethodName := ⟨RX8, "keepState", "()V"⟩
abbrev cX8_putBack : ByteArray := prog_10_method_64_code
def yX8_putBack : MethodName := ⟨RX8, "putBack", "()V"⟩
abbrev cX8_carry : ByteArray := prog_10_method_65_code
def yX8_carry : MethodName := ⟨RX8, "carry", "(I)I"⟩
abbrev cX8_undo : ByteArray := prog_10_method_66_code
def yX8_undo : MethodName := ⟨RX8, "undo", "()I"⟩
abbrev cX8_acts : ByteArray := prog_10_method_67_code
def yX8_acts : MethodName := ⟨RX8, "acts", "()I"⟩
abbrev cX8_ask : ByteArray := prog_10_method_68_code
def yX8_ask : MethodName := ⟨RX8, "ask", "(II)I"⟩
abbrev cX8_toldAs : ByteArray := prog_10_method_69_code
def yX8_toldAs : MethodName := ⟨RX8, "toldAs", "(III)J"⟩
abbrev cX8_take : ByteArray := prog_10_method_70_code
def yX8_take : MethodName := ⟨RX8, "take", "(III)J"⟩
abbrev cX8_size : ByteArray := prog_10_method_71_code
def yX8_size : MethodName := ⟨RX8, "size", "(I)I"⟩
abbrev cX8_read : ByteArray := prog_10_method_72_code
def yX8_read : MethodName := ⟨RX8, "read", "(II)J"⟩
abbrev cX8_at : ByteArray := prog_10_method_73_code
def yX8_at : MethodName := ⟨RX8, "at", "(III)I"⟩
abbrev cX8_tell : ByteArray := prog_10_method_74_code
def yX8_tell : MethodName := ⟨RX8, "tell", "(II)I"⟩
abbrev cX8_why : ByteArray := prog_10_method_75_code
def yX8_why : MethodName := ⟨RX8, "why", "()I"⟩
def RJ9 : String := "java/lang/Math"
def TJ9 : u_T := fun k => match k with
  | _ => ("", "", "", false)
def tyJ9 : Nat → FieldType := fun k => match k with
  | _ => .int
abbrev wsJ90 : List Cond := u_ws RJ9 TJ9 0
theorem nmJ9 : ∀ a, a < 0 → ∀ b, b < 0 → a ≠ b → (TJ9 a).2.1 ≠ (TJ9 b).2.1 := by decide +kernel
theorem tyJ9_ok : ∀ k, k < 0 → parseFieldDescriptor (TJ9 k).2.2.1 = some (tyJ9 k) := by decide +kernel
abbrev cJ9_abs_0f7a4 : ByteArray := prog_11_method_59_code
def yJ9_abs_0f7a4 : MethodName := ⟨RJ9, "abs", "(I)I"⟩
abbrev cJ9_max_7cf53 : ByteArray := prog_11_method_65_code
def yJ9_max_7cf53 : MethodName := ⟨RJ9, "max", "(II)I"⟩
abbrev cJ9_min_7cf53 : ByteArray := prog_11_method_69_code
def yJ9_min_7cf53 : MethodName := ⟨RJ9, "min", "(II)I"⟩
def RJ10 : String := "java/lang/System"
def TJ10 : u_T := fun k => match k with
  | _ => ("", "", "", false)
def tyJ10 : Nat → FieldType := fun k => match k with
  | _ => .int
abbrev wsJ100 : List Cond := u_ws RJ10 TJ10 0
theorem nmJ10 : ∀ a, a < 0 → ∀ b, b < 0 → a ≠ b → (TJ10 a).2.1 ≠ (TJ10 b).2.1 := by decide +kernel
theorem tyJ10_ok : ∀ k, k < 0 → parseFieldDescriptor (TJ10 k).2.2.1 = some (tyJ10 k) := by decide +kernel
def RL : String := "PatchHallLaw"
abbrev cL_law : ByteArray := code
def yL_law : MethodName := ⟨RL, "law", "([I)Z"⟩
abbrev vwCl : List vw_C := [(RX0, TX0, 2), (RX1, TX1, 4), (RX3, TX3, 6), (RX5, TX5, 3), (RX6, TX6, 4), (RX7, TX7, 4), (RX8, TX8, 18)]
def g_tbl : List Cond := lw_tbl.filter goodWord
theorem g_mem {w : Cond} (i : Nat) (h : lw_tbl[i]? = some w) (hg : goodWord w = true) : w ∈ g_tbl := List.mem_filter.mpr ⟨List.mem_of_getElem? h, hg⟩
theorem g_iX0 : ∀ w ∈ u_ws RX0 TX0 2, w ∈ g_tbl := by decide +kernel
theorem g_iX1 : ∀ w ∈ u_ws RX1 TX1 4, w ∈ g_tbl := by decide +kernel
theorem g_iX3 : ∀ w ∈ u_ws RX3 TX3 6, w ∈ g_tbl := by decide +kernel
theorem g_iX5 : ∀ w ∈ u_ws RX5 TX5 3, w ∈ g_tbl := by decide +kernel
theorem g_iX6 : ∀ w ∈ u_ws RX6 TX6 4, w ∈ g_tbl := by decide +kernel
theorem g_iX7 : ∀ w ∈ u_ws RX7 TX7 4, w ∈ g_tbl := by decide +kernel
theorem g_iX8 : ∀ w ∈ u_ws RX8 TX8 18, w ∈ g_tbl := by decide +kernel
theorem m_0 : Cond.selects "PatchHall" ⟨"PatchHall", "noteDown", "(LPatchHall$Line;)I"⟩ ⟨"PatchHall", "noteDown", "(LPatchHall$Line;)I"⟩ ∈ g_tbl := g_mem 0 (by decide +kernel) rfl
theorem m_1 : Cond.selects "PatchHall" ⟨"PatchHall", "refuse", "(I)I"⟩ ⟨"PatchHall", "refuse", "(I)I"⟩ ∈ g_tbl := g_mem 1 (by decide +kernel) rfl
theorem m_2 : Cond.selects "PatchHall" ⟨"PatchHall", "makeThing", "(III)I"⟩ ⟨"PatchHall", "makeThing", "(III)I"⟩ ∈ g_tbl := g_mem 2 (by decide +kernel) rfl
theorem m_3 : Cond.selects "PatchHall" ⟨"PatchHall", "keepIfDone", "(I)I"⟩ ⟨"PatchHall", "keepIfDone", "(I)I"⟩ ∈ g_tbl := g_mem 3 (by decide +kernel) rfl
theorem m_4 : Cond.selects "PatchHall" ⟨"PatchHall", "keep", "(I)I"⟩ ⟨"PatchHall", "keep", "(I)I"⟩ ∈ g_tbl := g_mem 4 (by decide +kernel) rfl
theorem m_5 : Cond.selects "PatchHall$Stock" ⟨"PatchHall$Stock", "cellsInUse", "()I"⟩ ⟨"PatchHall$Stock", "cellsInUse", "()I"⟩ ∈ g_tbl := g_mem 5 (by decide +kernel) rfl
theorem m_6 : Cond.selects "PatchHall$Stock" ⟨"PatchHall$Stock", "countChanges", "(I)I"⟩ ⟨"PatchHall$Stock", "countChanges", "(I)I"⟩ ∈ g_tbl := g_mem 6 (by decide +kernel) rfl
theorem m_7 : Cond.selects "PatchHall" ⟨"PatchHall", "layOver", "(II)I"⟩ ⟨"PatchHall", "layOver", "(II)I"⟩ ∈ g_tbl := g_mem 7 (by decide +kernel) rfl
theorem m_8 : Cond.selects "PatchHall" ⟨"PatchHall", "putOnShelf", "(II)I"⟩ ⟨"PatchHall", "putOnShelf", "(II)I"⟩ ∈ g_tbl := g_mem 8 (by decide +kernel) rfl
theorem m_9 : Cond.selects "PatchHall" ⟨"PatchHall", "plugIn", "(III)I"⟩ ⟨"PatchHall", "plugIn", "(III)I"⟩ ∈ g_tbl := g_mem 9 (by decide +kernel) rfl
theorem m_10 : Cond.selects "PatchHall" ⟨"PatchHall", "hasNoPlace", "(III)Z"⟩ ⟨"PatchHall", "hasNoPlace", "(III)Z"⟩ ∈ g_tbl := g_mem 10 (by decide +kernel) rfl
theorem m_11 : Cond.selects "PatchHall" ⟨"PatchHall", "holdsNone", "(II)Z"⟩ ⟨"PatchHall", "holdsNone", "(II)Z"⟩ ∈ g_tbl := g_mem 11 (by decide +kernel) rfl
theorem m_12 : Cond.selects "PatchHall" ⟨"PatchHall", "pullOut", "(III)I"⟩ ⟨"PatchHall", "pullOut", "(III)I"⟩ ∈ g_tbl := g_mem 12 (by decide +kernel) rfl
theorem m_13 : Cond.selects "PatchHall" ⟨"PatchHall", "copyPlaces", "(IIIII)I"⟩ ⟨"PatchHall", "copyPlaces", "(IIIII)I"⟩ ∈ g_tbl := g_mem 13 (by decide +kernel) rfl
theorem m_14 : Cond.selects "PatchHall" ⟨"PatchHall", "isEitherEmpty", "(II)Z"⟩ ⟨"PatchHall", "isEitherEmpty", "(II)Z"⟩ ∈ g_tbl := g_mem 14 (by decide +kernel) rfl
theorem m_15 : Cond.selects "PatchHall" ⟨"PatchHall", "writeNumber", "(IIJ)I"⟩ ⟨"PatchHall", "writeNumber", "(IIJ)I"⟩ ∈ g_tbl := g_mem 15 (by decide +kernel) rfl
theorem m_16 : Cond.selects "PatchHall" ⟨"PatchHall", "setKnob", "(II)I"⟩ ⟨"PatchHall", "setKnob", "(II)I"⟩ ∈ g_tbl := g_mem 16 (by decide +kernel) rfl
theorem m_17 : Cond.selects "PatchHall" ⟨"PatchHall", "playOnce", "(II)I"⟩ ⟨"PatchHall", "playOnce", "(II)I"⟩ ∈ g_tbl := g_mem 17 (by decide +kernel) rfl
theorem m_18 : Cond.selects "PatchHall$Chain" ⟨"PatchHall$Chain", "addPartsOf", "(LPatchHall$Stock;I)V"⟩ ⟨"PatchHall$Chain", "addPartsOf", "(LPatchHall$Stock;I)V"⟩ ∈ g_tbl := g_mem 18 (by decide +kernel) rfl
theorem m_19 : Cond.selects "PatchHall$Chain" ⟨"PatchHall$Chain", "add", "(I)V"⟩ ⟨"PatchHall$Chain", "add", "(I)V"⟩ ∈ g_tbl := g_mem 19 (by decide +kernel) rfl
theorem m_20 : Cond.selects "PatchHall" ⟨"PatchHall", "playChain", "(I)I"⟩ ⟨"PatchHall", "playChain", "(I)I"⟩ ∈ g_tbl := g_mem 20 (by decide +kernel) rfl
theorem m_21 : Cond.selects "PatchHall" ⟨"PatchHall", "runOver", "(II)I"⟩ ⟨"PatchHall", "runOver", "(II)I"⟩ ∈ g_tbl := g_mem 21 (by decide +kernel) rfl
theorem m_22 : Cond.selects "PatchHall" ⟨"PatchHall", "tickOn", "(II)I"⟩ ⟨"PatchHall", "tickOn", "(II)I"⟩ ∈ g_tbl := g_mem 22 (by decide +kernel) rfl
theorem m_23 : Cond.selects "PatchHall" ⟨"PatchHall", "restAll", "(I)I"⟩ ⟨"PatchHall", "restAll", "(I)I"⟩ ∈ g_tbl := g_mem 23 (by decide +kernel) rfl
theorem m_24 : Cond.selects "PatchHall" ⟨"PatchHall", "perform", "(LPatchHall$Line;)I"⟩ ⟨"PatchHall", "perform", "(LPatchHall$Line;)I"⟩ ∈ g_tbl := g_mem 24 (by decide +kernel) rfl
theorem m_25 : Cond.selects "PatchHall" ⟨"PatchHall", "askWhether", "(II)I"⟩ ⟨"PatchHall", "askWhether", "(II)I"⟩ ∈ g_tbl := g_mem 25 (by decide +kernel) rfl
theorem m_26 : Cond.selects "PatchHall" ⟨"PatchHall", "takeFromRow", "(III)J"⟩ ⟨"PatchHall", "takeFromRow", "(III)J"⟩ ∈ g_tbl := g_mem 26 (by decide +kernel) rfl
theorem m_27 : Cond.selects "PatchHall" ⟨"PatchHall", "takeFromOther", "(II)I"⟩ ⟨"PatchHall", "takeFromOther", "(II)I"⟩ ∈ g_tbl := g_mem 27 (by decide +kernel) rfl
theorem m_28 : Cond.selects "PatchHallModel" ⟨"PatchHallModel", "called", "(IIIIIIJ)I"⟩ ⟨"PatchHallModel", "called", "(IIIIIIJ)I"⟩ ∈ g_tbl := g_mem 28 (by decide +kernel) rfl
theorem m_29 : Cond.selects "PatchHallModel" ⟨"PatchHallModel", "lineMore", "(J)I"⟩ ⟨"PatchHallModel", "lineMore", "(J)I"⟩ ∈ g_tbl := g_mem 29 (by decide +kernel) rfl
theorem m_30 : Cond.selects "PatchHallModel" ⟨"PatchHallModel", "refuse", "(I)I"⟩ ⟨"PatchHallModel", "refuse", "(I)I"⟩ ∈ g_tbl := g_mem 30 (by decide +kernel) rfl
theorem m_31 : Cond.selects "PatchHallModel" ⟨"PatchHallModel", "done", "([IIJ)I"⟩ ⟨"PatchHallModel", "done", "([IIJ)I"⟩ ∈ g_tbl := g_mem 31 (by decide +kernel) rfl
theorem m_32 : Cond.selects "PatchHallModel" ⟨"PatchHallModel", "makeNew", "(III)I"⟩ ⟨"PatchHallModel", "makeNew", "(III)I"⟩ ∈ g_tbl := g_mem 32 (by decide +kernel) rfl
theorem m_33 : Cond.selects "PatchHallModel" ⟨"PatchHallModel", "isPart", "(I)Z"⟩ ⟨"PatchHallModel", "isPart", "(I)Z"⟩ ∈ g_tbl := g_mem 33 (by decide +kernel) rfl
theorem m_34 : Cond.selects "PatchHallModel" ⟨"PatchHallModel", "isUnder", "(II)Z"⟩ ⟨"PatchHallModel", "isUnder", "(II)Z"⟩ ∈ g_tbl := g_mem 34 (by decide +kernel) rfl
theorem m_35 : Cond.selects "PatchHallModel" ⟨"PatchHallModel", "isPartUnder", "(II)Z"⟩ ⟨"PatchHallModel", "isPartUnder", "(II)Z"⟩ ∈ g_tbl := g_mem 35 (by decide +kernel) rfl
theorem m_36 : Cond.selects "PatchHallModel" ⟨"PatchHallModel", "memberOf", "(I)I"⟩ ⟨"PatchHallModel", "memberOf", "(I)I"⟩ ∈ g_tbl := g_mem 36 (by decide +kernel) rfl
theorem m_37 : Cond.selects "PatchHallModel" ⟨"PatchHallModel", "layOn", "(II)I"⟩ ⟨"PatchHallModel", "layOn", "(II)I"⟩ ∈ g_tbl := g_mem 37 (by decide +kernel) rfl
theorem m_38 : Cond.selects "PatchHallModel" ⟨"PatchHallModel", "plugIn", "(III)I"⟩ ⟨"PatchHallModel", "plugIn", "(III)I"⟩ ∈ g_tbl := g_mem 38 (by decide +kernel) rfl
theorem m_39 : Cond.selects "PatchHallModel" ⟨"PatchHallModel", "reasonOfPlace", "(II)I"⟩ ⟨"PatchHallModel", "reasonOfPlace", "(II)I"⟩ ∈ g_tbl := g_mem 39 (by decide +kernel) rfl
theorem m_40 : Cond.selects "PatchHallModel" ⟨"PatchHallModel", "on", "(I)I"⟩ ⟨"PatchHallModel", "on", "(I)I"⟩ ∈ g_tbl := g_mem 40 (by decide +kernel) rfl
theorem m_41 : Cond.selects "PatchHallModel" ⟨"PatchHallModel", "kindOf", "(I)I"⟩ ⟨"PatchHallModel", "kindOf", "(I)I"⟩ ∈ g_tbl := g_mem 41 (by decide +kernel) rfl
theorem m_42 : Cond.selects "PatchHallModel" ⟨"PatchHallModel", "hasPlace", "(II)Z"⟩ ⟨"PatchHallModel", "hasPlace", "(II)Z"⟩ ∈ g_tbl := g_mem 42 (by decide +kernel) rfl
theorem m_43 : Cond.selects "PatchHallModel" ⟨"PatchHallModel", "lengthOf", "(I)I"⟩ ⟨"PatchHallModel", "lengthOf", "(I)I"⟩ ∈ g_tbl := g_mem 43 (by decide +kernel) rfl
theorem m_44 : Cond.selects "PatchHallModel" ⟨"PatchHallModel", "fits", "(IJ)Z"⟩ ⟨"PatchHallModel", "fits", "(IJ)Z"⟩ ∈ g_tbl := g_mem 44 (by decide +kernel) rfl
theorem m_45 : Cond.selects "PatchHallModel" ⟨"PatchHallModel", "thingAt", "(II)I"⟩ ⟨"PatchHallModel", "thingAt", "(II)I"⟩ ∈ g_tbl := g_mem 45 (by decide +kernel) rfl
theorem m_46 : Cond.selects "PatchHallModel" ⟨"PatchHallModel", "pullOut", "(III)I"⟩ ⟨"PatchHallModel", "pullOut", "(III)I"⟩ ∈ g_tbl := g_mem 46 (by decide +kernel) rfl
theorem m_47 : Cond.selects "PatchHallModel" ⟨"PatchHallModel", "copyOver", "(IIIII)I"⟩ ⟨"PatchHallModel", "copyOver", "(IIIII)I"⟩ ∈ g_tbl := g_mem 47 (by decide +kernel) rfl
theorem m_48 : Cond.selects "PatchHallModel" ⟨"PatchHallModel", "reasonOfCopy", "(IIIII)I"⟩ ⟨"PatchHallModel", "reasonOfCopy", "(IIIII)I"⟩ ∈ g_tbl := g_mem 48 (by decide +kernel) rfl
theorem m_49 : Cond.selects "PatchHallModel" ⟨"PatchHallModel", "writeIn", "(IIJ)I"⟩ ⟨"PatchHallModel", "writeIn", "(IIJ)I"⟩ ∈ g_tbl := g_mem 49 (by decide +kernel) rfl
theorem m_50 : Cond.selects "PatchHallModel" ⟨"PatchHallModel", "knobTo", "(II)I"⟩ ⟨"PatchHallModel", "knobTo", "(II)I"⟩ ∈ g_tbl := g_mem 50 (by decide +kernel) rfl
theorem m_51 : Cond.selects "PatchHallModel" ⟨"PatchHallModel", "playBy", "(II)I"⟩ ⟨"PatchHallModel", "playBy", "(II)I"⟩ ∈ g_tbl := g_mem 51 (by decide +kernel) rfl
theorem m_52 : Cond.selects "PatchHallModel" ⟨"PatchHallModel", "reasonOfPlay", "(I)I"⟩ ⟨"PatchHallModel", "reasonOfPlay", "(I)I"⟩ ∈ g_tbl := g_mem 52 (by decide +kernel) rfl
theorem m_53 : Cond.selects "PatchHallModel" ⟨"PatchHallModel", "isPlayed", "(I)Z"⟩ ⟨"PatchHallModel", "isPlayed", "(I)Z"⟩ ∈ g_tbl := g_mem 53 (by decide +kernel) rfl
theorem m_54 : Cond.selects "PatchHallModel" ⟨"PatchHallModel", "playThing", "(II)I"⟩ ⟨"PatchHallModel", "playThing", "(II)I"⟩ ∈ g_tbl := g_mem 54 (by decide +kernel) rfl
theorem m_55 : Cond.selects "PatchHallModel" ⟨"PatchHallModel", "turn", "(II)I"⟩ ⟨"PatchHallModel", "turn", "(II)I"⟩ ∈ g_tbl := g_mem 55 (by decide +kernel) rfl
theorem m_56 : Cond.selects "PatchHallModel" ⟨"PatchHallModel", "clipped", "(II)I"⟩ ⟨"PatchHallModel", "clipped", "(II)I"⟩ ∈ g_tbl := g_mem 56 (by decide +kernel) rfl
theorem m_57 : Cond.selects "PatchHallModel" ⟨"PatchHallModel", "playRow", "(II)I"⟩ ⟨"PatchHallModel", "playRow", "(II)I"⟩ ∈ g_tbl := g_mem 57 (by decide +kernel) rfl
theorem m_58 : Cond.selects "PatchHallModel" ⟨"PatchHallModel", "runOver", "(II)I"⟩ ⟨"PatchHallModel", "runOver", "(II)I"⟩ ∈ g_tbl := g_mem 58 (by decide +kernel) rfl
theorem m_59 : Cond.selects "PatchHallModel" ⟨"PatchHallModel", "ticksBy", "(II)I"⟩ ⟨"PatchHallModel", "ticksBy", "(II)I"⟩ ∈ g_tbl := g_mem 59 (by decide +kernel) rfl
theorem m_60 : Cond.selects "PatchHallModel" ⟨"PatchHallModel", "ticksOf", "(II)I"⟩ ⟨"PatchHallModel", "ticksOf", "(II)I"⟩ ∈ g_tbl := g_mem 60 (by decide +kernel) rfl
theorem m_61 : Cond.selects "PatchHallModel" ⟨"PatchHallModel", "restOf", "(I)I"⟩ ⟨"PatchHallModel", "restOf", "(I)I"⟩ ∈ g_tbl := g_mem 61 (by decide +kernel) rfl
theorem m_62 : Cond.selects "PatchHallModel" ⟨"PatchHallModel", "calm", "(I)V"⟩ ⟨"PatchHallModel", "calm", "(I)V"⟩ ∈ g_tbl := g_mem 62 (by decide +kernel) rfl
theorem m_63 : Cond.selects "PatchHallModel" ⟨"PatchHallModel", "calmRow", "(I)I"⟩ ⟨"PatchHallModel", "calmRow", "(I)I"⟩ ∈ g_tbl := g_mem 63 (by decide +kernel) rfl
theorem m_64 : Cond.selects "PatchHallModel" ⟨"PatchHallModel", "whenUnder", "(II)I"⟩ ⟨"PatchHallModel", "whenUnder", "(II)I"⟩ ∈ g_tbl := g_mem 64 (by decide +kernel) rfl
theorem m_65 : Cond.selects "PatchHallModel" ⟨"PatchHallModel", "keepAct", "(J)V"⟩ ⟨"PatchHallModel", "keepAct", "(J)V"⟩ ∈ g_tbl := g_mem 65 (by decide +kernel) rfl
theorem m_66 : Cond.selects "PatchHallModel" ⟨"PatchHallModel", "keepState", "()V"⟩ ⟨"PatchHallModel", "keepState", "()V"⟩ ∈ g_tbl := g_mem 66 (by decide +kernel) rfl
theorem m_67 : Cond.selects "PatchHallModel" ⟨"PatchHallModel", "carried", "(III)I"⟩ ⟨"PatchHallModel", "carried", "(III)I"⟩ ∈ g_tbl := g_mem 67 (by decide +kernel) rfl
theorem m_68 : Cond.selects "PatchHallModel" ⟨"PatchHallModel", "putBack", "()V"⟩ ⟨"PatchHallModel", "putBack", "()V"⟩ ∈ g_tbl := g_mem 68 (by decide +kernel) rfl
theorem m_69 : Cond.selects "PatchHallModel" ⟨"PatchHallModel", "toldAs", "(III)J"⟩ ⟨"PatchHallModel", "toldAs", "(III)J"⟩ ∈ g_tbl := g_mem 69 (by decide +kernel) rfl
theorem m_70 : Cond.selects "PatchHallModel" ⟨"PatchHallModel", "load", "(I)I"⟩ ⟨"PatchHallModel", "load", "(I)I"⟩ ∈ g_tbl := g_mem 70 (by decide +kernel) rfl
theorem m_71 : Cond.initialized "PatchHallLaw" ∈ g_tbl := g_mem 71 (by decide +kernel) rfl
theorem m_72 : Cond.initialized "PatchHall" ∈ g_tbl := g_mem 72 (by decide +kernel) rfl
theorem m_73 : Cond.initialized "PatchHall$Stock" ∈ g_tbl := g_mem 73 (by decide +kernel) rfl
theorem m_74 : Cond.initialized "PatchHall$Chain" ∈ g_tbl := g_mem 74 (by decide +kernel) rfl
theorem m_75 : Cond.initialized "PatchHall$Sheet" ∈ g_tbl := g_mem 75 (by decide +kernel) rfl
theorem m_76 : Cond.initialized "PatchHallModel" ∈ g_tbl := g_mem 76 (by decide +kernel) rfl
theorem m_77 : Cond.initialized "PatchHall$Line" ∈ g_tbl := g_mem 77 (by decide +kernel) rfl
theorem m_78 : Cond.initialized "PatchHall$Kinds" ∈ g_tbl := g_mem 78 (by decide +kernel) rfl
theorem m_79 : Cond.initialized "java/lang/System" ∈ g_tbl := g_mem 79 (by decide +kernel) rfl
theorem m_80 : Cond.initialized "java/lang/Math" ∈ g_tbl := g_mem 80 (by decide +kernel) rfl
theorem m_81 : Cond.initialized "PatchHall$Change" ∈ g_tbl := g_mem 81 (by decide +kernel) rfl
theorem m_82 : Cond.initialized "PatchHall$Rules" ∈ g_tbl := g_mem 82 (by decide +kernel) rfl
theorem m_83 : Cond.classLink "PatchHallLaw" 7 "PatchHall" ∈ g_tbl := g_mem 83 (by decide +kernel) rfl
theorem m_84 : Cond.instantiable "PatchHall" 4 ∈ g_tbl := g_mem 84 (by decide +kernel) rfl
theorem m_85 : Cond.methodLink "PatchHallLaw" 9 ⟨"PatchHall", "<init>", "()V"⟩ ∈ g_tbl := g_mem 85 (by decide +kernel) rfl
theorem m_86 : Cond.instanceMethod ⟨"PatchHall", "<init>", "()V"⟩ ∈ g_tbl := g_mem 86 (by decide +kernel) rfl
theorem m_87 : Cond.code ⟨"PatchHall", "<init>", "()V"⟩ prog_1_method_1_code 1 none ∈ g_tbl := g_mem 87 (by decide +kernel) rfl
theorem m_88 : Cond.methodLink "PatchHall" 3 ⟨"java/lang/Object", "<init>", "()V"⟩ ∈ g_tbl := g_mem 88 (by decide +kernel) rfl
theorem m_89 : Cond.instanceMethod ⟨"java/lang/Object", "<init>", "()V"⟩ ∈ g_tbl := g_mem 89 (by decide +kernel) rfl
theorem m_90 : Cond.code ⟨"java/lang/Object", "<init>", "()V"⟩ object_method_1_code 1 none ∈ g_tbl := g_mem 90 (by decide +kernel) rfl
theorem m_91 : Cond.classLink "PatchHall" 9 "PatchHall$Stock" ∈ g_tbl := g_mem 91 (by decide +kernel) rfl
theorem m_92 : Cond.instantiable "PatchHall$Stock" 4 ∈ g_tbl := g_mem 92 (by decide +kernel) rfl
theorem m_93 : Cond.methodLink "PatchHall" 11 ⟨"PatchHall$Stock", "<init>", "()V"⟩ ∈ g_tbl := g_mem 93 (by decide +kernel) rfl
theorem m_94 : Cond.instanceMethod ⟨"PatchHall$Stock", "<init>", "()V"⟩ ∈ g_tbl := g_mem 94 (by decide +kernel) rfl
theorem m_95 : Cond.code ⟨"PatchHall$Stock", "<init>", "()V"⟩ prog_8_method_1_code 2 none ∈ g_tbl := g_mem 95 (by decide +kernel) rfl
theorem m_96 : Cond.methodLink "PatchHall$Stock" 5 ⟨"java/lang/Object", "<init>", "()V"⟩ ∈ g_tbl := g_mem 96 (by decide +kernel) rfl
theorem m_97 : Cond.constantLong "PatchHall$Stock" 26 (-1) ∈ g_tbl := g_mem 97 (by decide +kernel) rfl
theorem m_98 : Cond.fieldLink "PatchHall$Stock" 11 "PatchHall$Stock" "cells" "[J" ∈ g_tbl := g_mem 98 (by decide +kernel) rfl
theorem m_99 : Cond.fieldLink "PatchHall$Stock" 15 "PatchHall$Stock" "settled" "[J" ∈ g_tbl := g_mem 99 (by decide +kernel) rfl
theorem m_100 : Cond.fieldLink "PatchHall$Stock" 18 "PatchHall$Stock" "latest" "LPatchHall$Change;" ∈ g_tbl := g_mem 100 (by decide +kernel) rfl
theorem m_101 : Cond.fieldLink "PatchHall$Stock" 22 "PatchHall$Stock" "actsKept" "I" ∈ g_tbl := g_mem 101 (by decide +kernel) rfl
theorem m_112 : Cond.arrayClass .long ∈ g_tbl := g_mem 112 (by decide +kernel) rfl
theorem m_113 : Cond.classLink "PatchHall" 16 "PatchHall$Chain" ∈ g_tbl := g_mem 113 (by decide +kernel) rfl
theorem m_114 : Cond.instantiable "PatchHall$Chain" 2 ∈ g_tbl := g_mem 114 (by decide +kernel) rfl
theorem m_116 : Cond.instanceMethod ⟨"PatchHall$Chain", "<init>", "()V"⟩ ∈ g_tbl := g_mem 116 (by decide +kernel) rfl
theorem m_117 : Cond.code ⟨"PatchHall$Chain", "<init>", "()V"⟩ prog_2_method_1_code 1 none ∈ g_tbl := g_mem 117 (by decide +kernel) rfl
theorem m_118 : Cond.methodLink "PatchHall$Chain" 3 ⟨"java/lang/Object", "<init>", "()V"⟩ ∈ g_tbl := g_mem 118 (by decide +kernel) rfl
theorem m_119 : Cond.fieldLink "PatchHall$Chain" 9 "PatchHall$Chain" "parts" "[I" ∈ g_tbl := g_mem 119 (by decide +kernel) rfl
theorem m_120 : Cond.fieldLink "PatchHall$Chain" 15 "PatchHall$Chain" "length" "I" ∈ g_tbl := g_mem 120 (by decide +kernel) rfl
theorem m_127 : Cond.arrayClass .int ∈ g_tbl := g_mem 127 (by decide +kernel) rfl
theorem m_128 : Cond.classLink "PatchHall" 23 "PatchHall$Sheet" ∈ g_tbl := g_mem 128 (by decide +kernel) rfl
theorem m_129 : Cond.instantiable "PatchHall$Sheet" 3 ∈ g_tbl := g_mem 129 (by decide +kernel) rfl
theorem m_131 : Cond.instanceMethod ⟨"PatchHall$Sheet", "<init>", "()V"⟩ ∈ g_tbl := g_mem 131 (by decide +kernel) rfl
theorem m_132 : Cond.code ⟨"PatchHall$Sheet", "<init>", "()V"⟩ prog_7_method_1_code 1 none ∈ g_tbl := g_mem 132 (by decide +kernel) rfl
theorem m_133 : Cond.methodLink "PatchHall$Sheet" 3 ⟨"java/lang/Object", "<init>", "()V"⟩ ∈ g_tbl := g_mem 133 (by decide +kernel) rfl
theorem m_134 : Cond.classLink "PatchHall$Sheet" 9 "PatchHall$Line" ∈ g_tbl := g_mem 134 (by decide +kernel) rfl
theorem m_136 : Cond.fieldLink "PatchHall$Sheet" 11 "PatchHall$Sheet" "lines" "[LPatchHall$Line;" ∈ g_tbl := g_mem 136 (by decide +kernel) rfl
theorem m_137 : Cond.fieldLink "PatchHall$Sheet" 17 "PatchHall$Sheet" "length" "I" ∈ g_tbl := g_mem 137 (by decide +kernel) rfl
theorem m_139 : Cond.fieldLink "PatchHall$Sheet" 21 "PatchHall$Sheet" "recording" "Z" ∈ g_tbl := g_mem 139 (by decide +kernel) rfl
theorem m_148 : Cond.fieldLink "PatchHall" 12 "PatchHall" "stock" "LPatchHall$Stock;" ∈ g_tbl := g_mem 148 (by decide +kernel) rfl
theorem m_149 : Cond.fieldLink "PatchHall" 19 "PatchHall" "chain" "LPatchHall$Chain;" ∈ g_tbl := g_mem 149 (by decide +kernel) rfl
theorem m_150 : Cond.fieldLink "PatchHall" 26 "PatchHall" "sheet" "LPatchHall$Sheet;" ∈ g_tbl := g_mem 150 (by decide +kernel) rfl
theorem m_151 : Cond.fieldLink "PatchHall" 30 "PatchHall" "reason" "I" ∈ g_tbl := g_mem 151 (by decide +kernel) rfl
theorem m_161 : Cond.methodLink "PatchHallLaw" 13 ⟨"PatchHall", "make", "(III)I"⟩ ∈ g_tbl := g_mem 161 (by decide +kernel) rfl
theorem m_162 : Cond.instanceMethod ⟨"PatchHall", "make", "(III)I"⟩ ∈ g_tbl := g_mem 162 (by decide +kernel) rfl
theorem m_163 : Cond.selects "PatchHall" ⟨"PatchHall", "make", "(III)I"⟩ ⟨"PatchHall", "make", "(III)I"⟩ ∈ g_tbl := g_mem 163 (by decide +kernel) rfl
theorem m_164 : Cond.code ⟨"PatchHall", "make", "(III)I"⟩ prog_1_method_2_code 4 (some .int) ∈ g_tbl := g_mem 164 (by decide +kernel) rfl
theorem m_165 : Cond.classLink "PatchHall" 38 "PatchHall$Line" ∈ g_tbl := g_mem 165 (by decide +kernel) rfl
theorem m_166 : Cond.instantiable "PatchHall$Line" 6 ∈ g_tbl := g_mem 166 (by decide +kernel) rfl
theorem m_167 : Cond.methodLink "PatchHall" 40 ⟨"PatchHall$Line", "<init>", "(IIIJII)V"⟩ ∈ g_tbl := g_mem 167 (by decide +kernel) rfl
theorem m_168 : Cond.instanceMethod ⟨"PatchHall$Line", "<init>", "(IIIJII)V"⟩ ∈ g_tbl := g_mem 168 (by decide +kernel) rfl
theorem m_169 : Cond.code ⟨"PatchHall$Line", "<init>", "(IIIJII)V"⟩ prog_5_method_1_code 8 none ∈ g_tbl := g_mem 169 (by decide +kernel) rfl
theorem m_170 : Cond.methodLink "PatchHall$Line" 1 ⟨"java/lang/Object", "<init>", "()V"⟩ ∈ g_tbl := g_mem 170 (by decide +kernel) rfl
theorem m_171 : Cond.fieldLink "PatchHall$Line" 7 "PatchHall$Line" "call" "I" ∈ g_tbl := g_mem 171 (by decide +kernel) rfl
theorem m_173 : Cond.fieldLink "PatchHall$Line" 13 "PatchHall$Line" "a" "I" ∈ g_tbl := g_mem 173 (by decide +kernel) rfl
theorem m_175 : Cond.fieldLink "PatchHall$Line" 16 "PatchHall$Line" "b" "I" ∈ g_tbl := g_mem 175 (by decide +kernel) rfl
theorem m_177 : Cond.fieldLink "PatchHall$Line" 19 "PatchHall$Line" "c" "J" ∈ g_tbl := g_mem 177 (by decide +kernel) rfl
theorem m_179 : Cond.fieldLink "PatchHall$Line" 23 "PatchHall$Line" "d" "I" ∈ g_tbl := g_mem 179 (by decide +kernel) rfl
theorem m_181 : Cond.fieldLink "PatchHall$Line" 26 "PatchHall$Line" "e" "I" ∈ g_tbl := g_mem 181 (by decide +kernel) rfl
theorem m_196 : Cond.methodLink "PatchHall" 43 ⟨"PatchHall", "noteDown", "(LPatchHall$Line;)I"⟩ ∈ g_tbl := g_mem 196 (by decide +kernel) rfl
theorem m_198 : Cond.instanceMethod ⟨"PatchHall", "noteDown", "(LPatchHall$Line;)I"⟩ ∈ g_tbl := g_mem 198 (by decide +kernel) rfl
theorem m_199 : Cond.code ⟨"PatchHall", "noteDown", "(LPatchHall$Line;)I"⟩ prog_1_method_33_code 2 (some .int) ∈ g_tbl := g_mem 199 (by decide +kernel) rfl
theorem m_200 : Cond.methodLink "PatchHall" 186 ⟨"PatchHall$Sheet", "isFull", "()Z"⟩ ∈ g_tbl := g_mem 200 (by decide +kernel) rfl
theorem m_201 : Cond.instanceMethod ⟨"PatchHall$Sheet", "isFull", "()Z"⟩ ∈ g_tbl := g_mem 201 (by decide +kernel) rfl
theorem m_202 : Cond.selects "PatchHall$Sheet" ⟨"PatchHall$Sheet", "isFull", "()Z"⟩ ⟨"PatchHall$Sheet", "isFull", "()Z"⟩ ∈ g_tbl := g_mem 202 (by decide +kernel) rfl
theorem m_203 : Cond.code ⟨"PatchHall$Sheet", "isFull", "()Z"⟩ prog_7_method_3_code 1 (some .boolean) ∈ g_tbl := g_mem 203 (by decide +kernel) rfl
theorem m_204 : Cond.methodLink "PatchHall" 91 ⟨"PatchHall", "refuse", "(I)I"⟩ ∈ g_tbl := g_mem 204 (by decide +kernel) rfl
theorem m_206 : Cond.instanceMethod ⟨"PatchHall", "refuse", "(I)I"⟩ ∈ g_tbl := g_mem 206 (by decide +kernel) rfl
theorem m_207 : Cond.code ⟨"PatchHall", "refuse", "(I)I"⟩ prog_1_method_26_code 2 (some .int) ∈ g_tbl := g_mem 207 (by decide +kernel) rfl
theorem m_208 : Cond.methodLink "PatchHall" 189 ⟨"PatchHall$Sheet", "add", "(LPatchHall$Line;)I"⟩ ∈ g_tbl := g_mem 208 (by decide +kernel) rfl
theorem m_209 : Cond.instanceMethod ⟨"PatchHall$Sheet", "add", "(LPatchHall$Line;)I"⟩ ∈ g_tbl := g_mem 209 (by decide +kernel) rfl
theorem m_210 : Cond.selects "PatchHall$Sheet" ⟨"PatchHall$Sheet", "add", "(LPatchHall$Line;)I"⟩ ⟨"PatchHall$Sheet", "add", "(LPatchHall$Line;)I"⟩ ∈ g_tbl := g_mem 210 (by decide +kernel) rfl
theorem m_211 : Cond.code ⟨"PatchHall$Sheet", "add", "(LPatchHall$Line;)I"⟩ prog_7_method_4_code 2 (some .int) ∈ g_tbl := g_mem 211 (by decide +kernel) rfl
theorem m_212 : Cond.methodLink "PatchHall" 47 ⟨"PatchHall", "makeThing", "(III)I"⟩ ∈ g_tbl := g_mem 212 (by decide +kernel) rfl
theorem m_214 : Cond.instanceMethod ⟨"PatchHall", "makeThing", "(III)I"⟩ ∈ g_tbl := g_mem 214 (by decide +kernel) rfl
theorem m_215 : Cond.code ⟨"PatchHall", "makeThing", "(III)I"⟩ prog_1_method_36_code 5 (some .int) ∈ g_tbl := g_mem 215 (by decide +kernel) rfl
theorem m_216 : Cond.methodLink "PatchHall" 123 ⟨"PatchHall", "isShelf", "(I)Z"⟩ ∈ g_tbl := g_mem 216 (by decide +kernel) rfl
theorem m_217 : Cond.static ⟨"PatchHall", "isShelf", "(I)Z"⟩ ∈ g_tbl := g_mem 217 (by decide +kernel) rfl
theorem m_218 : Cond.code ⟨"PatchHall", "isShelf", "(I)Z"⟩ prog_1_method_27_code 1 (some .boolean) ∈ g_tbl := g_mem 218 (by decide +kernel) rfl
theorem m_219 : Cond.methodLink "PatchHall" 211 ⟨"PatchHall$Kinds", "isMade", "(I)Z"⟩ ∈ g_tbl := g_mem 219 (by decide +kernel) rfl
theorem m_220 : Cond.static ⟨"PatchHall$Kinds", "isMade", "(I)Z"⟩ ∈ g_tbl := g_mem 220 (by decide +kernel) rfl
theorem m_221 : Cond.code ⟨"PatchHall$Kinds", "isMade", "(I)Z"⟩ prog_4_method_3_code 1 (some .boolean) ∈ g_tbl := g_mem 221 (by decide +kernel) rfl
theorem m_222 : Cond.methodLink "PatchHall$Kinds" 15 ⟨"PatchHall$Kinds", "isKind", "(I)Z"⟩ ∈ g_tbl := g_mem 222 (by decide +kernel) rfl
theorem m_223 : Cond.static ⟨"PatchHall$Kinds", "isKind", "(I)Z"⟩ ∈ g_tbl := g_mem 223 (by decide +kernel) rfl
theorem m_224 : Cond.code ⟨"PatchHall$Kinds", "isKind", "(I)Z"⟩ prog_4_method_2_code 1 (some .boolean) ∈ g_tbl := g_mem 224 (by decide +kernel) rfl
theorem m_225 : Cond.fieldLink "PatchHall$Kinds" 9 "PatchHall$Kinds" "ABOVE" "[I" ∈ g_tbl := g_mem 225 (by decide +kernel) rfl
theorem m_227 : Cond.methodLink "PatchHall" 214 ⟨"PatchHall$Stock", "thingsMade", "()I"⟩ ∈ g_tbl := g_mem 227 (by decide +kernel) rfl
theorem m_228 : Cond.instanceMethod ⟨"PatchHall$Stock", "thingsMade", "()I"⟩ ∈ g_tbl := g_mem 228 (by decide +kernel) rfl
theorem m_229 : Cond.selects "PatchHall$Stock" ⟨"PatchHall$Stock", "thingsMade", "()I"⟩ ⟨"PatchHall$Stock", "thingsMade", "()I"⟩ ∈ g_tbl := g_mem 229 (by decide +kernel) rfl
theorem m_230 : Cond.code ⟨"PatchHall$Stock", "thingsMade", "()I"⟩ prog_8_method_4_code 1 (some .int) ∈ g_tbl := g_mem 230 (by decide +kernel) rfl
theorem m_231 : Cond.methodLink "PatchHall" 218 ⟨"PatchHall$Stock", "add", "(II)I"⟩ ∈ g_tbl := g_mem 231 (by decide +kernel) rfl
theorem m_232 : Cond.instanceMethod ⟨"PatchHall$Stock", "add", "(II)I"⟩ ∈ g_tbl := g_mem 232 (by decide +kernel) rfl
theorem m_233 : Cond.selects "PatchHall$Stock" ⟨"PatchHall$Stock", "add", "(II)I"⟩ ⟨"PatchHall$Stock", "add", "(II)I"⟩ ∈ g_tbl := g_mem 233 (by decide +kernel) rfl
theorem m_234 : Cond.code ⟨"PatchHall$Stock", "add", "(II)I"⟩ prog_8_method_5_code 5 (some .int) ∈ g_tbl := g_mem 234 (by decide +kernel) rfl
theorem m_235 : Cond.methodLink "PatchHall$Stock" 32 ⟨"PatchHall$Stock", "thingsMade", "()I"⟩ ∈ g_tbl := g_mem 235 (by decide +kernel) rfl
theorem m_236 : Cond.methodLink "PatchHall$Stock" 36 ⟨"PatchHall$Stock", "setTrait", "(III)V"⟩ ∈ g_tbl := g_mem 236 (by decide +kernel) rfl
theorem m_237 : Cond.instanceMethod ⟨"PatchHall$Stock", "setTrait", "(III)V"⟩ ∈ g_tbl := g_mem 237 (by decide +kernel) rfl
theorem m_238 : Cond.selects "PatchHall$Stock" ⟨"PatchHall$Stock", "setTrait", "(III)V"⟩ ⟨"PatchHall$Stock", "setTrait", "(III)V"⟩ ∈ g_tbl := g_mem 238 (by decide +kernel) rfl
theorem m_239 : Cond.code ⟨"PatchHall$Stock", "setTrait", "(III)V"⟩ prog_8_method_7_code 5 none ∈ g_tbl := g_mem 239 (by decide +kernel) rfl
theorem m_240 : Cond.methodLink "PatchHall$Stock" 40 ⟨"PatchHall$Kinds", "isUnderAny", "(II)Z"⟩ ∈ g_tbl := g_mem 240 (by decide +kernel) rfl
theorem m_241 : Cond.static ⟨"PatchHall$Kinds", "isUnderAny", "(II)Z"⟩ ∈ g_tbl := g_mem 241 (by decide +kernel) rfl
theorem m_242 : Cond.code ⟨"PatchHall$Kinds", "isUnderAny", "(II)Z"⟩ prog_4_method_4_code 2 (some .boolean) ∈ g_tbl := g_mem 242 (by decide +kernel) rfl
theorem m_243 : Cond.constant "PatchHall$Stock" 46 10739712 ∈ g_tbl := g_mem 243 (by decide +kernel) rfl
theorem m_244 : Cond.constant "PatchHall$Stock" 47 10682368 ∈ g_tbl := g_mem 244 (by decide +kernel) rfl
theorem m_245 : Cond.methodLink "PatchHall$Stock" 48 ⟨"PatchHall$Stock", "setPlace", "(IIJ)V"⟩ ∈ g_tbl := g_mem 245 (by decide +kernel) rfl
theorem m_246 : Cond.instanceMethod ⟨"PatchHall$Stock", "setPlace", "(IIJ)V"⟩ ∈ g_tbl := g_mem 246 (by decide +kernel) rfl
theorem m_247 : Cond.selects "PatchHall$Stock" ⟨"PatchHall$Stock", "setPlace", "(IIJ)V"⟩ ⟨"PatchHall$Stock", "setPlace", "(IIJ)V"⟩ ∈ g_tbl := g_mem 247 (by decide +kernel) rfl
theorem m_248 : Cond.code ⟨"PatchHall$Stock", "setPlace", "(IIJ)V"⟩ prog_8_method_15_code 5 none ∈ g_tbl := g_mem 248 (by decide +kernel) rfl
theorem m_249 : Cond.methodLink "PatchHall$Stock" 59 ⟨"PatchHall$Stock", "hasPlace", "(II)Z"⟩ ∈ g_tbl := g_mem 249 (by decide +kernel) rfl
theorem m_250 : Cond.instanceMethod ⟨"PatchHall$Stock", "hasPlace", "(II)Z"⟩ ∈ g_tbl := g_mem 250 (by decide +kernel) rfl
theorem m_251 : Cond.selects "PatchHall$Stock" ⟨"PatchHall$Stock", "hasPlace", "(II)Z"⟩ ⟨"PatchHall$Stock", "hasPlace", "(II)Z"⟩ ∈ g_tbl := g_mem 251 (by decide +kernel) rfl
theorem m_252 : Cond.code ⟨"PatchHall$Stock", "hasPlace", "(II)Z"⟩ prog_8_method_11_code 3 (some .boolean) ∈ g_tbl := g_mem 252 (by decide +kernel) rfl
theorem m_253 : Cond.methodLink "PatchHall$Stock" 52 ⟨"PatchHall$Stock", "trait", "(II)I"⟩ ∈ g_tbl := g_mem 253 (by decide +kernel) rfl
theorem m_254 : Cond.instanceMethod ⟨"PatchHall$Stock", "trait", "(II)I"⟩ ∈ g_tbl := g_mem 254 (by decide +kernel) rfl
theorem m_255 : Cond.selects "PatchHall$Stock" ⟨"PatchHall$Stock", "trait", "(II)I"⟩ ⟨"PatchHall$Stock", "trait", "(II)I"⟩ ∈ g_tbl := g_mem 255 (by decide +kernel) rfl
theorem m_256 : Cond.code ⟨"PatchHall$Stock", "trait", "(II)I"⟩ prog_8_method_6_code 4 (some .int) ∈ g_tbl := g_mem 256 (by decide +kernel) rfl
theorem m_257 : Cond.methodLink "PatchHall$Stock" 56 ⟨"PatchHall$Stock", "placeCell", "(II)I"⟩ ∈ g_tbl := g_mem 257 (by decide +kernel) rfl
theorem m_258 : Cond.static ⟨"PatchHall$Stock", "placeCell", "(II)I"⟩ ∈ g_tbl := g_mem 258 (by decide +kernel) rfl
theorem m_259 : Cond.code ⟨"PatchHall$Stock", "placeCell", "(II)I"⟩ prog_8_method_13_code 2 (some .int) ∈ g_tbl := g_mem 259 (by decide +kernel) rfl
theorem m_260 : Cond.methodLink "PatchHall" 220 ⟨"PatchHall$Stock", "setShelf", "(II)V"⟩ ∈ g_tbl := g_mem 260 (by decide +kernel) rfl
theorem m_261 : Cond.instanceMethod ⟨"PatchHall$Stock", "setShelf", "(II)V"⟩ ∈ g_tbl := g_mem 261 (by decide +kernel) rfl
theorem m_262 : Cond.selects "PatchHall$Stock" ⟨"PatchHall$Stock", "setShelf", "(II)V"⟩ ⟨"PatchHall$Stock", "setShelf", "(II)V"⟩ ∈ g_tbl := g_mem 262 (by decide +kernel) rfl
theorem m_263 : Cond.code ⟨"PatchHall$Stock", "setShelf", "(II)V"⟩ prog_8_method_3_code 3 none ∈ g_tbl := g_mem 263 (by decide +kernel) rfl
theorem m_265 : Cond.methodLink "PatchHall" 51 ⟨"PatchHall", "keepIfDone", "(I)I"⟩ ∈ g_tbl := g_mem 265 (by decide +kernel) rfl
theorem m_267 : Cond.instanceMethod ⟨"PatchHall", "keepIfDone", "(I)I"⟩ ∈ g_tbl := g_mem 267 (by decide +kernel) rfl
theorem m_268 : Cond.code ⟨"PatchHall", "keepIfDone", "(I)I"⟩ prog_1_method_31_code 2 (some .int) ∈ g_tbl := g_mem 268 (by decide +kernel) rfl
theorem m_269 : Cond.methodLink "PatchHall" 69 ⟨"PatchHall", "keep", "(I)I"⟩ ∈ g_tbl := g_mem 269 (by decide +kernel) rfl
theorem m_271 : Cond.instanceMethod ⟨"PatchHall", "keep", "(I)I"⟩ ∈ g_tbl := g_mem 271 (by decide +kernel) rfl
theorem m_272 : Cond.code ⟨"PatchHall", "keep", "(I)I"⟩ prog_1_method_32_code 2 (some .int) ∈ g_tbl := g_mem 272 (by decide +kernel) rfl
theorem m_273 : Cond.methodLink "PatchHall" 179 ⟨"PatchHall$Stock", "isHistoryFull", "()Z"⟩ ∈ g_tbl := g_mem 273 (by decide +kernel) rfl
theorem m_274 : Cond.instanceMethod ⟨"PatchHall$Stock", "isHistoryFull", "()Z"⟩ ∈ g_tbl := g_mem 274 (by decide +kernel) rfl
theorem m_275 : Cond.selects "PatchHall$Stock" ⟨"PatchHall$Stock", "isHistoryFull", "()Z"⟩ ⟨"PatchHall$Stock", "isHistoryFull", "()Z"⟩ ∈ g_tbl := g_mem 275 (by decide +kernel) rfl
theorem m_276 : Cond.code ⟨"PatchHall$Stock", "isHistoryFull", "()Z"⟩ prog_8_method_19_code 1 (some .boolean) ∈ g_tbl := g_mem 276 (by decide +kernel) rfl
theorem m_277 : Cond.methodLink "PatchHall" 107 ⟨"PatchHall$Stock", "dropChanges", "()V"⟩ ∈ g_tbl := g_mem 277 (by decide +kernel) rfl
theorem m_278 : Cond.instanceMethod ⟨"PatchHall$Stock", "dropChanges", "()V"⟩ ∈ g_tbl := g_mem 278 (by decide +kernel) rfl
theorem m_279 : Cond.selects "PatchHall$Stock" ⟨"PatchHall$Stock", "dropChanges", "()V"⟩ ⟨"PatchHall$Stock", "dropChanges", "()V"⟩ ∈ g_tbl := g_mem 279 (by decide +kernel) rfl
theorem m_280 : Cond.code ⟨"PatchHall$Stock", "dropChanges", "()V"⟩ prog_8_method_23_code 1 none ∈ g_tbl := g_mem 280 (by decide +kernel) rfl
theorem m_281 : Cond.methodLink "PatchHall$Stock" 81 ⟨"java/lang/System", "arraycopy", "(Ljava/lang/Object;ILjava/lang/Object;II)V"⟩ ∈ g_tbl := g_mem 281 (by decide +kernel) rfl
theorem m_282 : Cond.static ⟨"java/lang/System", "arraycopy", "(Ljava/lang/Object;ILjava/lang/Object;II)V"⟩ ∈ g_tbl := g_mem 282 (by decide +kernel) rfl
theorem m_283 : Cond.native ⟨"java/lang/System", "arraycopy", "(Ljava/lang/Object;ILjava/lang/Object;II)V"⟩ ∈ g_tbl := g_mem 283 (by decide +kernel) rfl
theorem m_284 : Cond.methodLink "PatchHall" 183 ⟨"PatchHall$Stock", "keepAct", "()V"⟩ ∈ g_tbl := g_mem 284 (by decide +kernel) rfl
theorem m_285 : Cond.instanceMethod ⟨"PatchHall$Stock", "keepAct", "()V"⟩ ∈ g_tbl := g_mem 285 (by decide +kernel) rfl
theorem m_286 : Cond.selects "PatchHall$Stock" ⟨"PatchHall$Stock", "keepAct", "()V"⟩ ⟨"PatchHall$Stock", "keepAct", "()V"⟩ ∈ g_tbl := g_mem 286 (by decide +kernel) rfl
theorem m_287 : Cond.code ⟨"PatchHall$Stock", "keepAct", "()V"⟩ prog_8_method_22_code 5 none ∈ g_tbl := g_mem 287 (by decide +kernel) rfl
theorem m_288 : Cond.methodLink "PatchHall$Stock" 92 ⟨"PatchHall$Stock", "cellsInUse", "()I"⟩ ∈ g_tbl := g_mem 288 (by decide +kernel) rfl
theorem m_290 : Cond.instanceMethod ⟨"PatchHall$Stock", "cellsInUse", "()I"⟩ ∈ g_tbl := g_mem 290 (by decide +kernel) rfl
theorem m_291 : Cond.code ⟨"PatchHall$Stock", "cellsInUse", "()I"⟩ prog_8_method_20_code 1 (some .int) ∈ g_tbl := g_mem 291 (by decide +kernel) rfl
theorem m_292 : Cond.methodLink "PatchHall$Stock" 87 ⟨"java/lang/Math", "min", "(II)I"⟩ ∈ g_tbl := g_mem 292 (by decide +kernel) rfl
theorem m_293 : Cond.static ⟨"java/lang/Math", "min", "(II)I"⟩ ∈ g_tbl := g_mem 293 (by decide +kernel) rfl
theorem m_294 : Cond.code ⟨"java/lang/Math", "min", "(II)I"⟩ prog_11_method_69_code 2 (some .int) ∈ g_tbl := g_mem 294 (by decide +kernel) rfl
theorem m_295 : Cond.classLink "PatchHall$Stock" 95 "PatchHall$Change" ∈ g_tbl := g_mem 295 (by decide +kernel) rfl
theorem m_296 : Cond.instantiable "PatchHall$Change" 4 ∈ g_tbl := g_mem 296 (by decide +kernel) rfl
theorem m_297 : Cond.methodLink "PatchHall$Stock" 97 ⟨"PatchHall$Stock", "countChanges", "(I)I"⟩ ∈ g_tbl := g_mem 297 (by decide +kernel) rfl
theorem m_299 : Cond.instanceMethod ⟨"PatchHall$Stock", "countChanges", "(I)I"⟩ ∈ g_tbl := g_mem 299 (by decide +kernel) rfl
theorem m_300 : Cond.code ⟨"PatchHall$Stock", "countChanges", "(I)I"⟩ prog_8_method_21_code 4 (some .int) ∈ g_tbl := g_mem 300 (by decide +kernel) rfl
theorem m_301 : Cond.methodLink "PatchHall$Stock" 100 ⟨"PatchHall$Change", "<init>", "(ILPatchHall$Change;)V"⟩ ∈ g_tbl := g_mem 301 (by decide +kernel) rfl
theorem m_302 : Cond.instanceMethod ⟨"PatchHall$Change", "<init>", "(ILPatchHall$Change;)V"⟩ ∈ g_tbl := g_mem 302 (by decide +kernel) rfl
theorem m_303 : Cond.code ⟨"PatchHall$Change", "<init>", "(ILPatchHall$Change;)V"⟩ prog_3_method_1_code 3 none ∈ g_tbl := g_mem 303 (by decide +kernel) rfl
theorem m_304 : Cond.methodLink "PatchHall$Change" 1 ⟨"java/lang/Object", "<init>", "()V"⟩ ∈ g_tbl := g_mem 304 (by decide +kernel) rfl
theorem m_305 : Cond.methodLink "PatchHall$Change" 7 ⟨"java/lang/Math", "max", "(II)I"⟩ ∈ g_tbl := g_mem 305 (by decide +kernel) rfl
theorem m_306 : Cond.static ⟨"java/lang/Math", "max", "(II)I"⟩ ∈ g_tbl := g_mem 306 (by decide +kernel) rfl
theorem m_307 : Cond.code ⟨"java/lang/Math", "max", "(II)I"⟩ prog_11_method_65_code 2 (some .int) ∈ g_tbl := g_mem 307 (by decide +kernel) rfl
theorem m_308 : Cond.fieldLink "PatchHall$Change" 13 "PatchHall$Change" "length" "I" ∈ g_tbl := g_mem 308 (by decide +kernel) rfl
theorem m_310 : Cond.fieldLink "PatchHall$Change" 19 "PatchHall$Change" "cells" "[I" ∈ g_tbl := g_mem 310 (by decide +kernel) rfl
theorem m_312 : Cond.fieldLink "PatchHall$Change" 23 "PatchHall$Change" "before" "[J" ∈ g_tbl := g_mem 312 (by decide +kernel) rfl
theorem m_314 : Cond.fieldLink "PatchHall$Change" 27 "PatchHall$Change" "earlier" "LPatchHall$Change;" ∈ g_tbl := g_mem 314 (by decide +kernel) rfl
theorem m_325 : Cond.methodLink "PatchHallLaw" 18 ⟨"PatchHall", "lay", "(II)I"⟩ ∈ g_tbl := g_mem 325 (by decide +kernel) rfl
theorem m_326 : Cond.instanceMethod ⟨"PatchHall", "lay", "(II)I"⟩ ∈ g_tbl := g_mem 326 (by decide +kernel) rfl
theorem m_327 : Cond.selects "PatchHall" ⟨"PatchHall", "lay", "(II)I"⟩ ⟨"PatchHall", "lay", "(II)I"⟩ ∈ g_tbl := g_mem 327 (by decide +kernel) rfl
theorem m_328 : Cond.code ⟨"PatchHall", "lay", "(II)I"⟩ prog_1_method_3_code 3 (some .int) ∈ g_tbl := g_mem 328 (by decide +kernel) rfl
theorem m_329 : Cond.methodLink "PatchHall" 55 ⟨"PatchHall", "layOver", "(II)I"⟩ ∈ g_tbl := g_mem 329 (by decide +kernel) rfl
theorem m_331 : Cond.instanceMethod ⟨"PatchHall", "layOver", "(II)I"⟩ ∈ g_tbl := g_mem 331 (by decide +kernel) rfl
theorem m_332 : Cond.code ⟨"PatchHall", "layOver", "(II)I"⟩ prog_1_method_37_code 3 (some .int) ∈ g_tbl := g_mem 332 (by decide +kernel) rfl
theorem m_333 : Cond.methodLink "PatchHall" 136 ⟨"PatchHall$Stock", "onShelf", "(I)I"⟩ ∈ g_tbl := g_mem 333 (by decide +kernel) rfl
theorem m_334 : Cond.instanceMethod ⟨"PatchHall$Stock", "onShelf", "(I)I"⟩ ∈ g_tbl := g_mem 334 (by decide +kernel) rfl
theorem m_335 : Cond.selects "PatchHall$Stock" ⟨"PatchHall$Stock", "onShelf", "(I)I"⟩ ⟨"PatchHall$Stock", "onShelf", "(I)I"⟩ ∈ g_tbl := g_mem 335 (by decide +kernel) rfl
theorem m_336 : Cond.code ⟨"PatchHall$Stock", "onShelf", "(I)I"⟩ prog_8_method_2_code 2 (some .int) ∈ g_tbl := g_mem 336 (by decide +kernel) rfl
theorem m_337 : Cond.methodLink "PatchHall" 224 ⟨"PatchHall", "putOnShelf", "(II)I"⟩ ∈ g_tbl := g_mem 337 (by decide +kernel) rfl
theorem m_339 : Cond.instanceMethod ⟨"PatchHall", "putOnShelf", "(II)I"⟩ ∈ g_tbl := g_mem 339 (by decide +kernel) rfl
theorem m_340 : Cond.code ⟨"PatchHall", "putOnShelf", "(II)I"⟩ prog_1_method_38_code 3 (some .int) ∈ g_tbl := g_mem 340 (by decide +kernel) rfl
theorem m_341 : Cond.methodLink "PatchHallLaw" 23 ⟨"PatchHall", "plug", "(III)I"⟩ ∈ g_tbl := g_mem 341 (by decide +kernel) rfl
theorem m_342 : Cond.instanceMethod ⟨"PatchHall", "plug", "(III)I"⟩ ∈ g_tbl := g_mem 342 (by decide +kernel) rfl
theorem m_343 : Cond.selects "PatchHall" ⟨"PatchHall", "plug", "(III)I"⟩ ⟨"PatchHall", "plug", "(III)I"⟩ ∈ g_tbl := g_mem 343 (by decide +kernel) rfl
theorem m_344 : Cond.code ⟨"PatchHall", "plug", "(III)I"⟩ prog_1_method_4_code 4 (some .int) ∈ g_tbl := g_mem 344 (by decide +kernel) rfl
theorem m_345 : Cond.methodLink "PatchHall" 59 ⟨"PatchHall", "plugIn", "(III)I"⟩ ∈ g_tbl := g_mem 345 (by decide +kernel) rfl
theorem m_347 : Cond.instanceMethod ⟨"PatchHall", "plugIn", "(III)I"⟩ ∈ g_tbl := g_mem 347 (by decide +kernel) rfl
theorem m_348 : Cond.code ⟨"PatchHall", "plugIn", "(III)I"⟩ prog_1_method_39_code 8 (some .int) ∈ g_tbl := g_mem 348 (by decide +kernel) rfl
theorem m_349 : Cond.constant "PatchHall" 166 10682368 ∈ g_tbl := g_mem 349 (by decide +kernel) rfl
theorem m_350 : Cond.methodLink "PatchHall" 154 ⟨"PatchHall", "hasNoPlace", "(III)Z"⟩ ∈ g_tbl := g_mem 350 (by decide +kernel) rfl
theorem m_352 : Cond.instanceMethod ⟨"PatchHall", "hasNoPlace", "(III)Z"⟩ ∈ g_tbl := g_mem 352 (by decide +kernel) rfl
theorem m_353 : Cond.code ⟨"PatchHall", "hasNoPlace", "(III)Z"⟩ prog_1_method_29_code 4 (some .boolean) ∈ g_tbl := g_mem 353 (by decide +kernel) rfl
theorem m_354 : Cond.methodLink "PatchHall" 132 ⟨"PatchHall", "holdsNone", "(II)Z"⟩ ∈ g_tbl := g_mem 354 (by decide +kernel) rfl
theorem m_356 : Cond.instanceMethod ⟨"PatchHall", "holdsNone", "(II)Z"⟩ ∈ g_tbl := g_mem 356 (by decide +kernel) rfl
theorem m_357 : Cond.code ⟨"PatchHall", "holdsNone", "(II)Z"⟩ prog_1_method_28_code 3 (some .boolean) ∈ g_tbl := g_mem 357 (by decide +kernel) rfl
theorem m_358 : Cond.methodLink "PatchHall" 167 ⟨"PatchHall$Stock", "isIn", "(II)Z"⟩ ∈ g_tbl := g_mem 358 (by decide +kernel) rfl
theorem m_359 : Cond.instanceMethod ⟨"PatchHall$Stock", "isIn", "(II)Z"⟩ ∈ g_tbl := g_mem 359 (by decide +kernel) rfl
theorem m_360 : Cond.selects "PatchHall$Stock" ⟨"PatchHall$Stock", "isIn", "(II)Z"⟩ ⟨"PatchHall$Stock", "isIn", "(II)Z"⟩ ∈ g_tbl := g_mem 360 (by decide +kernel) rfl
theorem m_361 : Cond.code ⟨"PatchHall$Stock", "isIn", "(II)Z"⟩ prog_8_method_9_code 3 (some .boolean) ∈ g_tbl := g_mem 361 (by decide +kernel) rfl
theorem m_362 : Cond.methodLink "PatchHall" 163 ⟨"PatchHall$Stock", "hasPlace", "(II)Z"⟩ ∈ g_tbl := g_mem 362 (by decide +kernel) rfl
theorem m_363 : Cond.methodLink "PatchHall" 227 ⟨"PatchHall$Stock", "fits", "(II)Z"⟩ ∈ g_tbl := g_mem 363 (by decide +kernel) rfl
theorem m_364 : Cond.instanceMethod ⟨"PatchHall$Stock", "fits", "(II)Z"⟩ ∈ g_tbl := g_mem 364 (by decide +kernel) rfl
theorem m_365 : Cond.selects "PatchHall$Stock" ⟨"PatchHall$Stock", "fits", "(II)Z"⟩ ⟨"PatchHall$Stock", "fits", "(II)Z"⟩ ∈ g_tbl := g_mem 365 (by decide +kernel) rfl
theorem m_366 : Cond.code ⟨"PatchHall$Stock", "fits", "(II)Z"⟩ prog_8_method_16_code 3 (some .boolean) ∈ g_tbl := g_mem 366 (by decide +kernel) rfl
theorem m_367 : Cond.methodLink "PatchHall$Stock" 62 ⟨"PatchHall$Kinds", "fittingIn", "(I)I"⟩ ∈ g_tbl := g_mem 367 (by decide +kernel) rfl
theorem m_368 : Cond.static ⟨"PatchHall$Kinds", "fittingIn", "(I)I"⟩ ∈ g_tbl := g_mem 368 (by decide +kernel) rfl
theorem m_369 : Cond.code ⟨"PatchHall$Kinds", "fittingIn", "(I)I"⟩ prog_4_method_5_code 1 (some .int) ∈ g_tbl := g_mem 369 (by decide +kernel) rfl
theorem m_370 : Cond.fieldLink "PatchHall$Kinds" 19 "PatchHall$Kinds" "WANTED" "[I" ∈ g_tbl := g_mem 370 (by decide +kernel) rfl
theorem m_372 : Cond.methodLink "PatchHall$Stock" 66 ⟨"PatchHall$Stock", "isIn", "(II)Z"⟩ ∈ g_tbl := g_mem 372 (by decide +kernel) rfl
theorem m_373 : Cond.methodLink "PatchHall" 158 ⟨"PatchHall$Stock", "atPlace", "(II)J"⟩ ∈ g_tbl := g_mem 373 (by decide +kernel) rfl
theorem m_374 : Cond.instanceMethod ⟨"PatchHall$Stock", "atPlace", "(II)J"⟩ ∈ g_tbl := g_mem 374 (by decide +kernel) rfl
theorem m_375 : Cond.selects "PatchHall$Stock" ⟨"PatchHall$Stock", "atPlace", "(II)J"⟩ ⟨"PatchHall$Stock", "atPlace", "(II)J"⟩ ∈ g_tbl := g_mem 375 (by decide +kernel) rfl
theorem m_376 : Cond.code ⟨"PatchHall$Stock", "atPlace", "(II)J"⟩ prog_8_method_14_code 3 (some .long) ∈ g_tbl := g_mem 376 (by decide +kernel) rfl
theorem m_377 : Cond.methodLink "PatchHall" 230 ⟨"PatchHall$Stock", "setPlace", "(IIJ)V"⟩ ∈ g_tbl := g_mem 377 (by decide +kernel) rfl
theorem m_378 : Cond.constantLong "PatchHall" 234 (-1) ∈ g_tbl := g_mem 378 (by decide +kernel) rfl
theorem m_379 : Cond.methodLink "PatchHallLaw" 27 ⟨"PatchHall", "pull", "(III)I"⟩ ∈ g_tbl := g_mem 379 (by decide +kernel) rfl
theorem m_380 : Cond.instanceMethod ⟨"PatchHall", "pull", "(III)I"⟩ ∈ g_tbl := g_mem 380 (by decide +kernel) rfl
theorem m_381 : Cond.selects "PatchHall" ⟨"PatchHall", "pull", "(III)I"⟩ ⟨"PatchHall", "pull", "(III)I"⟩ ∈ g_tbl := g_mem 381 (by decide +kernel) rfl
theorem m_382 : Cond.code ⟨"PatchHall", "pull", "(III)I"⟩ prog_1_method_5_code 4 (some .int) ∈ g_tbl := g_mem 382 (by decide +kernel) rfl
theorem m_383 : Cond.methodLink "PatchHall" 62 ⟨"PatchHall", "pullOut", "(III)I"⟩ ∈ g_tbl := g_mem 383 (by decide +kernel) rfl
theorem m_385 : Cond.instanceMethod ⟨"PatchHall", "pullOut", "(III)I"⟩ ∈ g_tbl := g_mem 385 (by decide +kernel) rfl
theorem m_386 : Cond.code ⟨"PatchHall", "pullOut", "(III)I"⟩ prog_1_method_40_code 4 (some .int) ∈ g_tbl := g_mem 386 (by decide +kernel) rfl
theorem m_387 : Cond.methodLink "PatchHallLaw" 31 ⟨"PatchHall", "copy", "(IIIII)I"⟩ ∈ g_tbl := g_mem 387 (by decide +kernel) rfl
theorem m_388 : Cond.instanceMethod ⟨"PatchHall", "copy", "(IIIII)I"⟩ ∈ g_tbl := g_mem 388 (by decide +kernel) rfl
theorem m_389 : Cond.selects "PatchHall" ⟨"PatchHall", "copy", "(IIIII)I"⟩ ⟨"PatchHall", "copy", "(IIIII)I"⟩ ∈ g_tbl := g_mem 389 (by decide +kernel) rfl
theorem m_390 : Cond.code ⟨"PatchHall", "copy", "(IIIII)I"⟩ prog_1_method_6_code 7 (some .int) ∈ g_tbl := g_mem 390 (by decide +kernel) rfl
theorem m_391 : Cond.methodLink "PatchHall" 65 ⟨"PatchHall", "copyPlaces", "(IIIII)I"⟩ ∈ g_tbl := g_mem 391 (by decide +kernel) rfl
theorem m_393 : Cond.instanceMethod ⟨"PatchHall", "copyPlaces", "(IIIII)I"⟩ ∈ g_tbl := g_mem 393 (by decide +kernel) rfl
theorem m_394 : Cond.code ⟨"PatchHall", "copyPlaces", "(IIIII)I"⟩ prog_1_method_41_code 9 (some .int) ∈ g_tbl := g_mem 394 (by decide +kernel) rfl
theorem m_395 : Cond.methodLink "PatchHall" 236 ⟨"PatchHall", "isEitherEmpty", "(II)Z"⟩ ∈ g_tbl := g_mem 395 (by decide +kernel) rfl
theorem m_397 : Cond.instanceMethod ⟨"PatchHall", "isEitherEmpty", "(II)Z"⟩ ∈ g_tbl := g_mem 397 (by decide +kernel) rfl
theorem m_398 : Cond.code ⟨"PatchHall", "isEitherEmpty", "(II)Z"⟩ prog_1_method_30_code 3 (some .boolean) ∈ g_tbl := g_mem 398 (by decide +kernel) rfl
theorem m_399 : Cond.methodLink "PatchHall" 176 ⟨"PatchHall$Stock", "trait", "(II)I"⟩ ∈ g_tbl := g_mem 399 (by decide +kernel) rfl
theorem m_400 : Cond.methodLink "PatchHall" 239 ⟨"PatchHall$Kinds", "isCopied", "(II)Z"⟩ ∈ g_tbl := g_mem 400 (by decide +kernel) rfl
theorem m_401 : Cond.static ⟨"PatchHall$Kinds", "isCopied", "(II)Z"⟩ ∈ g_tbl := g_mem 401 (by decide +kernel) rfl
theorem m_402 : Cond.code ⟨"PatchHall$Kinds", "isCopied", "(II)Z"⟩ prog_4_method_6_code 2 (some .boolean) ∈ g_tbl := g_mem 402 (by decide +kernel) rfl
theorem m_403 : Cond.constant "PatchHall$Kinds" 22 57344 ∈ g_tbl := g_mem 403 (by decide +kernel) rfl
theorem m_404 : Cond.methodLink "PatchHall$Kinds" 23 ⟨"PatchHall$Kinds", "isUnderAny", "(II)Z"⟩ ∈ g_tbl := g_mem 404 (by decide +kernel) rfl
theorem m_405 : Cond.constant "PatchHall$Kinds" 27 10682368 ∈ g_tbl := g_mem 405 (by decide +kernel) rfl
theorem m_406 : Cond.methodLink "PatchHall" 242 ⟨"PatchHall$Stock", "hasPlaces", "(III)Z"⟩ ∈ g_tbl := g_mem 406 (by decide +kernel) rfl
theorem m_407 : Cond.instanceMethod ⟨"PatchHall$Stock", "hasPlaces", "(III)Z"⟩ ∈ g_tbl := g_mem 407 (by decide +kernel) rfl
theorem m_408 : Cond.selects "PatchHall$Stock" ⟨"PatchHall$Stock", "hasPlaces", "(III)Z"⟩ ⟨"PatchHall$Stock", "hasPlaces", "(III)Z"⟩ ∈ g_tbl := g_mem 408 (by decide +kernel) rfl
theorem m_409 : Cond.code ⟨"PatchHall$Stock", "hasPlaces", "(III)Z"⟩ prog_8_method_12_code 4 (some .boolean) ∈ g_tbl := g_mem 409 (by decide +kernel) rfl
theorem m_410 : Cond.methodLink "PatchHall" 245 ⟨"PatchHall$Stock", "howManyFit", "(IIII)I"⟩ ∈ g_tbl := g_mem 410 (by decide +kernel) rfl
theorem m_411 : Cond.instanceMethod ⟨"PatchHall$Stock", "howManyFit", "(IIII)I"⟩ ∈ g_tbl := g_mem 411 (by decide +kernel) rfl
theorem m_412 : Cond.selects "PatchHall$Stock" ⟨"PatchHall$Stock", "howManyFit", "(IIII)I"⟩ ⟨"PatchHall$Stock", "howManyFit", "(IIII)I"⟩ ∈ g_tbl := g_mem 412 (by decide +kernel) rfl
theorem m_413 : Cond.code ⟨"PatchHall$Stock", "howManyFit", "(IIII)I"⟩ prog_8_method_17_code 6 (some .int) ∈ g_tbl := g_mem 413 (by decide +kernel) rfl
theorem m_414 : Cond.constant "PatchHall$Stock" 69 57344 ∈ g_tbl := g_mem 414 (by decide +kernel) rfl
theorem m_415 : Cond.methodLink "PatchHall$Stock" 70 ⟨"PatchHall$Stock", "atPlace", "(II)J"⟩ ∈ g_tbl := g_mem 415 (by decide +kernel) rfl
theorem m_416 : Cond.methodLink "PatchHall$Stock" 74 ⟨"PatchHall$Stock", "fits", "(II)Z"⟩ ∈ g_tbl := g_mem 416 (by decide +kernel) rfl
theorem m_417 : Cond.methodLink "PatchHall" 249 ⟨"PatchHall$Stock", "movePlaces", "(IIIII)V"⟩ ∈ g_tbl := g_mem 417 (by decide +kernel) rfl
theorem m_418 : Cond.instanceMethod ⟨"PatchHall$Stock", "movePlaces", "(IIIII)V"⟩ ∈ g_tbl := g_mem 418 (by decide +kernel) rfl
theorem m_419 : Cond.selects "PatchHall$Stock" ⟨"PatchHall$Stock", "movePlaces", "(IIIII)V"⟩ ⟨"PatchHall$Stock", "movePlaces", "(IIIII)V"⟩ ∈ g_tbl := g_mem 419 (by decide +kernel) rfl
theorem m_420 : Cond.code ⟨"PatchHall$Stock", "movePlaces", "(IIIII)V"⟩ prog_8_method_18_code 6 none ∈ g_tbl := g_mem 420 (by decide +kernel) rfl
theorem m_421 : Cond.methodLink "PatchHall$Stock" 77 ⟨"PatchHall$Stock", "hasPlaces", "(III)Z"⟩ ∈ g_tbl := g_mem 421 (by decide +kernel) rfl
theorem m_422 : Cond.methodLink "PatchHallLaw" 38 ⟨"PatchHall", "write", "(IIJ)I"⟩ ∈ g_tbl := g_mem 422 (by decide +kernel) rfl
theorem m_423 : Cond.instanceMethod ⟨"PatchHall", "write", "(IIJ)I"⟩ ∈ g_tbl := g_mem 423 (by decide +kernel) rfl
theorem m_424 : Cond.selects "PatchHall" ⟨"PatchHall", "write", "(IIJ)I"⟩ ⟨"PatchHall", "write", "(IIJ)I"⟩ ∈ g_tbl := g_mem 424 (by decide +kernel) rfl
theorem m_425 : Cond.code ⟨"PatchHall", "write", "(IIJ)I"⟩ prog_1_method_7_code 5 (some .int) ∈ g_tbl := g_mem 425 (by decide +kernel) rfl
theorem m_426 : Cond.methodLink "PatchHall" 72 ⟨"PatchHall", "writeNumber", "(IIJ)I"⟩ ∈ g_tbl := g_mem 426 (by decide +kernel) rfl
theorem m_428 : Cond.instanceMethod ⟨"PatchHall", "writeNumber", "(IIJ)I"⟩ ∈ g_tbl := g_mem 428 (by decide +kernel) rfl
theorem m_429 : Cond.code ⟨"PatchHall", "writeNumber", "(IIJ)I"⟩ prog_1_method_42_code 6 (some .int) ∈ g_tbl := g_mem 429 (by decide +kernel) rfl
theorem m_430 : Cond.constant "PatchHall" 153 57344 ∈ g_tbl := g_mem 430 (by decide +kernel) rfl
theorem m_431 : Cond.methodLink "PatchHall" 253 ⟨"PatchHall$Kinds", "asHeldIn", "(IJ)J"⟩ ∈ g_tbl := g_mem 431 (by decide +kernel) rfl
theorem m_432 : Cond.static ⟨"PatchHall$Kinds", "asHeldIn", "(IJ)J"⟩ ∈ g_tbl := g_mem 432 (by decide +kernel) rfl
theorem m_433 : Cond.code ⟨"PatchHall$Kinds", "asHeldIn", "(IJ)J"⟩ prog_4_method_7_code 3 (some .long) ∈ g_tbl := g_mem 433 (by decide +kernel) rfl
theorem m_434 : Cond.methodLink "PatchHallLaw" 43 ⟨"PatchHall", "knob", "(II)I"⟩ ∈ g_tbl := g_mem 434 (by decide +kernel) rfl
theorem m_435 : Cond.instanceMethod ⟨"PatchHall", "knob", "(II)I"⟩ ∈ g_tbl := g_mem 435 (by decide +kernel) rfl
theorem m_436 : Cond.selects "PatchHall" ⟨"PatchHall", "knob", "(II)I"⟩ ⟨"PatchHall", "knob", "(II)I"⟩ ∈ g_tbl := g_mem 436 (by decide +kernel) rfl
theorem m_437 : Cond.code ⟨"PatchHall", "knob", "(II)I"⟩ prog_1_method_8_code 3 (some .int) ∈ g_tbl := g_mem 437 (by decide +kernel) rfl
theorem m_438 : Cond.methodLink "PatchHall" 76 ⟨"PatchHall", "setKnob", "(II)I"⟩ ∈ g_tbl := g_mem 438 (by decide +kernel) rfl
theorem m_440 : Cond.instanceMethod ⟨"PatchHall", "setKnob", "(II)I"⟩ ∈ g_tbl := g_mem 440 (by decide +kernel) rfl
theorem m_441 : Cond.code ⟨"PatchHall", "setKnob", "(II)I"⟩ prog_1_method_43_code 5 (some .int) ∈ g_tbl := g_mem 441 (by decide +kernel) rfl
theorem m_442 : Cond.methodLink "PatchHall" 257 ⟨"PatchHall$Stock", "setTrait", "(III)V"⟩ ∈ g_tbl := g_mem 442 (by decide +kernel) rfl
theorem m_443 : Cond.methodLink "PatchHallLaw" 47 ⟨"PatchHall", "play", "(II)I"⟩ ∈ g_tbl := g_mem 443 (by decide +kernel) rfl
theorem m_444 : Cond.instanceMethod ⟨"PatchHall", "play", "(II)I"⟩ ∈ g_tbl := g_mem 444 (by decide +kernel) rfl
theorem m_445 : Cond.selects "PatchHall" ⟨"PatchHall", "play", "(II)I"⟩ ⟨"PatchHall", "play", "(II)I"⟩ ∈ g_tbl := g_mem 445 (by decide +kernel) rfl
theorem m_446 : Cond.code ⟨"PatchHall", "play", "(II)I"⟩ prog_1_method_9_code 3 (some .int) ∈ g_tbl := g_mem 446 (by decide +kernel) rfl
theorem m_447 : Cond.methodLink "PatchHall" 79 ⟨"PatchHall", "playOnce", "(II)I"⟩ ∈ g_tbl := g_mem 447 (by decide +kernel) rfl
theorem m_449 : Cond.instanceMethod ⟨"PatchHall", "playOnce", "(II)I"⟩ ∈ g_tbl := g_mem 449 (by decide +kernel) rfl
theorem m_450 : Cond.code ⟨"PatchHall", "playOnce", "(II)I"⟩ prog_1_method_44_code 3 (some .int) ∈ g_tbl := g_mem 450 (by decide +kernel) rfl
theorem m_451 : Cond.constant "PatchHall" 261 8519681 ∈ g_tbl := g_mem 451 (by decide +kernel) rfl
theorem m_452 : Cond.methodLink "PatchHall" 262 ⟨"PatchHall$Chain", "lineUp", "(LPatchHall$Stock;I)V"⟩ ∈ g_tbl := g_mem 452 (by decide +kernel) rfl
theorem m_453 : Cond.instanceMethod ⟨"PatchHall$Chain", "lineUp", "(LPatchHall$Stock;I)V"⟩ ∈ g_tbl := g_mem 453 (by decide +kernel) rfl
theorem m_454 : Cond.selects "PatchHall$Chain" ⟨"PatchHall$Chain", "lineUp", "(LPatchHall$Stock;I)V"⟩ ⟨"PatchHall$Chain", "lineUp", "(LPatchHall$Stock;I)V"⟩ ∈ g_tbl := g_mem 454 (by decide +kernel) rfl
theorem m_455 : Cond.code ⟨"PatchHall$Chain", "lineUp", "(LPatchHall$Stock;I)V"⟩ prog_2_method_3_code 4 none ∈ g_tbl := g_mem 455 (by decide +kernel) rfl
theorem m_456 : Cond.constant "PatchHall$Chain" 19 8388608 ∈ g_tbl := g_mem 456 (by decide +kernel) rfl
theorem m_457 : Cond.methodLink "PatchHall$Chain" 20 ⟨"PatchHall$Stock", "isIn", "(II)Z"⟩ ∈ g_tbl := g_mem 457 (by decide +kernel) rfl
theorem m_458 : Cond.methodLink "PatchHall$Chain" 26 ⟨"PatchHall$Chain", "addPartsOf", "(LPatchHall$Stock;I)V"⟩ ∈ g_tbl := g_mem 458 (by decide +kernel) rfl
theorem m_460 : Cond.instanceMethod ⟨"PatchHall$Chain", "addPartsOf", "(LPatchHall$Stock;I)V"⟩ ∈ g_tbl := g_mem 460 (by decide +kernel) rfl
theorem m_461 : Cond.code ⟨"PatchHall$Chain", "addPartsOf", "(LPatchHall$Stock;I)V"⟩ prog_2_method_4_code 4 none ∈ g_tbl := g_mem 461 (by decide +kernel) rfl
theorem m_462 : Cond.methodLink "PatchHall$Chain" 38 ⟨"PatchHall$Chain", "add", "(I)V"⟩ ∈ g_tbl := g_mem 462 (by decide +kernel) rfl
theorem m_464 : Cond.instanceMethod ⟨"PatchHall$Chain", "add", "(I)V"⟩ ∈ g_tbl := g_mem 464 (by decide +kernel) rfl
theorem m_465 : Cond.code ⟨"PatchHall$Chain", "add", "(I)V"⟩ prog_2_method_5_code 2 none ∈ g_tbl := g_mem 465 (by decide +kernel) rfl
theorem m_466 : Cond.methodLink "PatchHall$Chain" 30 ⟨"PatchHall$Stock", "places", "(I)I"⟩ ∈ g_tbl := g_mem 466 (by decide +kernel) rfl
theorem m_467 : Cond.instanceMethod ⟨"PatchHall$Stock", "places", "(I)I"⟩ ∈ g_tbl := g_mem 467 (by decide +kernel) rfl
theorem m_468 : Cond.selects "PatchHall$Stock" ⟨"PatchHall$Stock", "places", "(I)I"⟩ ⟨"PatchHall$Stock", "places", "(I)I"⟩ ∈ g_tbl := g_mem 468 (by decide +kernel) rfl
theorem m_469 : Cond.code ⟨"PatchHall$Stock", "places", "(I)I"⟩ prog_8_method_10_code 2 (some .int) ∈ g_tbl := g_mem 469 (by decide +kernel) rfl
theorem m_470 : Cond.methodLink "PatchHall$Chain" 34 ⟨"PatchHall$Stock", "atPlace", "(II)J"⟩ ∈ g_tbl := g_mem 470 (by decide +kernel) rfl
theorem m_471 : Cond.methodLink "PatchHall" 266 ⟨"PatchHall", "playChain", "(I)I"⟩ ∈ g_tbl := g_mem 471 (by decide +kernel) rfl
theorem m_473 : Cond.instanceMethod ⟨"PatchHall", "playChain", "(I)I"⟩ ∈ g_tbl := g_mem 473 (by decide +kernel) rfl
theorem m_474 : Cond.code ⟨"PatchHall", "playChain", "(I)I"⟩ prog_1_method_45_code 4 (some .int) ∈ g_tbl := g_mem 474 (by decide +kernel) rfl
theorem m_475 : Cond.methodLink "PatchHall" 270 ⟨"PatchHall$Chain", "partAt", "(I)I"⟩ ∈ g_tbl := g_mem 475 (by decide +kernel) rfl
theorem m_476 : Cond.instanceMethod ⟨"PatchHall$Chain", "partAt", "(I)I"⟩ ∈ g_tbl := g_mem 476 (by decide +kernel) rfl
theorem m_477 : Cond.selects "PatchHall$Chain" ⟨"PatchHall$Chain", "partAt", "(I)I"⟩ ⟨"PatchHall$Chain", "partAt", "(I)I"⟩ ∈ g_tbl := g_mem 477 (by decide +kernel) rfl
theorem m_478 : Cond.code ⟨"PatchHall$Chain", "partAt", "(I)I"⟩ prog_2_method_2_code 2 (some .int) ∈ g_tbl := g_mem 478 (by decide +kernel) rfl
theorem m_479 : Cond.methodLink "PatchHall" 273 ⟨"PatchHall$Rules", "turn", "(LPatchHall$Stock;II)I"⟩ ∈ g_tbl := g_mem 479 (by decide +kernel) rfl
theorem m_480 : Cond.static ⟨"PatchHall$Rules", "turn", "(LPatchHall$Stock;II)I"⟩ ∈ g_tbl := g_mem 480 (by decide +kernel) rfl
theorem m_481 : Cond.code ⟨"PatchHall$Rules", "turn", "(LPatchHall$Stock;II)I"⟩ prog_6_method_2_code 3 (some .int) ∈ g_tbl := g_mem 481 (by decide +kernel) rfl
theorem m_482 : Cond.methodLink "PatchHall$Rules" 9 ⟨"PatchHall$Stock", "grow", "(III)V"⟩ ∈ g_tbl := g_mem 482 (by decide +kernel) rfl
theorem m_483 : Cond.instanceMethod ⟨"PatchHall$Stock", "grow", "(III)V"⟩ ∈ g_tbl := g_mem 483 (by decide +kernel) rfl
theorem m_484 : Cond.selects "PatchHall$Stock" ⟨"PatchHall$Stock", "grow", "(III)V"⟩ ⟨"PatchHall$Stock", "grow", "(III)V"⟩ ∈ g_tbl := g_mem 484 (by decide +kernel) rfl
theorem m_485 : Cond.code ⟨"PatchHall$Stock", "grow", "(III)V"⟩ prog_8_method_8_code 5 none ∈ g_tbl := g_mem 485 (by decide +kernel) rfl
theorem m_486 : Cond.methodLink "PatchHall$Rules" 15 ⟨"PatchHall$Stock", "trait", "(II)I"⟩ ∈ g_tbl := g_mem 486 (by decide +kernel) rfl
theorem m_487 : Cond.methodLink "PatchHall$Rules" 19 ⟨"PatchHall$Rules", "clip", "(LPatchHall$Stock;II)I"⟩ ∈ g_tbl := g_mem 487 (by decide +kernel) rfl
theorem m_488 : Cond.static ⟨"PatchHall$Rules", "clip", "(LPatchHall$Stock;II)I"⟩ ∈ g_tbl := g_mem 488 (by decide +kernel) rfl
theorem m_489 : Cond.code ⟨"PatchHall$Rules", "clip", "(LPatchHall$Stock;II)I"⟩ prog_6_method_3_code 4 (some .int) ∈ g_tbl := g_mem 489 (by decide +kernel) rfl
theorem m_490 : Cond.methodLink "PatchHall$Rules" 38 ⟨"java/lang/Math", "abs", "(I)I"⟩ ∈ g_tbl := g_mem 490 (by decide +kernel) rfl
theorem m_491 : Cond.static ⟨"java/lang/Math", "abs", "(I)I"⟩ ∈ g_tbl := g_mem 491 (by decide +kernel) rfl
theorem m_492 : Cond.code ⟨"java/lang/Math", "abs", "(I)I"⟩ prog_11_method_59_code 1 (some .int) ∈ g_tbl := g_mem 492 (by decide +kernel) rfl
theorem m_493 : Cond.methodLink "PatchHall$Rules" 44 ⟨"java/lang/Math", "min", "(II)I"⟩ ∈ g_tbl := g_mem 493 (by decide +kernel) rfl
theorem m_494 : Cond.methodLink "PatchHall$Rules" 47 ⟨"java/lang/Math", "max", "(II)I"⟩ ∈ g_tbl := g_mem 494 (by decide +kernel) rfl
theorem m_495 : Cond.methodLink "PatchHall$Rules" 25 ⟨"PatchHall$Rules", "bend", "(LPatchHall$Stock;III)I"⟩ ∈ g_tbl := g_mem 495 (by decide +kernel) rfl
theorem m_496 : Cond.static ⟨"PatchHall$Rules", "bend", "(LPatchHall$Stock;III)I"⟩ ∈ g_tbl := g_mem 496 (by decide +kernel) rfl
theorem m_497 : Cond.code ⟨"PatchHall$Rules", "bend", "(LPatchHall$Stock;III)I"⟩ prog_6_method_4_code 4 (some .int) ∈ g_tbl := g_mem 497 (by decide +kernel) rfl
theorem m_498 : Cond.methodLink "PatchHall$Rules" 29 ⟨"PatchHall$Rules", "echo", "(LPatchHall$Stock;II)I"⟩ ∈ g_tbl := g_mem 498 (by decide +kernel) rfl
theorem m_499 : Cond.static ⟨"PatchHall$Rules", "echo", "(LPatchHall$Stock;II)I"⟩ ∈ g_tbl := g_mem 499 (by decide +kernel) rfl
theorem m_500 : Cond.code ⟨"PatchHall$Rules", "echo", "(LPatchHall$Stock;II)I"⟩ prog_6_method_5_code 4 (some .int) ∈ g_tbl := g_mem 500 (by decide +kernel) rfl
theorem m_501 : Cond.methodLink "PatchHall$Rules" 50 ⟨"PatchHall$Stock", "setTrait", "(III)V"⟩ ∈ g_tbl := g_mem 501 (by decide +kernel) rfl
theorem m_502 : Cond.methodLink "PatchHall$Rules" 32 ⟨"PatchHall$Rules", "resound", "(LPatchHall$Stock;II)I"⟩ ∈ g_tbl := g_mem 502 (by decide +kernel) rfl
theorem m_503 : Cond.static ⟨"PatchHall$Rules", "resound", "(LPatchHall$Stock;II)I"⟩ ∈ g_tbl := g_mem 503 (by decide +kernel) rfl
theorem m_504 : Cond.code ⟨"PatchHall$Rules", "resound", "(LPatchHall$Stock;II)I"⟩ prog_6_method_6_code 3 (some .int) ∈ g_tbl := g_mem 504 (by decide +kernel) rfl
theorem m_505 : Cond.methodLink "PatchHall$Rules" 35 ⟨"PatchHall$Rules", "countIn", "(LPatchHall$Stock;II)I"⟩ ∈ g_tbl := g_mem 505 (by decide +kernel) rfl
theorem m_506 : Cond.static ⟨"PatchHall$Rules", "countIn", "(LPatchHall$Stock;II)I"⟩ ∈ g_tbl := g_mem 506 (by decide +kernel) rfl
theorem m_507 : Cond.code ⟨"PatchHall$Rules", "countIn", "(LPatchHall$Stock;II)I"⟩ prog_6_method_7_code 3 (some .int) ∈ g_tbl := g_mem 507 (by decide +kernel) rfl
theorem m_508 : Cond.methodLink "PatchHallLaw" 51 ⟨"PatchHall", "run", "(II)I"⟩ ∈ g_tbl := g_mem 508 (by decide +kernel) rfl
theorem m_509 : Cond.instanceMethod ⟨"PatchHall", "run", "(II)I"⟩ ∈ g_tbl := g_mem 509 (by decide +kernel) rfl
theorem m_510 : Cond.selects "PatchHall" ⟨"PatchHall", "run", "(II)I"⟩ ⟨"PatchHall", "run", "(II)I"⟩ ∈ g_tbl := g_mem 510 (by decide +kernel) rfl
theorem m_511 : Cond.code ⟨"PatchHall", "run", "(II)I"⟩ prog_1_method_10_code 3 (some .int) ∈ g_tbl := g_mem 511 (by decide +kernel) rfl
theorem m_512 : Cond.methodLink "PatchHall" 82 ⟨"PatchHall", "runOver", "(II)I"⟩ ∈ g_tbl := g_mem 512 (by decide +kernel) rfl
theorem m_514 : Cond.instanceMethod ⟨"PatchHall", "runOver", "(II)I"⟩ ∈ g_tbl := g_mem 514 (by decide +kernel) rfl
theorem m_515 : Cond.code ⟨"PatchHall", "runOver", "(II)I"⟩ prog_1_method_46_code 7 (some .int) ∈ g_tbl := g_mem 515 (by decide +kernel) rfl
theorem m_516 : Cond.methodLink "PatchHall" 150 ⟨"PatchHall$Stock", "places", "(I)I"⟩ ∈ g_tbl := g_mem 516 (by decide +kernel) rfl
theorem m_517 : Cond.methodLink "PatchHallLaw" 55 ⟨"PatchHall", "ticks", "(II)I"⟩ ∈ g_tbl := g_mem 517 (by decide +kernel) rfl
theorem m_518 : Cond.instanceMethod ⟨"PatchHall", "ticks", "(II)I"⟩ ∈ g_tbl := g_mem 518 (by decide +kernel) rfl
theorem m_519 : Cond.selects "PatchHall" ⟨"PatchHall", "ticks", "(II)I"⟩ ⟨"PatchHall", "ticks", "(II)I"⟩ ∈ g_tbl := g_mem 519 (by decide +kernel) rfl
theorem m_520 : Cond.code ⟨"PatchHall", "ticks", "(II)I"⟩ prog_1_method_11_code 3 (some .int) ∈ g_tbl := g_mem 520 (by decide +kernel) rfl
theorem m_521 : Cond.methodLink "PatchHall" 85 ⟨"PatchHall", "tickOn", "(II)I"⟩ ∈ g_tbl := g_mem 521 (by decide +kernel) rfl
theorem m_523 : Cond.instanceMethod ⟨"PatchHall", "tickOn", "(II)I"⟩ ∈ g_tbl := g_mem 523 (by decide +kernel) rfl
theorem m_524 : Cond.code ⟨"PatchHall", "tickOn", "(II)I"⟩ prog_1_method_47_code 6 (some .int) ∈ g_tbl := g_mem 524 (by decide +kernel) rfl
theorem m_525 : Cond.constant "PatchHall" 277 2101248 ∈ g_tbl := g_mem 525 (by decide +kernel) rfl
theorem m_526 : Cond.methodLink "PatchHall" 278 ⟨"PatchHall$Rules", "ticksBy", "(LPatchHall$Stock;II)I"⟩ ∈ g_tbl := g_mem 526 (by decide +kernel) rfl
theorem m_527 : Cond.static ⟨"PatchHall$Rules", "ticksBy", "(LPatchHall$Stock;II)I"⟩ ∈ g_tbl := g_mem 527 (by decide +kernel) rfl
theorem m_528 : Cond.code ⟨"PatchHall$Rules", "ticksBy", "(LPatchHall$Stock;II)I"⟩ prog_6_method_10_code 5 (some .int) ∈ g_tbl := g_mem 528 (by decide +kernel) rfl
theorem m_529 : Cond.methodLink "PatchHall$Rules" 57 ⟨"PatchHall$Rules", "tick", "(LPatchHall$Stock;II)I"⟩ ∈ g_tbl := g_mem 529 (by decide +kernel) rfl
theorem m_530 : Cond.static ⟨"PatchHall$Rules", "tick", "(LPatchHall$Stock;II)I"⟩ ∈ g_tbl := g_mem 530 (by decide +kernel) rfl
theorem m_531 : Cond.code ⟨"PatchHall$Rules", "tick", "(LPatchHall$Stock;II)I"⟩ prog_6_method_11_code 3 (some .int) ∈ g_tbl := g_mem 531 (by decide +kernel) rfl
theorem m_532 : Cond.methodLink "PatchHall$Rules" 53 ⟨"PatchHall$Stock", "isIn", "(II)Z"⟩ ∈ g_tbl := g_mem 532 (by decide +kernel) rfl
theorem m_533 : Cond.methodLink "PatchHallLaw" 59 ⟨"PatchHall", "rest", "(I)I"⟩ ∈ g_tbl := g_mem 533 (by decide +kernel) rfl
theorem m_534 : Cond.instanceMethod ⟨"PatchHall", "rest", "(I)I"⟩ ∈ g_tbl := g_mem 534 (by decide +kernel) rfl
theorem m_535 : Cond.selects "PatchHall" ⟨"PatchHall", "rest", "(I)I"⟩ ⟨"PatchHall", "rest", "(I)I"⟩ ∈ g_tbl := g_mem 535 (by decide +kernel) rfl
theorem m_536 : Cond.code ⟨"PatchHall", "rest", "(I)I"⟩ prog_1_method_12_code 2 (some .int) ∈ g_tbl := g_mem 536 (by decide +kernel) rfl
theorem m_537 : Cond.methodLink "PatchHall" 88 ⟨"PatchHall", "restAll", "(I)I"⟩ ∈ g_tbl := g_mem 537 (by decide +kernel) rfl
theorem m_539 : Cond.instanceMethod ⟨"PatchHall", "restAll", "(I)I"⟩ ∈ g_tbl := g_mem 539 (by decide +kernel) rfl
theorem m_540 : Cond.code ⟨"PatchHall", "restAll", "(I)I"⟩ prog_1_method_48_code 3 (some .int) ∈ g_tbl := g_mem 540 (by decide +kernel) rfl
theorem m_541 : Cond.methodLink "PatchHall" 281 ⟨"PatchHall$Rules", "putToRest", "(LPatchHall$Stock;I)V"⟩ ∈ g_tbl := g_mem 541 (by decide +kernel) rfl
theorem m_542 : Cond.static ⟨"PatchHall$Rules", "putToRest", "(LPatchHall$Stock;I)V"⟩ ∈ g_tbl := g_mem 542 (by decide +kernel) rfl
theorem m_543 : Cond.code ⟨"PatchHall$Rules", "putToRest", "(LPatchHall$Stock;I)V"⟩ prog_6_method_9_code 2 none ∈ g_tbl := g_mem 543 (by decide +kernel) rfl
theorem m_544 : Cond.methodLink "PatchHallLaw" 64 ⟨"PatchHall", "when", "(II)I"⟩ ∈ g_tbl := g_mem 544 (by decide +kernel) rfl
theorem m_545 : Cond.instanceMethod ⟨"PatchHall", "when", "(II)I"⟩ ∈ g_tbl := g_mem 545 (by decide +kernel) rfl
theorem m_546 : Cond.selects "PatchHall" ⟨"PatchHall", "when", "(II)I"⟩ ⟨"PatchHall", "when", "(II)I"⟩ ∈ g_tbl := g_mem 546 (by decide +kernel) rfl
theorem m_547 : Cond.code ⟨"PatchHall", "when", "(II)I"⟩ prog_1_method_13_code 3 (some .int) ∈ g_tbl := g_mem 547 (by decide +kernel) rfl
theorem m_548 : Cond.methodLink "PatchHallLaw" 68 ⟨"PatchHall", "begin", "()I"⟩ ∈ g_tbl := g_mem 548 (by decide +kernel) rfl
theorem m_549 : Cond.instanceMethod ⟨"PatchHall", "begin", "()I"⟩ ∈ g_tbl := g_mem 549 (by decide +kernel) rfl
theorem m_550 : Cond.selects "PatchHall" ⟨"PatchHall", "begin", "()I"⟩ ⟨"PatchHall", "begin", "()I"⟩ ∈ g_tbl := g_mem 550 (by decide +kernel) rfl
theorem m_551 : Cond.code ⟨"PatchHall", "begin", "()I"⟩ prog_1_method_14_code 1 (some .int) ∈ g_tbl := g_mem 551 (by decide +kernel) rfl
theorem m_552 : Cond.methodLink "PatchHall" 94 ⟨"PatchHall$Sheet", "startAnew", "()V"⟩ ∈ g_tbl := g_mem 552 (by decide +kernel) rfl
theorem m_553 : Cond.instanceMethod ⟨"PatchHall$Sheet", "startAnew", "()V"⟩ ∈ g_tbl := g_mem 553 (by decide +kernel) rfl
theorem m_554 : Cond.selects "PatchHall$Sheet" ⟨"PatchHall$Sheet", "startAnew", "()V"⟩ ⟨"PatchHall$Sheet", "startAnew", "()V"⟩ ∈ g_tbl := g_mem 554 (by decide +kernel) rfl
theorem m_555 : Cond.code ⟨"PatchHall$Sheet", "startAnew", "()V"⟩ prog_7_method_2_code 1 none ∈ g_tbl := g_mem 555 (by decide +kernel) rfl
theorem m_556 : Cond.methodLink "PatchHallLaw" 73 ⟨"PatchHall", "end", "()I"⟩ ∈ g_tbl := g_mem 556 (by decide +kernel) rfl
theorem m_557 : Cond.instanceMethod ⟨"PatchHall", "end", "()I"⟩ ∈ g_tbl := g_mem 557 (by decide +kernel) rfl
theorem m_558 : Cond.selects "PatchHall" ⟨"PatchHall", "end", "()I"⟩ ⟨"PatchHall", "end", "()I"⟩ ∈ g_tbl := g_mem 558 (by decide +kernel) rfl
theorem m_559 : Cond.code ⟨"PatchHall", "end", "()I"⟩ prog_1_method_15_code 1 (some .int) ∈ g_tbl := g_mem 559 (by decide +kernel) rfl
theorem m_560 : Cond.methodLink "PatchHallLaw" 77 ⟨"PatchHall", "carry", "(I)I"⟩ ∈ g_tbl := g_mem 560 (by decide +kernel) rfl
theorem m_561 : Cond.instanceMethod ⟨"PatchHall", "carry", "(I)I"⟩ ∈ g_tbl := g_mem 561 (by decide +kernel) rfl
theorem m_562 : Cond.selects "PatchHall" ⟨"PatchHall", "carry", "(I)I"⟩ ⟨"PatchHall", "carry", "(I)I"⟩ ∈ g_tbl := g_mem 562 (by decide +kernel) rfl
theorem m_563 : Cond.code ⟨"PatchHall", "carry", "(I)I"⟩ prog_1_method_16_code 8 (some .int) ∈ g_tbl := g_mem 563 (by decide +kernel) rfl
theorem m_564 : Cond.methodLink "PatchHall" 100 ⟨"PatchHall$Sheet", "lineNumbered", "(I)LPatchHall$Line;"⟩ ∈ g_tbl := g_mem 564 (by decide +kernel) rfl
theorem m_565 : Cond.instanceMethod ⟨"PatchHall$Sheet", "lineNumbered", "(I)LPatchHall$Line;"⟩ ∈ g_tbl := g_mem 565 (by decide +kernel) rfl
theorem m_566 : Cond.selects "PatchHall$Sheet" ⟨"PatchHall$Sheet", "lineNumbered", "(I)LPatchHall$Line;"⟩ ⟨"PatchHall$Sheet", "lineNumbered", "(I)LPatchHall$Line;"⟩ ∈ g_tbl := g_mem 566 (by decide +kernel) rfl
theorem m_567 : Cond.code ⟨"PatchHall$Sheet", "lineNumbered", "(I)LPatchHall$Line;"⟩ prog_7_method_5_code 2 (Option.some (.object "PatchHall$Line")) ∈ g_tbl := g_mem 567 (by decide +kernel) rfl
theorem m_568 : Cond.methodLink "PatchHall" 104 ⟨"PatchHall", "perform", "(LPatchHall$Line;)I"⟩ ∈ g_tbl := g_mem 568 (by decide +kernel) rfl
theorem m_570 : Cond.instanceMethod ⟨"PatchHall", "perform", "(LPatchHall$Line;)I"⟩ ∈ g_tbl := g_mem 570 (by decide +kernel) rfl
theorem m_571 : Cond.code ⟨"PatchHall", "perform", "(LPatchHall$Line;)I"⟩ prog_1_method_35_code 2 (some .int) ∈ g_tbl := g_mem 571 (by decide +kernel) rfl
theorem m_572 : Cond.methodLink "PatchHall" 120 ⟨"PatchHall", "askWhether", "(II)I"⟩ ∈ g_tbl := g_mem 572 (by decide +kernel) rfl
theorem m_574 : Cond.instanceMethod ⟨"PatchHall", "askWhether", "(II)I"⟩ ∈ g_tbl := g_mem 574 (by decide +kernel) rfl
theorem m_575 : Cond.code ⟨"PatchHall", "askWhether", "(II)I"⟩ prog_1_method_49_code 3 (some .int) ∈ g_tbl := g_mem 575 (by decide +kernel) rfl
theorem m_576 : Cond.methodLink "PatchHall" 127 ⟨"PatchHall$Kinds", "isKind", "(I)Z"⟩ ∈ g_tbl := g_mem 576 (by decide +kernel) rfl
theorem m_577 : Cond.methodLink "PatchHall" 110 ⟨"PatchHall", "isWhen", "(LPatchHall$Line;)Z"⟩ ∈ g_tbl := g_mem 577 (by decide +kernel) rfl
theorem m_578 : Cond.static ⟨"PatchHall", "isWhen", "(LPatchHall$Line;)Z"⟩ ∈ g_tbl := g_mem 578 (by decide +kernel) rfl
theorem m_579 : Cond.code ⟨"PatchHall", "isWhen", "(LPatchHall$Line;)Z"⟩ prog_1_method_34_code 1 (some .boolean) ∈ g_tbl := g_mem 579 (by decide +kernel) rfl
theorem m_580 : Cond.methodLink "PatchHallLaw" 81 ⟨"PatchHall", "undo", "()I"⟩ ∈ g_tbl := g_mem 580 (by decide +kernel) rfl
theorem m_581 : Cond.instanceMethod ⟨"PatchHall", "undo", "()I"⟩ ∈ g_tbl := g_mem 581 (by decide +kernel) rfl
theorem m_582 : Cond.selects "PatchHall" ⟨"PatchHall", "undo", "()I"⟩ ⟨"PatchHall", "undo", "()I"⟩ ∈ g_tbl := g_mem 582 (by decide +kernel) rfl
theorem m_583 : Cond.code ⟨"PatchHall", "undo", "()I"⟩ prog_1_method_17_code 1 (some .int) ∈ g_tbl := g_mem 583 (by decide +kernel) rfl
theorem m_584 : Cond.methodLink "PatchHall" 117 ⟨"PatchHall$Stock", "takeBackAct", "()V"⟩ ∈ g_tbl := g_mem 584 (by decide +kernel) rfl
theorem m_585 : Cond.instanceMethod ⟨"PatchHall$Stock", "takeBackAct", "()V"⟩ ∈ g_tbl := g_mem 585 (by decide +kernel) rfl
theorem m_586 : Cond.selects "PatchHall$Stock" ⟨"PatchHall$Stock", "takeBackAct", "()V"⟩ ⟨"PatchHall$Stock", "takeBackAct", "()V"⟩ ∈ g_tbl := g_mem 586 (by decide +kernel) rfl
theorem m_587 : Cond.code ⟨"PatchHall$Stock", "takeBackAct", "()V"⟩ prog_8_method_24_code 3 none ∈ g_tbl := g_mem 587 (by decide +kernel) rfl
theorem m_588 : Cond.methodLink "PatchHallLaw" 85 ⟨"PatchHall", "acts", "()I"⟩ ∈ g_tbl := g_mem 588 (by decide +kernel) rfl
theorem m_589 : Cond.instanceMethod ⟨"PatchHall", "acts", "()I"⟩ ∈ g_tbl := g_mem 589 (by decide +kernel) rfl
theorem m_590 : Cond.selects "PatchHall" ⟨"PatchHall", "acts", "()I"⟩ ⟨"PatchHall", "acts", "()I"⟩ ∈ g_tbl := g_mem 590 (by decide +kernel) rfl
theorem m_591 : Cond.code ⟨"PatchHall", "acts", "()I"⟩ prog_1_method_18_code 1 (some .int) ∈ g_tbl := g_mem 591 (by decide +kernel) rfl
theorem m_592 : Cond.methodLink "PatchHallLaw" 89 ⟨"PatchHall", "ask", "(II)I"⟩ ∈ g_tbl := g_mem 592 (by decide +kernel) rfl
theorem m_593 : Cond.instanceMethod ⟨"PatchHall", "ask", "(II)I"⟩ ∈ g_tbl := g_mem 593 (by decide +kernel) rfl
theorem m_594 : Cond.selects "PatchHall" ⟨"PatchHall", "ask", "(II)I"⟩ ⟨"PatchHall", "ask", "(II)I"⟩ ∈ g_tbl := g_mem 594 (by decide +kernel) rfl
theorem m_595 : Cond.code ⟨"PatchHall", "ask", "(II)I"⟩ prog_1_method_19_code 3 (some .int) ∈ g_tbl := g_mem 595 (by decide +kernel) rfl
theorem m_596 : Cond.methodLink "PatchHallLaw" 93 ⟨"PatchHall", "take", "(III)J"⟩ ∈ g_tbl := g_mem 596 (by decide +kernel) rfl
theorem m_597 : Cond.instanceMethod ⟨"PatchHall", "take", "(III)J"⟩ ∈ g_tbl := g_mem 597 (by decide +kernel) rfl
theorem m_598 : Cond.selects "PatchHall" ⟨"PatchHall", "take", "(III)J"⟩ ⟨"PatchHall", "take", "(III)J"⟩ ∈ g_tbl := g_mem 598 (by decide +kernel) rfl
theorem m_599 : Cond.code ⟨"PatchHall", "take", "(III)J"⟩ prog_1_method_20_code 5 (some .long) ∈ g_tbl := g_mem 599 (by decide +kernel) rfl
theorem m_600 : Cond.constant "PatchHall" 139 10739712 ∈ g_tbl := g_mem 600 (by decide +kernel) rfl
theorem m_601 : Cond.methodLink "PatchHall" 140 ⟨"PatchHall$Kinds", "isUnderAny", "(II)Z"⟩ ∈ g_tbl := g_mem 601 (by decide +kernel) rfl
theorem m_602 : Cond.methodLink "PatchHall" 143 ⟨"PatchHall", "takeFromRow", "(III)J"⟩ ∈ g_tbl := g_mem 602 (by decide +kernel) rfl
theorem m_604 : Cond.instanceMethod ⟨"PatchHall", "takeFromRow", "(III)J"⟩ ∈ g_tbl := g_mem 604 (by decide +kernel) rfl
theorem m_605 : Cond.code ⟨"PatchHall", "takeFromRow", "(III)J"⟩ prog_1_method_50_code 6 (some .long) ∈ g_tbl := g_mem 605 (by decide +kernel) rfl
theorem m_606 : Cond.constant "PatchHall" 162 8454144 ∈ g_tbl := g_mem 606 (by decide +kernel) rfl
theorem m_607 : Cond.methodLink "PatchHall" 147 ⟨"PatchHall", "takeFromOther", "(II)I"⟩ ∈ g_tbl := g_mem 607 (by decide +kernel) rfl
theorem m_609 : Cond.instanceMethod ⟨"PatchHall", "takeFromOther", "(II)I"⟩ ∈ g_tbl := g_mem 609 (by decide +kernel) rfl
theorem m_610 : Cond.code ⟨"PatchHall", "takeFromOther", "(II)I"⟩ prog_1_method_51_code 3 (some .int) ∈ g_tbl := g_mem 610 (by decide +kernel) rfl
theorem m_611 : Cond.methodLink "PatchHall" 170 ⟨"PatchHall$Rules", "load", "(LPatchHall$Stock;I)I"⟩ ∈ g_tbl := g_mem 611 (by decide +kernel) rfl
theorem m_612 : Cond.static ⟨"PatchHall$Rules", "load", "(LPatchHall$Stock;I)I"⟩ ∈ g_tbl := g_mem 612 (by decide +kernel) rfl
theorem m_613 : Cond.code ⟨"PatchHall$Rules", "load", "(LPatchHall$Stock;I)I"⟩ prog_6_method_8_code 3 (some .int) ∈ g_tbl := g_mem 613 (by decide +kernel) rfl
theorem m_614 : Cond.methodLink "PatchHall" 284 ⟨"java/lang/Math", "abs", "(I)I"⟩ ∈ g_tbl := g_mem 614 (by decide +kernel) rfl
theorem m_615 : Cond.methodLink "PatchHallLaw" 98 ⟨"PatchHall", "size", "(I)I"⟩ ∈ g_tbl := g_mem 615 (by decide +kernel) rfl
theorem m_616 : Cond.instanceMethod ⟨"PatchHall", "size", "(I)I"⟩ ∈ g_tbl := g_mem 616 (by decide +kernel) rfl
theorem m_617 : Cond.selects "PatchHall" ⟨"PatchHall", "size", "(I)I"⟩ ⟨"PatchHall", "size", "(I)I"⟩ ∈ g_tbl := g_mem 617 (by decide +kernel) rfl
theorem m_618 : Cond.code ⟨"PatchHall", "size", "(I)I"⟩ prog_1_method_21_code 2 (some .int) ∈ g_tbl := g_mem 618 (by decide +kernel) rfl
theorem m_619 : Cond.methodLink "PatchHallLaw" 102 ⟨"PatchHall", "read", "(II)J"⟩ ∈ g_tbl := g_mem 619 (by decide +kernel) rfl
theorem m_620 : Cond.instanceMethod ⟨"PatchHall", "read", "(II)J"⟩ ∈ g_tbl := g_mem 620 (by decide +kernel) rfl
theorem m_621 : Cond.selects "PatchHall" ⟨"PatchHall", "read", "(II)J"⟩ ⟨"PatchHall", "read", "(II)J"⟩ ∈ g_tbl := g_mem 621 (by decide +kernel) rfl
theorem m_622 : Cond.code ⟨"PatchHall", "read", "(II)J"⟩ prog_1_method_22_code 3 (some .long) ∈ g_tbl := g_mem 622 (by decide +kernel) rfl
theorem m_623 : Cond.methodLink "PatchHallLaw" 107 ⟨"PatchHall", "at", "(III)I"⟩ ∈ g_tbl := g_mem 623 (by decide +kernel) rfl
theorem m_624 : Cond.instanceMethod ⟨"PatchHall", "at", "(III)I"⟩ ∈ g_tbl := g_mem 624 (by decide +kernel) rfl
theorem m_625 : Cond.selects "PatchHall" ⟨"PatchHall", "at", "(III)I"⟩ ⟨"PatchHall", "at", "(III)I"⟩ ∈ g_tbl := g_mem 625 (by decide +kernel) rfl
theorem m_626 : Cond.code ⟨"PatchHall", "at", "(III)I"⟩ prog_1_method_23_code 6 (some .int) ∈ g_tbl := g_mem 626 (by decide +kernel) rfl
theorem m_627 : Cond.methodLink "PatchHallLaw" 111 ⟨"PatchHall", "tell", "(II)I"⟩ ∈ g_tbl := g_mem 627 (by decide +kernel) rfl
theorem m_628 : Cond.instanceMethod ⟨"PatchHall", "tell", "(II)I"⟩ ∈ g_tbl := g_mem 628 (by decide +kernel) rfl
theorem m_629 : Cond.selects "PatchHall" ⟨"PatchHall", "tell", "(II)I"⟩ ⟨"PatchHall", "tell", "(II)I"⟩ ∈ g_tbl := g_mem 629 (by decide +kernel) rfl
theorem m_630 : Cond.code ⟨"PatchHall", "tell", "(II)I"⟩ prog_1_method_24_code 4 (some .int) ∈ g_tbl := g_mem 630 (by decide +kernel) rfl
theorem m_631 : Cond.methodLink "PatchHallLaw" 115 ⟨"PatchHall", "why", "()I"⟩ ∈ g_tbl := g_mem 631 (by decide +kernel) rfl
theorem m_632 : Cond.instanceMethod ⟨"PatchHall", "why", "()I"⟩ ∈ g_tbl := g_mem 632 (by decide +kernel) rfl
theorem m_633 : Cond.selects "PatchHall" ⟨"PatchHall", "why", "()I"⟩ ⟨"PatchHall", "why", "()I"⟩ ∈ g_tbl := g_mem 633 (by decide +kernel) rfl
theorem m_634 : Cond.code ⟨"PatchHall", "why", "()I"⟩ prog_1_method_25_code 1 (some .int) ∈ g_tbl := g_mem 634 (by decide +kernel) rfl
theorem m_635 : Cond.classLink "PatchHallLaw" 10 "PatchHallModel" ∈ g_tbl := g_mem 635 (by decide +kernel) rfl
theorem m_636 : Cond.instantiable "PatchHallModel" 18 ∈ g_tbl := g_mem 636 (by decide +kernel) rfl
theorem m_637 : Cond.methodLink "PatchHallLaw" 12 ⟨"PatchHallModel", "<init>", "()V"⟩ ∈ g_tbl := g_mem 637 (by decide +kernel) rfl
theorem m_638 : Cond.instanceMethod ⟨"PatchHallModel", "<init>", "()V"⟩ ∈ g_tbl := g_mem 638 (by decide +kernel) rfl
theorem m_639 : Cond.code ⟨"PatchHallModel", "<init>", "()V"⟩ prog_10_method_1_code 1 none ∈ g_tbl := g_mem 639 (by decide +kernel) rfl
theorem m_640 : Cond.methodLink "PatchHallModel" 1 ⟨"java/lang/Object", "<init>", "()V"⟩ ∈ g_tbl := g_mem 640 (by decide +kernel) rfl
theorem m_641 : Cond.fieldLink "PatchHallModel" 7 "PatchHallModel" "above" "[I" ∈ g_tbl := g_mem 641 (by decide +kernel) rfl
theorem m_642 : Cond.fieldLink "PatchHallModel" 13 "PatchHallModel" "members" "[I" ∈ g_tbl := g_mem 642 (by decide +kernel) rfl
theorem m_643 : Cond.fieldLink "PatchHallModel" 16 "PatchHallModel" "state" "[I" ∈ g_tbl := g_mem 643 (by decide +kernel) rfl
theorem m_644 : Cond.fieldLink "PatchHallModel" 19 "PatchHallModel" "places" "[J" ∈ g_tbl := g_mem 644 (by decide +kernel) rfl
theorem m_645 : Cond.fieldLink "PatchHallModel" 23 "PatchHallModel" "stateBefore" "[I" ∈ g_tbl := g_mem 645 (by decide +kernel) rfl
theorem m_646 : Cond.fieldLink "PatchHallModel" 26 "PatchHallModel" "placesBefore" "[J" ∈ g_tbl := g_mem 646 (by decide +kernel) rfl
theorem m_647 : Cond.fieldLink "PatchHallModel" 29 "PatchHallModel" "acts" "[I" ∈ g_tbl := g_mem 647 (by decide +kernel) rfl
theorem m_648 : Cond.fieldLink "PatchHallModel" 32 "PatchHallModel" "actLongs" "[J" ∈ g_tbl := g_mem 648 (by decide +kernel) rfl
theorem m_649 : Cond.fieldLink "PatchHallModel" 184 "PatchHallModel" "actCount" "I" ∈ g_tbl := g_mem 649 (by decide +kernel) rfl
theorem m_650 : Cond.fieldLink "PatchHallModel" 35 "PatchHallModel" "lines" "[I" ∈ g_tbl := g_mem 650 (by decide +kernel) rfl
theorem m_651 : Cond.fieldLink "PatchHallModel" 38 "PatchHallModel" "lineLongs" "[J" ∈ g_tbl := g_mem 651 (by decide +kernel) rfl
theorem m_652 : Cond.fieldLink "PatchHallModel" 206 "PatchHallModel" "lineCount" "I" ∈ g_tbl := g_mem 652 (by decide +kernel) rfl
theorem m_653 : Cond.fieldLink "PatchHallModel" 213 "PatchHallModel" "sheetFrom" "I" ∈ g_tbl := g_mem 653 (by decide +kernel) rfl
theorem m_654 : Cond.fieldLink "PatchHallModel" 203 "PatchHallModel" "sheetSize" "I" ∈ g_tbl := g_mem 654 (by decide +kernel) rfl
theorem m_655 : Cond.fieldLink "PatchHallModel" 191 "PatchHallModel" "recording" "Z" ∈ g_tbl := g_mem 655 (by decide +kernel) rfl
theorem m_656 : Cond.fieldLink "PatchHallModel" 71 "PatchHallModel" "why" "I" ∈ g_tbl := g_mem 656 (by decide +kernel) rfl
theorem m_657 : Cond.fieldLink "PatchHallModel" 41 "PatchHallModel" "taken" "[J" ∈ g_tbl := g_mem 657 (by decide +kernel) rfl
theorem m_658 : Cond.fieldLink "PatchHallModel" 44 "PatchHallModel" "call" "[I" ∈ g_tbl := g_mem 658 (by decide +kernel) rfl
theorem m_696 : Cond.methodLink "PatchHallLaw" 17 ⟨"PatchHallModel", "make", "(III)I"⟩ ∈ g_tbl := g_mem 696 (by decide +kernel) rfl
theorem m_697 : Cond.instanceMethod ⟨"PatchHallModel", "make", "(III)I"⟩ ∈ g_tbl := g_mem 697 (by decide +kernel) rfl
theorem m_698 : Cond.selects "PatchHallModel" ⟨"PatchHallModel", "make", "(III)I"⟩ ⟨"PatchHallModel", "make", "(III)I"⟩ ∈ g_tbl := g_mem 698 (by decide +kernel) rfl
theorem m_699 : Cond.code ⟨"PatchHallModel", "make", "(III)I"⟩ prog_10_method_49_code 4 (some .int) ∈ g_tbl := g_mem 699 (by decide +kernel) rfl
theorem m_700 : Cond.methodLink "PatchHallModel" 209 ⟨"PatchHallModel", "called", "(IIIIIIJ)I"⟩ ∈ g_tbl := g_mem 700 (by decide +kernel) rfl
theorem m_702 : Cond.instanceMethod ⟨"PatchHallModel", "called", "(IIIIIIJ)I"⟩ ∈ g_tbl := g_mem 702 (by decide +kernel) rfl
theorem m_703 : Cond.code ⟨"PatchHallModel", "called", "(IIIIIIJ)I"⟩ prog_10_method_47_code 10 (some .int) ∈ g_tbl := g_mem 703 (by decide +kernel) rfl
theorem m_704 : Cond.methodLink "PatchHallModel" 195 ⟨"PatchHallModel", "lineMore", "(J)I"⟩ ∈ g_tbl := g_mem 704 (by decide +kernel) rfl
theorem m_706 : Cond.instanceMethod ⟨"PatchHallModel", "lineMore", "(J)I"⟩ ∈ g_tbl := g_mem 706 (by decide +kernel) rfl
theorem m_707 : Cond.code ⟨"PatchHallModel", "lineMore", "(J)I"⟩ prog_10_method_48_code 3 (some .int) ∈ g_tbl := g_mem 707 (by decide +kernel) rfl
theorem m_708 : Cond.methodLink "PatchHallModel" 101 ⟨"PatchHallModel", "refuse", "(I)I"⟩ ∈ g_tbl := g_mem 708 (by decide +kernel) rfl
theorem m_710 : Cond.instanceMethod ⟨"PatchHallModel", "refuse", "(I)I"⟩ ∈ g_tbl := g_mem 710 (by decide +kernel) rfl
theorem m_711 : Cond.code ⟨"PatchHallModel", "refuse", "(I)I"⟩ prog_10_method_17_code 2 (some .int) ∈ g_tbl := g_mem 711 (by decide +kernel) rfl
theorem m_712 : Cond.methodLink "PatchHallModel" 187 ⟨"PatchHallModel", "copyInts", "([II[III)V"⟩ ∈ g_tbl := g_mem 712 (by decide +kernel) rfl
theorem m_713 : Cond.static ⟨"PatchHallModel", "copyInts", "([II[III)V"⟩ ∈ g_tbl := g_mem 713 (by decide +kernel) rfl
theorem m_714 : Cond.code ⟨"PatchHallModel", "copyInts", "([II[III)V"⟩ prog_10_method_45_code 6 none ∈ g_tbl := g_mem 714 (by decide +kernel) rfl
theorem m_715 : Cond.methodLink "PatchHallModel" 180 ⟨"PatchHallModel", "done", "([IIJ)I"⟩ ∈ g_tbl := g_mem 715 (by decide +kernel) rfl
theorem m_717 : Cond.instanceMethod ⟨"PatchHallModel", "done", "([IIJ)I"⟩ ∈ g_tbl := g_mem 717 (by decide +kernel) rfl
theorem m_718 : Cond.code ⟨"PatchHallModel", "done", "([IIJ)I"⟩ prog_10_method_43_code 8 (some .int) ∈ g_tbl := g_mem 718 (by decide +kernel) rfl
theorem m_719 : Cond.methodLink "PatchHallModel" 142 ⟨"PatchHallModel", "makeNew", "(III)I"⟩ ∈ g_tbl := g_mem 719 (by decide +kernel) rfl
theorem m_721 : Cond.instanceMethod ⟨"PatchHallModel", "makeNew", "(III)I"⟩ ∈ g_tbl := g_mem 721 (by decide +kernel) rfl
theorem m_722 : Cond.code ⟨"PatchHallModel", "makeNew", "(III)I"⟩ prog_10_method_28_code 6 (some .int) ∈ g_tbl := g_mem 722 (by decide +kernel) rfl
theorem m_723 : Cond.methodLink "PatchHallModel" 98 ⟨"PatchHallModel", "isShelf", "(I)Z"⟩ ∈ g_tbl := g_mem 723 (by decide +kernel) rfl
theorem m_724 : Cond.static ⟨"PatchHallModel", "isShelf", "(I)Z"⟩ ∈ g_tbl := g_mem 724 (by decide +kernel) rfl
theorem m_725 : Cond.code ⟨"PatchHallModel", "isShelf", "(I)Z"⟩ prog_10_method_12_code 1 (some .boolean) ∈ g_tbl := g_mem 725 (by decide +kernel) rfl
theorem m_726 : Cond.methodLink "PatchHallModel" 65 ⟨"PatchHallModel", "isPart", "(I)Z"⟩ ∈ g_tbl := g_mem 726 (by decide +kernel) rfl
theorem m_728 : Cond.instanceMethod ⟨"PatchHallModel", "isPart", "(I)Z"⟩ ∈ g_tbl := g_mem 728 (by decide +kernel) rfl
theorem m_729 : Cond.code ⟨"PatchHallModel", "isPart", "(I)Z"⟩ prog_10_method_9_code 2 (some .boolean) ∈ g_tbl := g_mem 729 (by decide +kernel) rfl
theorem m_730 : Cond.methodLink "PatchHallModel" 62 ⟨"PatchHallModel", "isUnder", "(II)Z"⟩ ∈ g_tbl := g_mem 730 (by decide +kernel) rfl
theorem m_732 : Cond.instanceMethod ⟨"PatchHallModel", "isUnder", "(II)Z"⟩ ∈ g_tbl := g_mem 732 (by decide +kernel) rfl
theorem m_733 : Cond.code ⟨"PatchHallModel", "isUnder", "(II)Z"⟩ prog_10_method_8_code 3 (some .boolean) ∈ g_tbl := g_mem 733 (by decide +kernel) rfl
theorem m_734 : Cond.methodLink "PatchHallModel" 47 ⟨"PatchHallModel", "isPartUnder", "(II)Z"⟩ ∈ g_tbl := g_mem 734 (by decide +kernel) rfl
theorem m_736 : Cond.instanceMethod ⟨"PatchHallModel", "isPartUnder", "(II)Z"⟩ ∈ g_tbl := g_mem 736 (by decide +kernel) rfl
theorem m_737 : Cond.code ⟨"PatchHallModel", "isPartUnder", "(II)Z"⟩ prog_10_method_2_code 5 (some .boolean) ∈ g_tbl := g_mem 737 (by decide +kernel) rfl
theorem m_738 : Cond.methodLink "PatchHallModel" 51 ⟨"PatchHallModel", "isRowOf", "(I)Z"⟩ ∈ g_tbl := g_mem 738 (by decide +kernel) rfl
theorem m_739 : Cond.static ⟨"PatchHallModel", "isRowOf", "(I)Z"⟩ ∈ g_tbl := g_mem 739 (by decide +kernel) rfl
theorem m_740 : Cond.code ⟨"PatchHallModel", "isRowOf", "(I)Z"⟩ prog_10_method_3_code 1 (some .boolean) ∈ g_tbl := g_mem 740 (by decide +kernel) rfl
theorem m_741 : Cond.methodLink "PatchHallModel" 55 ⟨"PatchHallModel", "isBoard", "(I)Z"⟩ ∈ g_tbl := g_mem 741 (by decide +kernel) rfl
theorem m_742 : Cond.static ⟨"PatchHallModel", "isBoard", "(I)Z"⟩ ∈ g_tbl := g_mem 742 (by decide +kernel) rfl
theorem m_743 : Cond.code ⟨"PatchHallModel", "isBoard", "(I)Z"⟩ prog_10_method_4_code 1 (some .boolean) ∈ g_tbl := g_mem 743 (by decide +kernel) rfl
theorem m_744 : Cond.methodLink "PatchHallModel" 58 ⟨"PatchHallModel", "memberOf", "(I)I"⟩ ∈ g_tbl := g_mem 744 (by decide +kernel) rfl
theorem m_746 : Cond.instanceMethod ⟨"PatchHallModel", "memberOf", "(I)I"⟩ ∈ g_tbl := g_mem 746 (by decide +kernel) rfl
theorem m_747 : Cond.code ⟨"PatchHallModel", "memberOf", "(I)I"⟩ prog_10_method_7_code 2 (some .int) ∈ g_tbl := g_mem 747 (by decide +kernel) rfl
theorem m_748 : Cond.methodLink "PatchHallModel" 146 ⟨"PatchHallModel", "layOn", "(II)I"⟩ ∈ g_tbl := g_mem 748 (by decide +kernel) rfl
theorem m_750 : Cond.instanceMethod ⟨"PatchHallModel", "layOn", "(II)I"⟩ ∈ g_tbl := g_mem 750 (by decide +kernel) rfl
theorem m_751 : Cond.code ⟨"PatchHallModel", "layOn", "(II)I"⟩ prog_10_method_29_code 3 (some .int) ∈ g_tbl := g_mem 751 (by decide +kernel) rfl
theorem m_752 : Cond.methodLink "PatchHallModel" 149 ⟨"PatchHallModel", "plugIn", "(III)I"⟩ ∈ g_tbl := g_mem 752 (by decide +kernel) rfl
theorem m_754 : Cond.instanceMethod ⟨"PatchHallModel", "plugIn", "(III)I"⟩ ∈ g_tbl := g_mem 754 (by decide +kernel) rfl
theorem m_755 : Cond.code ⟨"PatchHallModel", "plugIn", "(III)I"⟩ prog_10_method_31_code 8 (some .int) ∈ g_tbl := g_mem 755 (by decide +kernel) rfl
theorem m_756 : Cond.methodLink "PatchHallModel" 113 ⟨"PatchHallModel", "reasonOfPlace", "(II)I"⟩ ∈ g_tbl := g_mem 756 (by decide +kernel) rfl
theorem m_758 : Cond.instanceMethod ⟨"PatchHallModel", "reasonOfPlace", "(II)I"⟩ ∈ g_tbl := g_mem 758 (by decide +kernel) rfl
theorem m_759 : Cond.code ⟨"PatchHallModel", "reasonOfPlace", "(II)I"⟩ prog_10_method_30_code 3 (some .int) ∈ g_tbl := g_mem 759 (by decide +kernel) rfl
theorem m_760 : Cond.methodLink "PatchHallModel" 104 ⟨"PatchHallModel", "on", "(I)I"⟩ ∈ g_tbl := g_mem 760 (by decide +kernel) rfl
theorem m_762 : Cond.instanceMethod ⟨"PatchHallModel", "on", "(I)I"⟩ ∈ g_tbl := g_mem 762 (by decide +kernel) rfl
theorem m_763 : Cond.code ⟨"PatchHallModel", "on", "(I)I"⟩ prog_10_method_13_code 2 (some .int) ∈ g_tbl := g_mem 763 (by decide +kernel) rfl
theorem m_764 : Cond.methodLink "PatchHallModel" 78 ⟨"PatchHallModel", "kindOf", "(I)I"⟩ ∈ g_tbl := g_mem 764 (by decide +kernel) rfl
theorem m_766 : Cond.instanceMethod ⟨"PatchHallModel", "kindOf", "(I)I"⟩ ∈ g_tbl := g_mem 766 (by decide +kernel) rfl
theorem m_767 : Cond.code ⟨"PatchHallModel", "kindOf", "(I)I"⟩ prog_10_method_14_code 2 (some .int) ∈ g_tbl := g_mem 767 (by decide +kernel) rfl
theorem m_768 : Cond.methodLink "PatchHallModel" 107 ⟨"PatchHallModel", "isRowOfThings", "(I)Z"⟩ ∈ g_tbl := g_mem 768 (by decide +kernel) rfl
theorem m_769 : Cond.static ⟨"PatchHallModel", "isRowOfThings", "(I)Z"⟩ ∈ g_tbl := g_mem 769 (by decide +kernel) rfl
theorem m_770 : Cond.code ⟨"PatchHallModel", "isRowOfThings", "(I)Z"⟩ prog_10_method_6_code 1 (some .boolean) ∈ g_tbl := g_mem 770 (by decide +kernel) rfl
theorem m_771 : Cond.methodLink "PatchHallModel" 110 ⟨"PatchHallModel", "hasPlace", "(II)Z"⟩ ∈ g_tbl := g_mem 771 (by decide +kernel) rfl
theorem m_773 : Cond.instanceMethod ⟨"PatchHallModel", "hasPlace", "(II)Z"⟩ ∈ g_tbl := g_mem 773 (by decide +kernel) rfl
theorem m_774 : Cond.code ⟨"PatchHallModel", "hasPlace", "(II)Z"⟩ prog_10_method_16_code 3 (some .boolean) ∈ g_tbl := g_mem 774 (by decide +kernel) rfl
theorem m_775 : Cond.methodLink "PatchHallModel" 68 ⟨"PatchHallModel", "lengthOf", "(I)I"⟩ ∈ g_tbl := g_mem 775 (by decide +kernel) rfl
theorem m_777 : Cond.instanceMethod ⟨"PatchHallModel", "lengthOf", "(I)I"⟩ ∈ g_tbl := g_mem 777 (by decide +kernel) rfl
theorem m_778 : Cond.code ⟨"PatchHallModel", "lengthOf", "(I)I"⟩ prog_10_method_15_code 2 (some .int) ∈ g_tbl := g_mem 778 (by decide +kernel) rfl
theorem m_779 : Cond.methodLink "PatchHallModel" 116 ⟨"PatchHallModel", "fits", "(IJ)Z"⟩ ∈ g_tbl := g_mem 779 (by decide +kernel) rfl
theorem m_781 : Cond.instanceMethod ⟨"PatchHallModel", "fits", "(IJ)Z"⟩ ∈ g_tbl := g_mem 781 (by decide +kernel) rfl
theorem m_782 : Cond.code ⟨"PatchHallModel", "fits", "(IJ)Z"⟩ prog_10_method_11_code 5 (some .boolean) ∈ g_tbl := g_mem 782 (by decide +kernel) rfl
theorem m_783 : Cond.methodLink "PatchHallModel" 85 ⟨"PatchHallModel", "thingAt", "(II)I"⟩ ∈ g_tbl := g_mem 783 (by decide +kernel) rfl
theorem m_785 : Cond.instanceMethod ⟨"PatchHallModel", "thingAt", "(II)I"⟩ ∈ g_tbl := g_mem 785 (by decide +kernel) rfl
theorem m_786 : Cond.code ⟨"PatchHallModel", "thingAt", "(II)I"⟩ prog_10_method_24_code 3 (some .int) ∈ g_tbl := g_mem 786 (by decide +kernel) rfl
theorem m_787 : Cond.methodLink "PatchHallModel" 152 ⟨"PatchHallModel", "pullOut", "(III)I"⟩ ∈ g_tbl := g_mem 787 (by decide +kernel) rfl
theorem m_789 : Cond.instanceMethod ⟨"PatchHallModel", "pullOut", "(III)I"⟩ ∈ g_tbl := g_mem 789 (by decide +kernel) rfl
theorem m_790 : Cond.code ⟨"PatchHallModel", "pullOut", "(III)I"⟩ prog_10_method_32_code 5 (some .int) ∈ g_tbl := g_mem 790 (by decide +kernel) rfl
theorem m_791 : Cond.methodLink "PatchHallModel" 155 ⟨"PatchHallModel", "copyOver", "(IIIII)I"⟩ ∈ g_tbl := g_mem 791 (by decide +kernel) rfl
theorem m_793 : Cond.instanceMethod ⟨"PatchHallModel", "copyOver", "(IIIII)I"⟩ ∈ g_tbl := g_mem 793 (by decide +kernel) rfl
theorem m_794 : Cond.code ⟨"PatchHallModel", "copyOver", "(IIIII)I"⟩ prog_10_method_34_code 9 (some .int) ∈ g_tbl := g_mem 794 (by decide +kernel) rfl
theorem m_795 : Cond.methodLink "PatchHallModel" 123 ⟨"PatchHallModel", "reasonOfCopy", "(IIIII)I"⟩ ∈ g_tbl := g_mem 795 (by decide +kernel) rfl
theorem m_797 : Cond.instanceMethod ⟨"PatchHallModel", "reasonOfCopy", "(IIIII)I"⟩ ∈ g_tbl := g_mem 797 (by decide +kernel) rfl
theorem m_798 : Cond.code ⟨"PatchHallModel", "reasonOfCopy", "(IIIII)I"⟩ prog_10_method_33_code 8 (some .int) ∈ g_tbl := g_mem 798 (by decide +kernel) rfl
theorem m_799 : Cond.methodLink "PatchHallModel" 120 ⟨"PatchHallModel", "isNumberRow", "(I)Z"⟩ ∈ g_tbl := g_mem 799 (by decide +kernel) rfl
theorem m_800 : Cond.static ⟨"PatchHallModel", "isNumberRow", "(I)Z"⟩ ∈ g_tbl := g_mem 800 (by decide +kernel) rfl
theorem m_801 : Cond.code ⟨"PatchHallModel", "isNumberRow", "(I)Z"⟩ prog_10_method_5_code 1 (some .boolean) ∈ g_tbl := g_mem 801 (by decide +kernel) rfl
theorem m_802 : Cond.methodLink "PatchHallModel" 158 ⟨"PatchHallModel", "writeIn", "(IIJ)I"⟩ ∈ g_tbl := g_mem 802 (by decide +kernel) rfl
theorem m_804 : Cond.instanceMethod ⟨"PatchHallModel", "writeIn", "(IIJ)I"⟩ ∈ g_tbl := g_mem 804 (by decide +kernel) rfl
theorem m_805 : Cond.code ⟨"PatchHallModel", "writeIn", "(IIJ)I"⟩ prog_10_method_35_code 6 (some .int) ∈ g_tbl := g_mem 805 (by decide +kernel) rfl
theorem m_806 : Cond.methodLink "PatchHallModel" 162 ⟨"PatchHallModel", "knobTo", "(II)I"⟩ ∈ g_tbl := g_mem 806 (by decide +kernel) rfl
theorem m_808 : Cond.instanceMethod ⟨"PatchHallModel", "knobTo", "(II)I"⟩ ∈ g_tbl := g_mem 808 (by decide +kernel) rfl
theorem m_809 : Cond.code ⟨"PatchHallModel", "knobTo", "(II)I"⟩ prog_10_method_36_code 4 (some .int) ∈ g_tbl := g_mem 809 (by decide +kernel) rfl
theorem m_810 : Cond.methodLink "PatchHallModel" 165 ⟨"PatchHallModel", "playBy", "(II)I"⟩ ∈ g_tbl := g_mem 810 (by decide +kernel) rfl
theorem m_812 : Cond.instanceMethod ⟨"PatchHallModel", "playBy", "(II)I"⟩ ∈ g_tbl := g_mem 812 (by decide +kernel) rfl
theorem m_813 : Cond.code ⟨"PatchHallModel", "playBy", "(II)I"⟩ prog_10_method_38_code 4 (some .int) ∈ g_tbl := g_mem 813 (by decide +kernel) rfl
theorem m_814 : Cond.methodLink "PatchHallModel" 130 ⟨"PatchHallModel", "reasonOfPlay", "(I)I"⟩ ∈ g_tbl := g_mem 814 (by decide +kernel) rfl
theorem m_816 : Cond.instanceMethod ⟨"PatchHallModel", "reasonOfPlay", "(I)I"⟩ ∈ g_tbl := g_mem 816 (by decide +kernel) rfl
theorem m_817 : Cond.code ⟨"PatchHallModel", "reasonOfPlay", "(I)I"⟩ prog_10_method_37_code 2 (some .int) ∈ g_tbl := g_mem 817 (by decide +kernel) rfl
theorem m_818 : Cond.methodLink "PatchHallModel" 127 ⟨"PatchHallModel", "isPlayed", "(I)Z"⟩ ∈ g_tbl := g_mem 818 (by decide +kernel) rfl
theorem m_820 : Cond.instanceMethod ⟨"PatchHallModel", "isPlayed", "(I)Z"⟩ ∈ g_tbl := g_mem 820 (by decide +kernel) rfl
theorem m_821 : Cond.code ⟨"PatchHallModel", "isPlayed", "(I)Z"⟩ prog_10_method_10_code 2 (some .boolean) ∈ g_tbl := g_mem 821 (by decide +kernel) rfl
theorem m_822 : Cond.methodLink "PatchHallModel" 133 ⟨"PatchHallModel", "playThing", "(II)I"⟩ ∈ g_tbl := g_mem 822 (by decide +kernel) rfl
theorem m_824 : Cond.instanceMethod ⟨"PatchHallModel", "playThing", "(II)I"⟩ ∈ g_tbl := g_mem 824 (by decide +kernel) rfl
theorem m_825 : Cond.code ⟨"PatchHallModel", "playThing", "(II)I"⟩ prog_10_method_26_code 6 (some .int) ∈ g_tbl := g_mem 825 (by decide +kernel) rfl
theorem m_826 : Cond.methodLink "PatchHallModel" 88 ⟨"PatchHallModel", "turn", "(II)I"⟩ ∈ g_tbl := g_mem 826 (by decide +kernel) rfl
theorem m_828 : Cond.instanceMethod ⟨"PatchHallModel", "turn", "(II)I"⟩ ∈ g_tbl := g_mem 828 (by decide +kernel) rfl
theorem m_829 : Cond.code ⟨"PatchHallModel", "turn", "(II)I"⟩ prog_10_method_20_code 5 (some .int) ∈ g_tbl := g_mem 829 (by decide +kernel) rfl
theorem m_830 : Cond.methodLink "PatchHallModel" 81 ⟨"PatchHallModel", "clipped", "(II)I"⟩ ∈ g_tbl := g_mem 830 (by decide +kernel) rfl
theorem m_832 : Cond.instanceMethod ⟨"PatchHallModel", "clipped", "(II)I"⟩ ∈ g_tbl := g_mem 832 (by decide +kernel) rfl
theorem m_833 : Cond.code ⟨"PatchHallModel", "clipped", "(II)I"⟩ prog_10_method_19_code 4 (some .int) ∈ g_tbl := g_mem 833 (by decide +kernel) rfl
theorem m_834 : Cond.methodLink "PatchHallModel" 75 ⟨"PatchHallModel", "sizeOf", "(I)I"⟩ ∈ g_tbl := g_mem 834 (by decide +kernel) rfl
theorem m_835 : Cond.static ⟨"PatchHallModel", "sizeOf", "(I)I"⟩ ∈ g_tbl := g_mem 835 (by decide +kernel) rfl
theorem m_836 : Cond.code ⟨"PatchHallModel", "sizeOf", "(I)I"⟩ prog_10_method_18_code 1 (some .int) ∈ g_tbl := g_mem 836 (by decide +kernel) rfl
theorem m_837 : Cond.methodLink "PatchHallModel" 91 ⟨"PatchHallModel", "playRow", "(II)I"⟩ ∈ g_tbl := g_mem 837 (by decide +kernel) rfl
theorem m_839 : Cond.instanceMethod ⟨"PatchHallModel", "playRow", "(II)I"⟩ ∈ g_tbl := g_mem 839 (by decide +kernel) rfl
theorem m_840 : Cond.code ⟨"PatchHallModel", "playRow", "(II)I"⟩ prog_10_method_25_code 6 (some .int) ∈ g_tbl := g_mem 840 (by decide +kernel) rfl
theorem m_841 : Cond.methodLink "PatchHallModel" 168 ⟨"PatchHallModel", "runOver", "(II)I"⟩ ∈ g_tbl := g_mem 841 (by decide +kernel) rfl
theorem m_843 : Cond.instanceMethod ⟨"PatchHallModel", "runOver", "(II)I"⟩ ∈ g_tbl := g_mem 843 (by decide +kernel) rfl
theorem m_844 : Cond.code ⟨"PatchHallModel", "runOver", "(II)I"⟩ prog_10_method_39_code 5 (some .int) ∈ g_tbl := g_mem 844 (by decide +kernel) rfl
theorem m_845 : Cond.methodLink "PatchHallModel" 171 ⟨"PatchHallModel", "ticksBy", "(II)I"⟩ ∈ g_tbl := g_mem 845 (by decide +kernel) rfl
theorem m_847 : Cond.instanceMethod ⟨"PatchHallModel", "ticksBy", "(II)I"⟩ ∈ g_tbl := g_mem 847 (by decide +kernel) rfl
theorem m_848 : Cond.code ⟨"PatchHallModel", "ticksBy", "(II)I"⟩ prog_10_method_40_code 7 (some .int) ∈ g_tbl := g_mem 848 (by decide +kernel) rfl
theorem m_849 : Cond.methodLink "PatchHallModel" 136 ⟨"PatchHallModel", "ticksOf", "(II)I"⟩ ∈ g_tbl := g_mem 849 (by decide +kernel) rfl
theorem m_851 : Cond.instanceMethod ⟨"PatchHallModel", "ticksOf", "(II)I"⟩ ∈ g_tbl := g_mem 851 (by decide +kernel) rfl
theorem m_852 : Cond.code ⟨"PatchHallModel", "ticksOf", "(II)I"⟩ prog_10_method_23_code 5 (some .int) ∈ g_tbl := g_mem 852 (by decide +kernel) rfl
theorem m_853 : Cond.methodLink "PatchHallModel" 174 ⟨"PatchHallModel", "restOf", "(I)I"⟩ ∈ g_tbl := g_mem 853 (by decide +kernel) rfl
theorem m_855 : Cond.instanceMethod ⟨"PatchHallModel", "restOf", "(I)I"⟩ ∈ g_tbl := g_mem 855 (by decide +kernel) rfl
theorem m_856 : Cond.code ⟨"PatchHallModel", "restOf", "(I)I"⟩ prog_10_method_41_code 7 (some .int) ∈ g_tbl := g_mem 856 (by decide +kernel) rfl
theorem m_857 : Cond.methodLink "PatchHallModel" 94 ⟨"PatchHallModel", "calm", "(I)V"⟩ ∈ g_tbl := g_mem 857 (by decide +kernel) rfl
theorem m_859 : Cond.instanceMethod ⟨"PatchHallModel", "calm", "(I)V"⟩ ∈ g_tbl := g_mem 859 (by decide +kernel) rfl
theorem m_860 : Cond.code ⟨"PatchHallModel", "calm", "(I)V"⟩ prog_10_method_22_code 3 none ∈ g_tbl := g_mem 860 (by decide +kernel) rfl
theorem m_861 : Cond.methodLink "PatchHallModel" 139 ⟨"PatchHallModel", "calmRow", "(I)I"⟩ ∈ g_tbl := g_mem 861 (by decide +kernel) rfl
theorem m_863 : Cond.instanceMethod ⟨"PatchHallModel", "calmRow", "(I)I"⟩ ∈ g_tbl := g_mem 863 (by decide +kernel) rfl
theorem m_864 : Cond.code ⟨"PatchHallModel", "calmRow", "(I)I"⟩ prog_10_method_27_code 5 (some .int) ∈ g_tbl := g_mem 864 (by decide +kernel) rfl
theorem m_865 : Cond.methodLink "PatchHallModel" 177 ⟨"PatchHallModel", "whenUnder", "(II)I"⟩ ∈ g_tbl := g_mem 865 (by decide +kernel) rfl
theorem m_867 : Cond.instanceMethod ⟨"PatchHallModel", "whenUnder", "(II)I"⟩ ∈ g_tbl := g_mem 867 (by decide +kernel) rfl
theorem m_868 : Cond.code ⟨"PatchHallModel", "whenUnder", "(II)I"⟩ prog_10_method_42_code 3 (some .int) ∈ g_tbl := g_mem 868 (by decide +kernel) rfl
theorem m_869 : Cond.methodLink "PatchHallModel" 199 ⟨"PatchHallModel", "keepAct", "(J)V"⟩ ∈ g_tbl := g_mem 869 (by decide +kernel) rfl
theorem m_871 : Cond.instanceMethod ⟨"PatchHallModel", "keepAct", "(J)V"⟩ ∈ g_tbl := g_mem 871 (by decide +kernel) rfl
theorem m_872 : Cond.code ⟨"PatchHallModel", "keepAct", "(J)V"⟩ prog_10_method_46_code 3 none ∈ g_tbl := g_mem 872 (by decide +kernel) rfl
theorem m_873 : Cond.methodLink "PatchHallLaw" 22 ⟨"PatchHallModel", "lay", "(II)I"⟩ ∈ g_tbl := g_mem 873 (by decide +kernel) rfl
theorem m_874 : Cond.instanceMethod ⟨"PatchHallModel", "lay", "(II)I"⟩ ∈ g_tbl := g_mem 874 (by decide +kernel) rfl
theorem m_875 : Cond.selects "PatchHallModel" ⟨"PatchHallModel", "lay", "(II)I"⟩ ⟨"PatchHallModel", "lay", "(II)I"⟩ ∈ g_tbl := g_mem 875 (by decide +kernel) rfl
theorem m_876 : Cond.code ⟨"PatchHallModel", "lay", "(II)I"⟩ prog_10_method_50_code 3 (some .int) ∈ g_tbl := g_mem 876 (by decide +kernel) rfl
theorem m_877 : Cond.methodLink "PatchHallLaw" 26 ⟨"PatchHallModel", "plug", "(III)I"⟩ ∈ g_tbl := g_mem 877 (by decide +kernel) rfl
theorem m_878 : Cond.instanceMethod ⟨"PatchHallModel", "plug", "(III)I"⟩ ∈ g_tbl := g_mem 878 (by decide +kernel) rfl
theorem m_879 : Cond.selects "PatchHallModel" ⟨"PatchHallModel", "plug", "(III)I"⟩ ⟨"PatchHallModel", "plug", "(III)I"⟩ ∈ g_tbl := g_mem 879 (by decide +kernel) rfl
theorem m_880 : Cond.code ⟨"PatchHallModel", "plug", "(III)I"⟩ prog_10_method_51_code 4 (some .int) ∈ g_tbl := g_mem 880 (by decide +kernel) rfl
theorem m_881 : Cond.methodLink "PatchHallLaw" 30 ⟨"PatchHallModel", "pull", "(III)I"⟩ ∈ g_tbl := g_mem 881 (by decide +kernel) rfl
theorem m_882 : Cond.instanceMethod ⟨"PatchHallModel", "pull", "(III)I"⟩ ∈ g_tbl := g_mem 882 (by decide +kernel) rfl
theorem m_883 : Cond.selects "PatchHallModel" ⟨"PatchHallModel", "pull", "(III)I"⟩ ⟨"PatchHallModel", "pull", "(III)I"⟩ ∈ g_tbl := g_mem 883 (by decide +kernel) rfl
theorem m_884 : Cond.code ⟨"PatchHallModel", "pull", "(III)I"⟩ prog_10_method_52_code 4 (some .int) ∈ g_tbl := g_mem 884 (by decide +kernel) rfl
theorem m_885 : Cond.methodLink "PatchHallLaw" 35 ⟨"PatchHallModel", "copy", "(IIIII)I"⟩ ∈ g_tbl := g_mem 885 (by decide +kernel) rfl
theorem m_886 : Cond.instanceMethod ⟨"PatchHallModel", "copy", "(IIIII)I"⟩ ∈ g_tbl := g_mem 886 (by decide +kernel) rfl
theorem m_887 : Cond.selects "PatchHallModel" ⟨"PatchHallModel", "copy", "(IIIII)I"⟩ ⟨"PatchHallModel", "copy", "(IIIII)I"⟩ ∈ g_tbl := g_mem 887 (by decide +kernel) rfl
theorem m_888 : Cond.code ⟨"PatchHallModel", "copy", "(IIIII)I"⟩ prog_10_method_53_code 6 (some .int) ∈ g_tbl := g_mem 888 (by decide +kernel) rfl
theorem m_889 : Cond.methodLink "PatchHallLaw" 42 ⟨"PatchHallModel", "write", "(IIJ)I"⟩ ∈ g_tbl := g_mem 889 (by decide +kernel) rfl
theorem m_890 : Cond.instanceMethod ⟨"PatchHallModel", "write", "(IIJ)I"⟩ ∈ g_tbl := g_mem 890 (by decide +kernel) rfl
theorem m_891 : Cond.selects "PatchHallModel" ⟨"PatchHallModel", "write", "(IIJ)I"⟩ ⟨"PatchHallModel", "write", "(IIJ)I"⟩ ∈ g_tbl := g_mem 891 (by decide +kernel) rfl
theorem m_892 : Cond.code ⟨"PatchHallModel", "write", "(IIJ)I"⟩ prog_10_method_54_code 5 (some .int) ∈ g_tbl := g_mem 892 (by decide +kernel) rfl
theorem m_893 : Cond.methodLink "PatchHallLaw" 46 ⟨"PatchHallModel", "knob", "(II)I"⟩ ∈ g_tbl := g_mem 893 (by decide +kernel) rfl
theorem m_894 : Cond.instanceMethod ⟨"PatchHallModel", "knob", "(II)I"⟩ ∈ g_tbl := g_mem 894 (by decide +kernel) rfl
theorem m_895 : Cond.selects "PatchHallModel" ⟨"PatchHallModel", "knob", "(II)I"⟩ ⟨"PatchHallModel", "knob", "(II)I"⟩ ∈ g_tbl := g_mem 895 (by decide +kernel) rfl
theorem m_896 : Cond.code ⟨"PatchHallModel", "knob", "(II)I"⟩ prog_10_method_55_code 3 (some .int) ∈ g_tbl := g_mem 896 (by decide +kernel) rfl
theorem m_897 : Cond.methodLink "PatchHallLaw" 50 ⟨"PatchHallModel", "play", "(II)I"⟩ ∈ g_tbl := g_mem 897 (by decide +kernel) rfl
theorem m_898 : Cond.instanceMethod ⟨"PatchHallModel", "play", "(II)I"⟩ ∈ g_tbl := g_mem 898 (by decide +kernel) rfl
theorem m_899 : Cond.selects "PatchHallModel" ⟨"PatchHallModel", "play", "(II)I"⟩ ⟨"PatchHallModel", "play", "(II)I"⟩ ∈ g_tbl := g_mem 899 (by decide +kernel) rfl
theorem m_900 : Cond.code ⟨"PatchHallModel", "play", "(II)I"⟩ prog_10_method_56_code 3 (some .int) ∈ g_tbl := g_mem 900 (by decide +kernel) rfl
theorem m_901 : Cond.methodLink "PatchHallLaw" 54 ⟨"PatchHallModel", "run", "(II)I"⟩ ∈ g_tbl := g_mem 901 (by decide +kernel) rfl
theorem m_902 : Cond.instanceMethod ⟨"PatchHallModel", "run", "(II)I"⟩ ∈ g_tbl := g_mem 902 (by decide +kernel) rfl
theorem m_903 : Cond.selects "PatchHallModel" ⟨"PatchHallModel", "run", "(II)I"⟩ ⟨"PatchHallModel", "run", "(II)I"⟩ ∈ g_tbl := g_mem 903 (by decide +kernel) rfl
theorem m_904 : Cond.code ⟨"PatchHallModel", "run", "(II)I"⟩ prog_10_method_57_code 3 (some .int) ∈ g_tbl := g_mem 904 (by decide +kernel) rfl
theorem m_905 : Cond.methodLink "PatchHallLaw" 58 ⟨"PatchHallModel", "ticks", "(II)I"⟩ ∈ g_tbl := g_mem 905 (by decide +kernel) rfl
theorem m_906 : Cond.instanceMethod ⟨"PatchHallModel", "ticks", "(II)I"⟩ ∈ g_tbl := g_mem 906 (by decide +kernel) rfl
theorem m_907 : Cond.selects "PatchHallModel" ⟨"PatchHallModel", "ticks", "(II)I"⟩ ⟨"PatchHallModel", "ticks", "(II)I"⟩ ∈ g_tbl := g_mem 907 (by decide +kernel) rfl
theorem m_908 : Cond.code ⟨"PatchHallModel", "ticks", "(II)I"⟩ prog_10_method_58_code 3 (some .int) ∈ g_tbl := g_mem 908 (by decide +kernel) rfl
theorem m_909 : Cond.methodLink "PatchHallLaw" 63 ⟨"PatchHallModel", "rest", "(I)I"⟩ ∈ g_tbl := g_mem 909 (by decide +kernel) rfl
theorem m_910 : Cond.instanceMethod ⟨"PatchHallModel", "rest", "(I)I"⟩ ∈ g_tbl := g_mem 910 (by decide +kernel) rfl
theorem m_911 : Cond.selects "PatchHallModel" ⟨"PatchHallModel", "rest", "(I)I"⟩ ⟨"PatchHallModel", "rest", "(I)I"⟩ ∈ g_tbl := g_mem 911 (by decide +kernel) rfl
theorem m_912 : Cond.code ⟨"PatchHallModel", "rest", "(I)I"⟩ prog_10_method_59_code 2 (some .int) ∈ g_tbl := g_mem 912 (by decide +kernel) rfl
theorem m_913 : Cond.methodLink "PatchHallLaw" 67 ⟨"PatchHallModel", "when", "(II)I"⟩ ∈ g_tbl := g_mem 913 (by decide +kernel) rfl
theorem m_914 : Cond.instanceMethod ⟨"PatchHallModel", "when", "(II)I"⟩ ∈ g_tbl := g_mem 914 (by decide +kernel) rfl
theorem m_915 : Cond.selects "PatchHallModel" ⟨"PatchHallModel", "when", "(II)I"⟩ ⟨"PatchHallModel", "when", "(II)I"⟩ ∈ g_tbl := g_mem 915 (by decide +kernel) rfl
theorem m_916 : Cond.code ⟨"PatchHallModel", "when", "(II)I"⟩ prog_10_method_60_code 3 (some .int) ∈ g_tbl := g_mem 916 (by decide +kernel) rfl
theorem m_917 : Cond.methodLink "PatchHallLaw" 72 ⟨"PatchHallModel", "begin", "()I"⟩ ∈ g_tbl := g_mem 917 (by decide +kernel) rfl
theorem m_918 : Cond.instanceMethod ⟨"PatchHallModel", "begin", "()I"⟩ ∈ g_tbl := g_mem 918 (by decide +kernel) rfl
theorem m_919 : Cond.selects "PatchHallModel" ⟨"PatchHallModel", "begin", "()I"⟩ ⟨"PatchHallModel", "begin", "()I"⟩ ∈ g_tbl := g_mem 919 (by decide +kernel) rfl
theorem m_920 : Cond.code ⟨"PatchHallModel", "begin", "()I"⟩ prog_10_method_61_code 1 (some .int) ∈ g_tbl := g_mem 920 (by decide +kernel) rfl
theorem m_921 : Cond.methodLink "PatchHallLaw" 76 ⟨"PatchHallModel", "end", "()I"⟩ ∈ g_tbl := g_mem 921 (by decide +kernel) rfl
theorem m_922 : Cond.instanceMethod ⟨"PatchHallModel", "end", "()I"⟩ ∈ g_tbl := g_mem 922 (by decide +kernel) rfl
theorem m_923 : Cond.selects "PatchHallModel" ⟨"PatchHallModel", "end", "()I"⟩ ⟨"PatchHallModel", "end", "()I"⟩ ∈ g_tbl := g_mem 923 (by decide +kernel) rfl
theorem m_924 : Cond.code ⟨"PatchHallModel", "end", "()I"⟩ prog_10_method_62_code 1 (some .int) ∈ g_tbl := g_mem 924 (by decide +kernel) rfl
theorem m_925 : Cond.methodLink "PatchHallLaw" 80 ⟨"PatchHallModel", "carry", "(I)I"⟩ ∈ g_tbl := g_mem 925 (by decide +kernel) rfl
theorem m_926 : Cond.instanceMethod ⟨"PatchHallModel", "carry", "(I)I"⟩ ∈ g_tbl := g_mem 926 (by decide +kernel) rfl
theorem m_927 : Cond.selects "PatchHallModel" ⟨"PatchHallModel", "carry", "(I)I"⟩ ⟨"PatchHallModel", "carry", "(I)I"⟩ ∈ g_tbl := g_mem 927 (by decide +kernel) rfl
theorem m_928 : Cond.code ⟨"PatchHallModel", "carry", "(I)I"⟩ prog_10_method_65_code 3 (some .int) ∈ g_tbl := g_mem 928 (by decide +kernel) rfl
theorem m_929 : Cond.methodLink "PatchHallModel" 216 ⟨"PatchHallModel", "keepState", "()V"⟩ ∈ g_tbl := g_mem 929 (by decide +kernel) rfl
theorem m_931 : Cond.instanceMethod ⟨"PatchHallModel", "keepState", "()V"⟩ ∈ g_tbl := g_mem 931 (by decide +kernel) rfl
theorem m_932 : Cond.code ⟨"PatchHallModel", "keepState", "()V"⟩ prog_10_method_63_code 2 none ∈ g_tbl := g_mem 932 (by decide +kernel) rfl
theorem m_933 : Cond.methodLink "PatchHallModel" 219 ⟨"PatchHallModel", "carried", "(III)I"⟩ ∈ g_tbl := g_mem 933 (by decide +kernel) rfl
theorem m_935 : Cond.instanceMethod ⟨"PatchHallModel", "carried", "(III)I"⟩ ∈ g_tbl := g_mem 935 (by decide +kernel) rfl
theorem m_936 : Cond.code ⟨"PatchHallModel", "carried", "(III)I"⟩ prog_10_method_44_code 9 (some .int) ∈ g_tbl := g_mem 936 (by decide +kernel) rfl
theorem m_937 : Cond.methodLink "PatchHallModel" 222 ⟨"PatchHallModel", "putBack", "()V"⟩ ∈ g_tbl := g_mem 937 (by decide +kernel) rfl
theorem m_939 : Cond.instanceMethod ⟨"PatchHallModel", "putBack", "()V"⟩ ∈ g_tbl := g_mem 939 (by decide +kernel) rfl
theorem m_940 : Cond.code ⟨"PatchHallModel", "putBack", "()V"⟩ prog_10_method_64_code 2 none ∈ g_tbl := g_mem 940 (by decide +kernel) rfl
theorem m_941 : Cond.methodLink "PatchHallLaw" 84 ⟨"PatchHallModel", "undo", "()I"⟩ ∈ g_tbl := g_mem 941 (by decide +kernel) rfl
theorem m_942 : Cond.instanceMethod ⟨"PatchHallModel", "undo", "()I"⟩ ∈ g_tbl := g_mem 942 (by decide +kernel) rfl
theorem m_943 : Cond.selects "PatchHallModel" ⟨"PatchHallModel", "undo", "()I"⟩ ⟨"PatchHallModel", "undo", "()I"⟩ ∈ g_tbl := g_mem 943 (by decide +kernel) rfl
theorem m_944 : Cond.code ⟨"PatchHallModel", "undo", "()I"⟩ prog_10_method_66_code 4 (some .int) ∈ g_tbl := g_mem 944 (by decide +kernel) rfl
theorem m_945 : Cond.methodLink "PatchHallLaw" 88 ⟨"PatchHallModel", "acts", "()I"⟩ ∈ g_tbl := g_mem 945 (by decide +kernel) rfl
theorem m_946 : Cond.instanceMethod ⟨"PatchHallModel", "acts", "()I"⟩ ∈ g_tbl := g_mem 946 (by decide +kernel) rfl
theorem m_947 : Cond.selects "PatchHallModel" ⟨"PatchHallModel", "acts", "()I"⟩ ⟨"PatchHallModel", "acts", "()I"⟩ ∈ g_tbl := g_mem 947 (by decide +kernel) rfl
theorem m_948 : Cond.code ⟨"PatchHallModel", "acts", "()I"⟩ prog_10_method_67_code 1 (some .int) ∈ g_tbl := g_mem 948 (by decide +kernel) rfl
theorem m_949 : Cond.methodLink "PatchHallLaw" 92 ⟨"PatchHallModel", "ask", "(II)I"⟩ ∈ g_tbl := g_mem 949 (by decide +kernel) rfl
theorem m_950 : Cond.instanceMethod ⟨"PatchHallModel", "ask", "(II)I"⟩ ∈ g_tbl := g_mem 950 (by decide +kernel) rfl
theorem m_951 : Cond.selects "PatchHallModel" ⟨"PatchHallModel", "ask", "(II)I"⟩ ⟨"PatchHallModel", "ask", "(II)I"⟩ ∈ g_tbl := g_mem 951 (by decide +kernel) rfl
theorem m_952 : Cond.code ⟨"PatchHallModel", "ask", "(II)I"⟩ prog_10_method_68_code 3 (some .int) ∈ g_tbl := g_mem 952 (by decide +kernel) rfl
theorem m_953 : Cond.methodLink "PatchHallLaw" 97 ⟨"PatchHallModel", "take", "(III)J"⟩ ∈ g_tbl := g_mem 953 (by decide +kernel) rfl
theorem m_954 : Cond.instanceMethod ⟨"PatchHallModel", "take", "(III)J"⟩ ∈ g_tbl := g_mem 954 (by decide +kernel) rfl
theorem m_955 : Cond.selects "PatchHallModel" ⟨"PatchHallModel", "take", "(III)J"⟩ ⟨"PatchHallModel", "take", "(III)J"⟩ ∈ g_tbl := g_mem 955 (by decide +kernel) rfl
theorem m_956 : Cond.code ⟨"PatchHallModel", "take", "(III)J"⟩ prog_10_method_70_code 5 (some .long) ∈ g_tbl := g_mem 956 (by decide +kernel) rfl
theorem m_957 : Cond.methodLink "PatchHallModel" 228 ⟨"PatchHallModel", "toldAs", "(III)J"⟩ ∈ g_tbl := g_mem 957 (by decide +kernel) rfl
theorem m_959 : Cond.instanceMethod ⟨"PatchHallModel", "toldAs", "(III)J"⟩ ∈ g_tbl := g_mem 959 (by decide +kernel) rfl
theorem m_960 : Cond.code ⟨"PatchHallModel", "toldAs", "(III)J"⟩ prog_10_method_69_code 4 (some .long) ∈ g_tbl := g_mem 960 (by decide +kernel) rfl
theorem m_961 : Cond.methodLink "PatchHallModel" 225 ⟨"PatchHallModel", "load", "(I)I"⟩ ∈ g_tbl := g_mem 961 (by decide +kernel) rfl
theorem m_963 : Cond.instanceMethod ⟨"PatchHallModel", "load", "(I)I"⟩ ∈ g_tbl := g_mem 963 (by decide +kernel) rfl
theorem m_964 : Cond.code ⟨"PatchHallModel", "load", "(I)I"⟩ prog_10_method_21_code 3 (some .int) ∈ g_tbl := g_mem 964 (by decide +kernel) rfl
theorem m_965 : Cond.methodLink "PatchHallLaw" 101 ⟨"PatchHallModel", "size", "(I)I"⟩ ∈ g_tbl := g_mem 965 (by decide +kernel) rfl
theorem m_966 : Cond.instanceMethod ⟨"PatchHallModel", "size", "(I)I"⟩ ∈ g_tbl := g_mem 966 (by decide +kernel) rfl
theorem m_967 : Cond.selects "PatchHallModel" ⟨"PatchHallModel", "size", "(I)I"⟩ ⟨"PatchHallModel", "size", "(I)I"⟩ ∈ g_tbl := g_mem 967 (by decide +kernel) rfl
theorem m_968 : Cond.code ⟨"PatchHallModel", "size", "(I)I"⟩ prog_10_method_71_code 2 (some .int) ∈ g_tbl := g_mem 968 (by decide +kernel) rfl
theorem m_969 : Cond.methodLink "PatchHallLaw" 106 ⟨"PatchHallModel", "read", "(II)J"⟩ ∈ g_tbl := g_mem 969 (by decide +kernel) rfl
theorem m_970 : Cond.instanceMethod ⟨"PatchHallModel", "read", "(II)J"⟩ ∈ g_tbl := g_mem 970 (by decide +kernel) rfl
theorem m_971 : Cond.selects "PatchHallModel" ⟨"PatchHallModel", "read", "(II)J"⟩ ⟨"PatchHallModel", "read", "(II)J"⟩ ∈ g_tbl := g_mem 971 (by decide +kernel) rfl
theorem m_972 : Cond.code ⟨"PatchHallModel", "read", "(II)J"⟩ prog_10_method_72_code 3 (some .long) ∈ g_tbl := g_mem 972 (by decide +kernel) rfl
theorem m_973 : Cond.methodLink "PatchHallLaw" 110 ⟨"PatchHallModel", "at", "(III)I"⟩ ∈ g_tbl := g_mem 973 (by decide +kernel) rfl
theorem m_974 : Cond.instanceMethod ⟨"PatchHallModel", "at", "(III)I"⟩ ∈ g_tbl := g_mem 974 (by decide +kernel) rfl
theorem m_975 : Cond.selects "PatchHallModel" ⟨"PatchHallModel", "at", "(III)I"⟩ ⟨"PatchHallModel", "at", "(III)I"⟩ ∈ g_tbl := g_mem 975 (by decide +kernel) rfl
theorem m_976 : Cond.code ⟨"PatchHallModel", "at", "(III)I"⟩ prog_10_method_73_code 6 (some .int) ∈ g_tbl := g_mem 976 (by decide +kernel) rfl
theorem m_977 : Cond.methodLink "PatchHallLaw" 114 ⟨"PatchHallModel", "tell", "(II)I"⟩ ∈ g_tbl := g_mem 977 (by decide +kernel) rfl
theorem m_978 : Cond.instanceMethod ⟨"PatchHallModel", "tell", "(II)I"⟩ ∈ g_tbl := g_mem 978 (by decide +kernel) rfl
theorem m_979 : Cond.selects "PatchHallModel" ⟨"PatchHallModel", "tell", "(II)I"⟩ ⟨"PatchHallModel", "tell", "(II)I"⟩ ∈ g_tbl := g_mem 979 (by decide +kernel) rfl
theorem m_980 : Cond.code ⟨"PatchHallModel", "tell", "(II)I"⟩ prog_10_method_74_code 4 (some .int) ∈ g_tbl := g_mem 980 (by decide +kernel) rfl
theorem m_981 : Cond.methodLink "PatchHallLaw" 118 ⟨"PatchHallModel", "why", "()I"⟩ ∈ g_tbl := g_mem 981 (by decide +kernel) rfl
theorem m_982 : Cond.instanceMethod ⟨"PatchHallModel", "why", "()I"⟩ ∈ g_tbl := g_mem 982 (by decide +kernel) rfl
theorem m_983 : Cond.selects "PatchHallModel" ⟨"PatchHallModel", "why", "()I"⟩ ⟨"PatchHallModel", "why", "()I"⟩ ∈ g_tbl := g_mem 983 (by decide +kernel) rfl
theorem m_984 : Cond.code ⟨"PatchHallModel", "why", "()I"⟩ prog_10_method_75_code 1 (some .int) ∈ g_tbl := g_mem 984 (by decide +kernel) rfl
theorem m_985 : Cond.constantLong "PatchHallLaw" 36 4294967295 ∈ g_tbl := g_mem 985 (by decide +kernel) rfl
def g_nest : List Cond := [Cond.fieldLinkNest "PatchHall" 114 "PatchHall$Stock" "actsKept" "I" "PatchHall", Cond.methodLinkNest "PatchHall" 18 ⟨"PatchHall$Chain", "<init>", "()V"⟩ "PatchHall", Cond.fieldLinkNest "PatchHall" 269 "PatchHall$Chain" "length" "I" "PatchHall", Cond.methodLinkNest "PatchHall" 25 ⟨"PatchHall$Sheet", "<init>", "()V"⟩ "PatchHall", Cond.fieldLinkNest "PatchHall" 97 "PatchHall$Sheet" "length" "I" "PatchHall", Cond.fieldLinkNest "PatchHall" 34 "PatchHall$Sheet" "recording" "Z" "PatchHall", Cond.fieldLinkNest "PatchHall" 192 "PatchHall$Line" "call" "I" "PatchHall", Cond.fieldLinkNest "PatchHall" 195 "PatchHall$Line" "a" "I" "PatchHall", Cond.fieldLinkNest "PatchHall" 198 "PatchHall$Line" "b" "I" "PatchHall", Cond.fieldLinkNest "PatchHall" 201 "PatchHall$Line" "c" "J" "PatchHall", Cond.fieldLinkNest "PatchHall" 205 "PatchHall$Line" "d" "I" "PatchHall", Cond.fieldLinkNest "PatchHall" 208 "PatchHall$Line" "e" "I" "PatchHall", Cond.methodLinkNest "PatchHall$Stock" 28 ⟨"PatchHall", "isShelf", "(I)Z"⟩ "PatchHall", Cond.fieldLinkNest "PatchHall$Stock" 103 "PatchHall$Change" "length" "I" "PatchHall", Cond.fieldLinkNest "PatchHall$Stock" 106 "PatchHall$Change" "cells" "[I" "PatchHall", Cond.fieldLinkNest "PatchHall$Stock" 109 "PatchHall$Change" "before" "[J" "PatchHall", Cond.fieldLinkNest "PatchHall$Stock" 112 "PatchHall$Change" "earlier" "LPatchHall$Change;" "PatchHall"]
theorem n_0 : Cond.fieldLinkNest "PatchHall" 114 "PatchHall$Stock" "actsKept" "I" "PatchHall" ∈ g_nest := List.mem_of_getElem? (i := 0) rfl
theorem n_1 : Cond.methodLinkNest "PatchHall" 18 ⟨"PatchHall$Chain", "<init>", "()V"⟩ "PatchHall" ∈ g_nest := List.mem_of_getElem? (i := 1) rfl
theorem n_2 : Cond.fieldLinkNest "PatchHall" 269 "PatchHall$Chain" "length" "I" "PatchHall" ∈ g_nest := List.mem_of_getElem? (i := 2) rfl
theorem n_3 : Cond.methodLinkNest "PatchHall" 25 ⟨"PatchHall$Sheet", "<init>", "()V"⟩ "PatchHall" ∈ g_nest := List.mem_of_getElem? (i := 3) rfl
theorem n_4 : Cond.fieldLinkNest "PatchHall" 97 "PatchHall$Sheet" "length" "I" "PatchHall" ∈ g_nest := List.mem_of_getElem? (i := 4) rfl
theorem n_5 : Cond.fieldLinkNest "PatchHall" 34 "PatchHall$Sheet" "recording" "Z" "PatchHall" ∈ g_nest := List.mem_of_getElem? (i := 5) rfl
theorem n_6 : Cond.fieldLinkNest "PatchHall" 192 "PatchHall$Line" "call" "I" "PatchHall" ∈ g_nest := List.mem_of_getElem? (i := 6) rfl
theorem n_7 : Cond.fieldLinkNest "PatchHall" 195 "PatchHall$Line" "a" "I" "PatchHall" ∈ g_nest := List.mem_of_getElem? (i := 7) rfl
theorem n_8 : Cond.fieldLinkNest "PatchHall" 198 "PatchHall$Line" "b" "I" "PatchHall" ∈ g_nest := List.mem_of_getElem? (i := 8) rfl
theorem n_9 : Cond.fieldLinkNest "PatchHall" 201 "PatchHall$Line" "c" "J" "PatchHall" ∈ g_nest := List.mem_of_getElem? (i := 9) rfl
theorem n_10 : Cond.fieldLinkNest "PatchHall" 205 "PatchHall$Line" "d" "I" "PatchHall" ∈ g_nest := List.mem_of_getElem? (i := 10) rfl
theorem n_11 : Cond.fieldLinkNest "PatchHall" 208 "PatchHall$Line" "e" "I" "PatchHall" ∈ g_nest := List.mem_of_getElem? (i := 11) rfl
theorem n_12 : Cond.methodLinkNest "PatchHall$Stock" 28 ⟨"PatchHall", "isShelf", "(I)Z"⟩ "PatchHall" ∈ g_nest := List.mem_of_getElem? (i := 12) rfl
theorem n_13 : Cond.fieldLinkNest "PatchHall$Stock" 103 "PatchHall$Change" "length" "I" "PatchHall" ∈ g_nest := List.mem_of_getElem? (i := 13) rfl
theorem n_14 : Cond.fieldLinkNest "PatchHall$Stock" 106 "PatchHall$Change" "cells" "[I" "PatchHall" ∈ g_nest := List.mem_of_getElem? (i := 14) rfl
theorem n_15 : Cond.fieldLinkNest "PatchHall$Stock" 109 "PatchHall$Change" "before" "[J" "PatchHall" ∈ g_nest := List.mem_of_getElem? (i := 15) rfl
theorem n_16 : Cond.fieldLinkNest "PatchHall$Stock" 112 "PatchHall$Change" "earlier" "LPatchHall$Change;" "PatchHall" ∈ g_nest := List.mem_of_getElem? (i := 16) rfl
end
section
theorem dX8_init_0 : decode cX8_init 0 = .ok (.aload_n 0, 1) := by decide +kernel
theorem dX8_init_1 : decode cX8_init 1 = .ok (.invokespecial 1, 3) := by decide +kernel
theorem dX8_init_4 : decode cX8_init 4 = .ok (.aload_n 0, 1) := by decide +kernel
theorem dX8_init_5 : decode cX8_init 5 = .ok (.bipush 13, 2) := by decide +kernel
theorem dX8_init_7 : decode cX8_init 7 = .ok (.newarray .int, 2) := by decide +kernel
theorem dX8_init_9 : decode cX8_init 9 = .ok (.dup, 1) := by decide +kernel
theorem dX8_init_10 : decode cX8_init 10 = .ok (.iconst 0, 1) := by decide +kernel
theorem dX8_init_11 : decode cX8_init 11 = .ok (.iconst (-1), 1) := by decide +kernel
theorem dX8_init_12 : decode cX8_init 12 = .ok (.iastore, 1) := by decide +kernel
theorem dX8_init_13 : decode cX8_init 13 = .ok (.dup, 1) := by decide +kernel
theorem dX8_init_14 : decode cX8_init 14 = .ok (.iconst 1, 1) := by decide +kernel
theorem dX8_init_15 : decode cX8_init 15 = .ok (.iconst 0, 1) := by decide +kernel
theorem dX8_init_16 : decode cX8_init 16 = .ok (.iastore, 1) := by decide +kernel
theorem dX8_init_17 : decode cX8_init 17 = .ok (.dup, 1) := by decide +kernel
theorem dX8_init_18 : decode cX8_init 18 = .ok (.iconst 2, 1) := by decide +kernel
theorem dX8_init_19 : decode cX8_init 19 = .ok (.iconst 1, 1) := by decide +kernel
theorem dX8_init_20 : decode cX8_init 20 = .ok (.iastore, 1) := by decide +kernel
theorem dX8_init_21 : decode cX8_init 21 = .ok (.dup, 1) := by decide +kernel
theorem dX8_init_22 : decode cX8_init 22 = .ok (.iconst 3, 1) := by decide +kernel
theorem dX8_init_23 : decode cX8_init 23 = .ok (.iconst 2, 1) := by decide +kernel
theorem dX8_init_24 : decode cX8_init 24 = .ok (.iastore, 1) := by decide +kernel
theorem dX8_init_25 : decode cX8_init 25 = .ok (.dup, 1) := by decide +kernel
theorem dX8_init_26 : decode cX8_init 26 = .ok (.iconst 4, 1) := by decide +kernel
theorem dX8_init_27 : decode cX8_init 27 = .ok (.iconst 3, 1) := by decide +kernel
theorem dX8_init_28 : decode cX8_init 28 = .ok (.iastore, 1) := by decide +kernel
theorem dX8_init_29 : decode cX8_init 29 = .ok (.dup, 1) := by decide +kernel
theorem dX8_init_30 : decode cX8_init 30 = .ok (.iconst 5, 1) := by decide +kernel
theorem dX8_init_31 : decode cX8_init 31 = .ok (.iconst 0, 1) := by decide +kernel
theorem dX8_init_32 : decode cX8_init 32 = .ok (.iastore, 1) := by decide +kernel
theorem dX8_init_33 : decode cX8_init 33 = .ok (.dup, 1) := by decide +kernel
theorem dX8_init_34 : decode cX8_init 34 = .ok (.bipush 6, 2) := by decide +kernel
theorem dX8_init_36 : decode cX8_init 36 = .ok (.iconst 5, 1) := by decide +kernel
theorem dX8_init_37 : decode cX8_init 37 = .ok (.iastore, 1) := by decide +kernel
theorem dX8_init_38 : decode cX8_init 38 = .ok (.dup, 1) := by decide +kernel
theorem dX8_init_39 : decode cX8_init 39 = .ok (.bipush 7, 2) := by decide +kernel
theorem dX8_init_41 : decode cX8_init 41 = .ok (.bipush 6, 2) := by decide +kernel
theorem dX8_init_43 : decode cX8_init 43 = .ok (.iastore, 1) := by decide +kernel
theorem dX8_init_44 : decode cX8_init 44 = .ok (.dup, 1) := by decide +kernel
theorem dX8_init_45 : decode cX8_init 45 = .ok (.bipush 8, 2) := by decide +kernel
theorem dX8_init_47 : decode cX8_init 47 = .ok (.bipush 7, 2) := by decide +kernel
theorem dX8_init_49 : decode cX8_init 49 = .ok (.iastore, 1) := by decide +kernel
theorem dX8_init_50 : decode cX8_init 50 = .ok (.dup, 1) := by decide +kernel
theorem dX8_init_51 : decode cX8_init 51 = .ok (.bipush 9, 2) := by decide +kernel
theorem dX8_init_53 : decode cX8_init 53 = .ok (.iconst 0, 1) := by decide +kernel
theorem dX8_init_54 : decode cX8_init 54 = .ok (.iastore, 1) := by decide +kernel
theorem dX8_init_55 : decode cX8_init 55 = .ok (.dup, 1) := by decide +kernel
theorem dX8_init_56 : decode cX8_init 56 = .ok (.bipush 10, 2) := by decide +kernel
theorem dX8_init_58 : decode cX8_init 58 = .ok (.bipush 9, 2) := by decide +kernel
theorem dX8_init_60 : decode cX8_init 60 = .ok (.iastore, 1) := by decide +kernel
theorem dX8_init_61 : decode cX8_init 61 = .ok (.dup, 1) := by decide +kernel
theorem dX8_init_62 : decode cX8_init 62 = .ok (.bipush 11, 2) := by decide +kernel
theorem dX8_init_64 : decode cX8_init 64 = .ok (.bipush 12, 2) := by decide +kernel
theorem dX8_init_66 : decode cX8_init 66 = .ok (.iastore, 1) := by decide +kernel
theorem dX8_init_67 : decode cX8_init 67 = .ok (.dup, 1) := by decide +kernel
theorem dX8_init_68 : decode cX8_init 68 = .ok (.bipush 12, 2) := by decide +kernel
theorem dX8_init_70 : decode cX8_init 70 = .ok (.iconst (-1), 1) := by decide +kernel
theorem dX8_init_71 : decode cX8_init 71 = .ok (.iastore, 1) := by decide +kernel
theorem dX8_init_72 : decode cX8_init 72 = .ok (.putfield 7, 3) := by decide +kernel
theorem dX8_init_75 : decode cX8_init 75 = .ok (.aload_n 0, 1) := by decide +kernel
theorem dX8_init_76 : decode cX8_init 76 = .ok (.bipush 8, 2) := by decide +kernel
theorem dX8_init_78 : decode cX8_init 78 = .ok (.newarray .int, 2) := by decide +kernel
theorem dX8_init_80 : decode cX8_init 80 = .ok (.dup, 1) := by decide +kernel
theorem dX8_init_81 : decode cX8_init 81 = .ok (.iconst 0, 1) := by decide +kernel
theorem dX8_init_82 : decode cX8_init 82 = .ok (.iconst 0, 1) := by decide +kernel
theorem dX8_init_83 : decode cX8_init 83 = .ok (.iastore, 1) := by decide +kernel
theorem dX8_init_84 : decode cX8_init 84 = .ok (.dup, 1) := by decide +kernel
theorem dX8_init_85 : decode cX8_init 85 = .ok (.iconst 1, 1) := by decide +kernel
theorem dX8_init_86 : decode cX8_init 86 = .ok (.iconst 1, 1) := by decide +kernel
theorem dX8_init_87 : decode cX8_init 87 = .ok (.iastore, 1) := by decide +kernel
theorem dX8_init_88 : decode cX8_init 88 = .ok (.dup, 1) := by decide +kernel
theorem dX8_init_89 : decode cX8_init 89 = .ok (.iconst 2, 1) := by decide +kernel
theorem dX8_init_90 : decode cX8_init 90 = .ok (.iconst 2, 1) := by decide +kernel
theorem dX8_init_91 : decode cX8_init 91 = .ok (.iastore, 1) := by decide +kernel
theorem dX8_init_92 : decode cX8_init 92 = .ok (.dup, 1) := by decide +kernel
theorem dX8_init_93 : decode cX8_init 93 = .ok (.iconst 3, 1) := by decide +kernel
theorem dX8_init_94 : decode cX8_init 94 = .ok (.bipush 7, 2) := by decide +kernel
theorem dX8_init_96 : decode cX8_init 96 = .ok (.iastore, 1) := by decide +kernel
theorem dX8_init_97 : decode cX8_init 97 = .ok (.dup, 1) := by decide +kernel
theorem dX8_init_98 : decode cX8_init 98 = .ok (.iconst 4, 1) := by decide +kernel
theorem dX8_init_99 : decode cX8_init 99 = .ok (.bipush 12, 2) := by decide +kernel
theorem dX8_init_101 : decode cX8_init 101 = .ok (.iastore, 1) := by decide +kernel
theorem dX8_init_102 : decode cX8_init 102 = .ok (.dup, 1) := by decide +kernel
theorem dX8_init_103 : decode cX8_init 103 = .ok (.iconst 5, 1) := by decide +kernel
theorem dX8_init_104 : decode cX8_init 104 = .ok (.bipush 10, 2) := by decide +kernel
theorem dX8_init_106 : decode cX8_init 106 = .ok (.iastore, 1) := by decide +kernel
theorem dX8_init_107 : decode cX8_init 107 = .ok (.dup, 1) := by decide +kernel
theorem dX8_init_108 : decode cX8_init 108 = .ok (.bipush 6, 2) := by decide +kernel
theorem dX8_init_110 : decode cX8_init 110 = .ok (.iconst 0, 1) := by decide +kernel
theorem dX8_init_111 : decode cX8_init 111 = .ok (.iastore, 1) := by decide +kernel
theorem dX8_init_112 : decode cX8_init 112 = .ok (.dup, 1) := by decide +kernel
theorem dX8_init_113 : decode cX8_init 113 = .ok (.bipush 7, 2) := by decide +kernel
theorem dX8_init_115 : decode cX8_init 115 = .ok (.iconst 2, 1) := by decide +kernel
theorem dX8_init_116 : decode cX8_init 116 = .ok (.iastore, 1) := by decide +kernel
theorem dX8_init_117 : decode cX8_init 117 = .ok (.putfield 13, 3) := by decide +kernel
theorem dX8_init_120 : decode cX8_init 120 = .ok (.aload_n 0, 1) := by decide +kernel
theorem dX8_init_121 : decode cX8_init 121 = .ok (.sipush 557, 3) := by decide +kernel
theorem dX8_init_124 : decode cX8_init 124 = .ok (.newarray .int, 2) := by decide +kernel
theorem dX8_init_126 : decode cX8_init 126 = .ok (.putfield 16, 3) := by decide +kernel
theorem dX8_init_129 : decode cX8_init 129 = .ok (.aload_n 0, 1) := by decide +kernel
theorem dX8_init_130 : decode cX8_init 130 = .ok (.sipush 720, 3) := by decide +kernel
theorem dX8_init_133 : decode cX8_init 133 = .ok (.newarray .long, 2) := by decide +kernel
theorem dX8_init_135 : decode cX8_init 135 = .ok (.putfield 19, 3) := by decide +kernel
theorem dX8_init_138 : decode cX8_init 138 = .ok (.aload_n 0, 1) := by decide +kernel
theorem dX8_init_139 : decode cX8_init 139 = .ok (.sipush 557, 3) := by decide +kernel
theorem dX8_init_142 : decode cX8_init 142 = .ok (.newarray .int, 2) := by decide +kernel
theorem dX8_init_144 : decode cX8_init 144 = .ok (.putfield 23, 3) := by decide +kernel
theorem dX8_init_147 : decode cX8_init 147 = .ok (.aload_n 0, 1) := by decide +kernel
theorem dX8_init_148 : decode cX8_init 148 = .ok (.sipush 720, 3) := by decide +kernel
theorem dX8_init_151 : decode cX8_init 151 = .ok (.newarray .long, 2) := by decide +kernel
theorem dX8_init_153 : decode cX8_init 153 = .ok (.putfield 26, 3) := by decide +kernel
theorem dX8_init_156 : decode cX8_init 156 = .ok (.aload_n 0, 1) := by decide +kernel
theorem dX8_init_157 : decode cX8_init 157 = .ok (.sipush 3078, 3) := by decide +kernel
theorem dX8_init_160 : decode cX8_init 160 = .ok (.newarray .int, 2) := by decide +kernel
theorem dX8_init_162 : decode cX8_init 162 = .ok (.putfield 29, 3) := by decide +kernel
theorem dX8_init_165 : decode cX8_init 165 = .ok (.aload_n 0, 1) := by decide +kernel
theorem dX8_init_166 : decode cX8_init 166 = .ok (.sipush 513, 3) := by decide +kernel
theorem dX8_init_169 : decode cX8_init 169 = .ok (.newarray .long, 2) := by decide +kernel
theorem dX8_init_171 : decode cX8_init 171 = .ok (.putfield 32, 3) := by decide +kernel
theorem dX8_init_174 : decode cX8_init 174 = .ok (.aload_n 0, 1) := by decide +kernel
theorem dX8_init_175 : decode cX8_init 175 = .ok (.sipush 3078, 3) := by decide +kernel
theorem dX8_init_178 : decode cX8_init 178 = .ok (.newarray .int, 2) := by decide +kernel
theorem dX8_init_180 : decode cX8_init 180 = .ok (.putfield 35, 3) := by decide +kernel
theorem dX8_init_183 : decode cX8_init 183 = .ok (.aload_n 0, 1) := by decide +kernel
theorem dX8_init_184 : decode cX8_init 184 = .ok (.sipush 513, 3) := by decide +kernel
theorem dX8_init_187 : decode cX8_init 187 = .ok (.newarray .long, 2) := by decide +kernel
theorem dX8_init_189 : decode cX8_init 189 = .ok (.putfield 38, 3) := by decide +kernel
theorem dX8_init_192 : decode cX8_init 192 = .ok (.aload_n 0, 1) := by decide +kernel
theorem dX8_init_193 : decode cX8_init 193 = .ok (.bipush 12, 2) := by decide +kernel
theorem dX8_init_195 : decode cX8_init 195 = .ok (.newarray .long, 2) := by decide +kernel
theorem dX8_init_197 : decode cX8_init 197 = .ok (.putfield 41, 3) := by decide +kernel
theorem dX8_init_200 : decode cX8_init 200 = .ok (.aload_n 0, 1) := by decide +kernel
theorem dX8_init_201 : decode cX8_init 201 = .ok (.bipush 6, 2) := by decide +kernel
theorem dX8_init_203 : decode cX8_init 203 = .ok (.newarray .int, 2) := by decide +kernel
theorem dX8_init_205 : decode cX8_init 205 = .ok (.putfield 44, 3) := by decide +kernel
theorem dX8_init_208 : decode cX8_init 208 = .ok (.return_, 1) := by decide +kernel
theorem dX8_isPartUnder_0 : decode cX8_isPartUnder 0 = .ok (.iload_n 1, 1) := by decide +kernel
theorem dX8_isPartUnder_1 : decode cX8_isPartUnder 1 = .ok (.bipush 10, 2) := by decide +kernel
theorem dX8_isPartUnder_3 : decode cX8_isPartUnder 3 = .ok (.if_icmp .ne 11, 3) := by decide +kernel
theorem dX8_isPartUnder_6 : decode cX8_isPartUnder 6 = .ok (.iload_n 2, 1) := by decide +kernel
theorem dX8_isPartUnder_7 : decode cX8_isPartUnder 7 = .ok (.bipush 12, 2) := by decide +kernel
theorem dX8_isPartUnder_9 : decode cX8_isPartUnder 9 = .ok (.if_icmp .ne 5, 3) := by decide +kernel
theorem dX8_isPartUnder_12 : decode cX8_isPartUnder 12 = .ok (.iconst 1, 1) := by decide +kernel
theorem dX8_isPartUnder_13 : decode cX8_isPartUnder 13 = .ok (.ireturn, 1) := by decide +kernel
theorem dX8_isPartUnder_14 : decode cX8_isPartUnder 14 = .ok (.iload_n 1, 1) := by decide +kernel
theorem dX8_isPartUnder_15 : decode cX8_isPartUnder 15 = .ok (.istore_n 3, 1) := by decide +kernel
theorem dX8_isPartUnder_16 : decode cX8_isPartUnder 16 = .ok (.iconst 0, 1) := by decide +kernel
theorem dX8_isPartUnder_17 : decode cX8_isPartUnder 17 = .ok (.istore 4, 2) := by decide +kernel
theorem dX8_isPartUnder_19 : decode cX8_isPartUnder 19 = .ok (.iload 4, 2) := by decide +kernel
theorem dX8_isPartUnder_21 : decode cX8_isPartUnder 21 = .ok (.bipush 6, 2) := by decide +kernel
theorem dX8_isPartUnder_23 : decode cX8_isPartUnder 23 = .ok (.if_icmp .ge 27, 3) := by decide +kernel
theorem dX8_isPartUnder_26 : decode cX8_isPartUnder 26 = .ok (.iload_n 3, 1) := by decide +kernel
theorem dX8_isPartUnder_27 : decode cX8_isPartUnder 27 = .ok (.ifCond .lt 23, 3) := by decide +kernel
theorem dX8_isPartUnder_30 : decode cX8_isPartUnder 30 = .ok (.iload_n 3, 1) := by decide +kernel
theorem dX8_isPartUnder_31 : decode cX8_isPartUnder 31 = .ok (.iload_n 2, 1) := by decide +kernel
theorem dX8_isPartUnder_32 : decode cX8_isPartUnder 32 = .ok (.if_icmp .ne 5, 3) := by decide +kernel
theorem dX8_isPartUnder_35 : decode cX8_isPartUnder 35 = .ok (.iconst 1, 1) := by decide +kernel
theorem dX8_isPartUnder_36 : decode cX8_isPartUnder 36 = .ok (.ireturn, 1) := by decide +kernel
theorem dX8_isPartUnder_37 : decode cX8_isPartUnder 37 = .ok (.aload_n 0, 1) := by decide +kernel
theorem dX8_isPartUnder_38 : decode cX8_isPartUnder 38 = .ok (.getfield 7, 3) := by decide +kernel
theorem dX8_isPartUnder_41 : decode cX8_isPartUnder 41 = .ok (.iload_n 3, 1) := by decide +kernel
theorem dX8_isPartUnder_42 : decode cX8_isPartUnder 42 = .ok (.iaload, 1) := by decide +kernel
theorem dX8_isPartUnder_43 : decode cX8_isPartUnder 43 = .ok (.istore_n 3, 1) := by decide +kernel
theorem dX8_isPartUnder_44 : decode cX8_isPartUnder 44 = .ok (.iinc 4 1, 3) := by decide +kernel
theorem dX8_isPartUnder_47 : decode cX8_isPartUnder 47 = .ok (.goto (-28), 3) := by decide +kernel
theorem dX8_isPartUnder_50 : decode cX8_isPartUnder 50 = .ok (.iconst 0, 1) := by decide +kernel
theorem dX8_isPartUnder_51 : decode cX8_isPartUnder 51 = .ok (.ireturn, 1) := by decide +kernel
theorem dX8_isRowOf_0 : decode cX8_isRowOf 0 = .ok (.iload_n 0, 1) := by decide +kernel
theorem dX8_isRowOf_1 : decode cX8_isRowOf 1 = .ok (.bipush 17, 2) := by decide +kernel
theorem dX8_isRowOf_3 : decode cX8_isRowOf 3 = .ok (.if_icmp .lt 13, 3) := by decide +kernel
theorem dX8_isRowOf_6 : decode cX8_isRowOf 6 = .ok (.iload_n 0, 1) := by decide +kernel
theorem dX8_isRowOf_7 : decode cX8_isRowOf 7 = .ok (.bipush 22, 2) := by decide +kernel
theorem dX8_isRowOf_9 : decode cX8_isRowOf 9 = .ok (.if_icmp .gt 7, 3) := by decide +kernel
theorem dX8_isRowOf_12 : decode cX8_isRowOf 12 = .ok (.iconst 1, 1) := by decide +kernel
theorem dX8_isRowOf_13 : decode cX8_isRowOf 13 = .ok (.goto 4, 3) := by decide +kernel
theorem dX8_isRowOf_16 : decode cX8_isRowOf 16 = .ok (.iconst 0, 1) := by decide +kernel
theorem dX8_isRowOf_17 : decode cX8_isRowOf 17 = .ok (.ireturn, 1) := by decide +kernel
theorem dX8_isBoard_0 : decode cX8_isBoard 0 = .ok (.iload_n 0, 1) := by decide +kernel
theorem dX8_isBoard_1 : decode cX8_isBoard 1 = .ok (.bipush 23, 2) := by decide +kernel
theorem dX8_isBoard_3 : decode cX8_isBoard 3 = .ok (.if_icmp .eq 9, 3) := by decide +kernel
theorem dX8_isBoard_6 : decode cX8_isBoard 6 = .ok (.iload_n 0, 1) := by decide +kernel
theorem dX8_isBoard_7 : decode cX8_isBoard 7 = .ok (.bipush 24, 2) := by decide +kernel
theorem dX8_isBoard_9 : decode cX8_isBoard 9 = .ok (.if_icmp .ne 7, 3) := by decide +kernel
theorem dX8_isBoard_12 : decode cX8_isBoard 12 = .ok (.iconst 1, 1) := by decide +kernel
theorem dX8_isBoard_13 : decode cX8_isBoard 13 = .ok (.goto 4, 3) := by decide +kernel
theorem dX8_isBoard_16 : decode cX8_isBoard 16 = .ok (.iconst 0, 1) := by decide +kernel
theorem dX8_isBoard_17 : decode cX8_isBoard 17 = .ok (.ireturn, 1) := by decide +kernel
theorem dX8_isNumberRow_0 : decode cX8_isNumberRow 0 = .ok (.iload_n 0, 1) := by decide +kernel
theorem dX8_isNumberRow_1 : decode cX8_isNumberRow 1 = .ok (.bipush 13, 2) := by decide +kernel
theorem dX8_isNumberRow_3 : decode cX8_isNumberRow 3 = .ok (.if_icmp .lt 13, 3) := by decide +kernel
theorem dX8_isNumberRow_6 : decode cX8_isNumberRow 6 = .ok (.iload_n 0, 1) := by decide +kernel
theorem dX8_isNumberRow_7 : decode cX8_isNumberRow 7 = .ok (.bipush 15, 2) := by decide +kernel
theorem dX8_isNumberRow_9 : decode cX8_isNumberRow 9 = .ok (.if_icmp .gt 7, 3) := by decide +kernel
theorem dX8_isNumberRow_12 : decode cX8_isNumberRow 12 = .ok (.iconst 1, 1) := by decide +kernel
theorem dX8_isNumberRow_13 : decode cX8_isNumberRow 13 = .ok (.goto 4, 3) := by decide +kernel
theorem dX8_isNumberRow_16 : decode cX8_isNumberRow 16 = .ok (.iconst 0, 1) := by decide +kernel
theorem dX8_isNumberRow_17 : decode cX8_isNumberRow 17 = .ok (.ireturn, 1) := by decide +kernel
theorem dX8_isRowOfThings_0 : decode cX8_isRowOfThings 0 = .ok (.iload_n 0, 1) := by decide +kernel
theorem dX8_isRowOfThings_1 : decode cX8_isRowOfThings 1 = .ok (.bipush 16, 2) := by decide +kernel
theorem dX8_isRowOfThings_3 : decode cX8_isRowOfThings 3 = .ok (.if_icmp .lt 13, 3) := by decide +kernel
theorem dX8_isRowOfThings_6 : decode cX8_isRowOfThings 6 = .ok (.iload_n 0, 1) := by decide +kernel
theorem dX8_isRowOfThings_7 : decode cX8_isRowOfThings 7 = .ok (.bipush 24, 2) := by decide +kernel
theorem dX8_isRowOfThings_9 : decode cX8_isRowOfThings 9 = .ok (.if_icmp .gt 7, 3) := by decide +kernel
theorem dX8_isRowOfThings_12 : decode cX8_isRowOfThings 12 = .ok (.iconst 1, 1) := by decide +kernel
theorem dX8_isRowOfThings_13 : decode cX8_isRowOfThings 13 = .ok (.goto 4, 3) := by decide +kernel
theorem dX8_isRowOfThings_16 : decode cX8_isRowOfThings 16 = .ok (.iconst 0, 1) := by decide +kernel
theorem dX8_isRowOfThings_17 : decode cX8_isRowOfThings 17 = .ok (.ireturn, 1) := by decide +kernel
theorem dX8_memberOf_0 : decode cX8_memberOf 0 = .ok (.aload_n 0, 1) := by decide +kernel
theorem dX8_memberOf_1 : decode cX8_memberOf 1 = .ok (.getfield 13, 3) := by decide +kernel
theorem dX8_memberOf_4 : decode cX8_memberOf 4 = .ok (.iload_n 1, 1) := by decide +kernel
theorem dX8_memberOf_5 : decode cX8_memberOf 5 = .ok (.bipush 17, 2) := by decide +kernel
theorem dX8_memberOf_7 : decode cX8_memberOf 7 = .ok (.isub, 1) := by decide +kernel
theorem dX8_memberOf_8 : decode cX8_memberOf 8 = .ok (.iaload, 1) := by decide +kernel
theorem dX8_memberOf_9 : decode cX8_memberOf 9 = .ok (.ireturn, 1) := by decide +kernel
theorem dX8_isUnder_0 : decode cX8_isUnder 0 = .ok (.iload_n 1, 1) := by decide +kernel
theorem dX8_isUnder_1 : decode cX8_isUnder 1 = .ok (.iload_n 2, 1) := by decide +kernel
theorem dX8_isUnder_2 : decode cX8_isUnder 2 = .ok (.if_icmp .ne 5, 3) := by decide +kernel
theorem dX8_isUnder_5 : decode cX8_isUnder 5 = .ok (.iconst 1, 1) := by decide +kernel
theorem dX8_isUnder_6 : decode cX8_isUnder 6 = .ok (.ireturn, 1) := by decide +kernel
theorem dX8_isUnder_7 : decode cX8_isUnder 7 = .ok (.iload_n 1, 1) := by decide +kernel
theorem dX8_isUnder_8 : decode cX8_isUnder 8 = .ok (.bipush 12, 2) := by decide +kernel
theorem dX8_isUnder_10 : decode cX8_isUnder 10 = .ok (.if_icmp .gt 16, 3) := by decide +kernel
theorem dX8_isUnder_13 : decode cX8_isUnder 13 = .ok (.iload_n 2, 1) := by decide +kernel
theorem dX8_isUnder_14 : decode cX8_isUnder 14 = .ok (.bipush 12, 2) := by decide +kernel
theorem dX8_isUnder_16 : decode cX8_isUnder 16 = .ok (.if_icmp .gt 10, 3) := by decide +kernel
theorem dX8_isUnder_19 : decode cX8_isUnder 19 = .ok (.aload_n 0, 1) := by decide +kernel
theorem dX8_isUnder_20 : decode cX8_isUnder 20 = .ok (.iload_n 1, 1) := by decide +kernel
theorem dX8_isUnder_21 : decode cX8_isUnder 21 = .ok (.iload_n 2, 1) := by decide +kernel
theorem dX8_isUnder_22 : decode cX8_isUnder 22 = .ok (.invokevirtual 47, 3) := by decide +kernel
theorem dX8_isUnder_25 : decode cX8_isUnder 25 = .ok (.ireturn, 1) := by decide +kernel
theorem dX8_isUnder_26 : decode cX8_isUnder 26 = .ok (.iload_n 1, 1) := by decide +kernel
theorem dX8_isUnder_27 : decode cX8_isUnder 27 = .ok (.invokestatic 51, 3) := by decide +kernel
theorem dX8_isUnder_30 : decode cX8_isUnder 30 = .ok (.ifCond .eq 10, 3) := by decide +kernel
theorem dX8_isUnder_33 : decode cX8_isUnder 33 = .ok (.iload_n 2, 1) := by decide +kernel
theorem dX8_isUnder_34 : decode cX8_isUnder 34 = .ok (.invokestatic 51, 3) := by decide +kernel
theorem dX8_isUnder_37 : decode cX8_isUnder 37 = .ok (.ifCond .ne 17, 3) := by decide +kernel
theorem dX8_isUnder_40 : decode cX8_isUnder 40 = .ok (.iload_n 1, 1) := by decide +kernel
theorem dX8_isUnder_41 : decode cX8_isUnder 41 = .ok (.invokestatic 55, 3) := by decide +kernel
theorem dX8_isUnder_44 : decode cX8_isUnder 44 = .ok (.ifCond .eq 25, 3) := by decide +kernel
theorem dX8_isUnder_47 : decode cX8_isUnder 47 = .ok (.iload_n 2, 1) := by decide +kernel
theorem dX8_isUnder_48 : decode cX8_isUnder 48 = .ok (.invokestatic 55, 3) := by decide +kernel
theorem dX8_isUnder_51 : decode cX8_isUnder 51 = .ok (.ifCond .eq 18, 3) := by decide +kernel
theorem dX8_isUnder_54 : decode cX8_isUnder 54 = .ok (.aload_n 0, 1) := by decide +kernel
theorem dX8_isUnder_55 : decode cX8_isUnder 55 = .ok (.aload_n 0, 1) := by decide +kernel
theorem dX8_isUnder_56 : decode cX8_isUnder 56 = .ok (.iload_n 1, 1) := by decide +kernel
theorem dX8_isUnder_57 : decode cX8_isUnder 57 = .ok (.invokevirtual 58, 3) := by decide +kernel
theorem dX8_isUnder_60 : decode cX8_isUnder 60 = .ok (.aload_n 0, 1) := by decide +kernel
theorem dX8_isUnder_61 : decode cX8_isUnder 61 = .ok (.iload_n 2, 1) := by decide +kernel
theorem dX8_isUnder_62 : decode cX8_isUnder 62 = .ok (.invokevirtual 58, 3) := by decide +kernel
theorem dX8_isUnder_65 : decode cX8_isUnder 65 = .ok (.invokevirtual 47, 3) := by decide +kernel
theorem dX8_isUnder_68 : decode cX8_isUnder 68 = .ok (.ireturn, 1) := by decide +kernel
theorem dX8_isUnder_69 : decode cX8_isUnder 69 = .ok (.iconst 0, 1) := by decide +kernel
theorem dX8_isUnder_70 : decode cX8_isUnder 70 = .ok (.ireturn, 1) := by decide +kernel
theorem dX8_isPart_0 : decode cX8_isPart 0 = .ok (.aload_n 0, 1) := by decide +kernel
theorem dX8_isPart_1 : decode cX8_isPart 1 = .ok (.iload_n 1, 1) := by decide +kernel
theorem dX8_isPart_2 : decode cX8_isPart 2 = .ok (.iconst 0, 1) := by decide +kernel
theorem dX8_isPart_3 : decode cX8_isPart 3 = .ok (.invokevirtual 62, 3) := by decide +kernel
theorem dX8_isPart_6 : decode cX8_isPart 6 = .ok (.ireturn, 1) := by decide +kernel
theorem dX8_isPlayed_0 : decode cX8_isPlayed 0 = .ok (.aload_n 0, 1) := by decide +kernel
theorem dX8_isPlayed_1 : decode cX8_isPlayed 1 = .ok (.iload_n 1, 1) := by decide +kernel
theorem dX8_isPlayed_2 : decode cX8_isPlayed 2 = .ok (.invokevirtual 65, 3) := by decide +kernel
theorem dX8_isPlayed_5 : decode cX8_isPlayed 5 = .ok (.ifCond .ne 23, 3) := by decide +kernel
theorem dX8_isPlayed_8 : decode cX8_isPlayed 8 = .ok (.aload_n 0, 1) := by decide +kernel
theorem dX8_isPlayed_9 : decode cX8_isPlayed 9 = .ok (.iload_n 1, 1) := by decide +kernel
theorem dX8_isPlayed_10 : decode cX8_isPlayed 10 = .ok (.bipush 17, 2) := by decide +kernel
theorem dX8_isPlayed_12 : decode cX8_isPlayed 12 = .ok (.invokevirtual 62, 3) := by decide +kernel
theorem dX8_isPlayed_15 : decode cX8_isPlayed 15 = .ok (.ifCond .ne 13, 3) := by decide +kernel
theorem dX8_isPlayed_18 : decode cX8_isPlayed 18 = .ok (.aload_n 0, 1) := by decide +kernel
theorem dX8_isPlayed_19 : decode cX8_isPlayed 19 = .ok (.iload_n 1, 1) := by decide +kernel
theorem dX8_isPlayed_20 : decode cX8_isPlayed 20 = .ok (.bipush 23, 2) := by decide +kernel
theorem dX8_isPlayed_22 : decode cX8_isPlayed 22 = .ok (.invokevirtual 62, 3) := by decide +kernel
theorem dX8_isPlayed_25 : decode cX8_isPlayed 25 = .ok (.ifCond .eq 7, 3) := by decide +kernel
theorem dX8_isPlayed_28 : decode cX8_isPlayed 28 = .ok (.iconst 1, 1) := by decide +kernel
theorem dX8_isPlayed_29 : decode cX8_isPlayed 29 = .ok (.goto 4, 3) := by decide +kernel
theorem dX8_isPlayed_32 : decode cX8_isPlayed 32 = .ok (.iconst 0, 1) := by decide +kernel
theorem dX8_isPlayed_33 : decode cX8_isPlayed 33 = .ok (.ireturn, 1) := by decide +kernel
theorem dX8_fits_0 : decode cX8_fits 0 = .ok (.lload_n 2, 1) := by decide +kernel
theorem dX8_fits_1 : decode cX8_fits 1 = .ok (.lconst 0, 1) := by decide +kernel
theorem dX8_fits_2 : decode cX8_fits 2 = .ok (.lcmp, 1) := by decide +kernel
theorem dX8_fits_3 : decode cX8_fits 3 = .ok (.ifCond .ne 5, 3) := by decide +kernel
theorem dX8_fits_6 : decode cX8_fits 6 = .ok (.iconst 1, 1) := by decide +kernel
theorem dX8_fits_7 : decode cX8_fits 7 = .ok (.ireturn, 1) := by decide +kernel
theorem dX8_fits_8 : decode cX8_fits 8 = .ok (.aload_n 0, 1) := by decide +kernel
theorem dX8_fits_9 : decode cX8_fits 9 = .ok (.getfield 16, 3) := by decide +kernel
theorem dX8_fits_12 : decode cX8_fits 12 = .ok (.iconst 0, 1) := by decide +kernel
theorem dX8_fits_13 : decode cX8_fits 13 = .ok (.lload_n 2, 1) := by decide +kernel
theorem dX8_fits_14 : decode cX8_fits 14 = .ok (.l2i, 1) := by decide +kernel
theorem dX8_fits_15 : decode cX8_fits 15 = .ok (.iadd, 1) := by decide +kernel
theorem dX8_fits_16 : decode cX8_fits 16 = .ok (.iconst 1, 1) := by decide +kernel
theorem dX8_fits_17 : decode cX8_fits 17 = .ok (.isub, 1) := by decide +kernel
theorem dX8_fits_18 : decode cX8_fits 18 = .ok (.iaload, 1) := by decide +kernel
theorem dX8_fits_19 : decode cX8_fits 19 = .ok (.istore 4, 2) := by decide +kernel
theorem dX8_fits_21 : decode cX8_fits 21 = .ok (.iload_n 1, 1) := by decide +kernel
theorem dX8_fits_22 : decode cX8_fits 22 = .ok (.bipush 16, 2) := by decide +kernel
theorem dX8_fits_24 : decode cX8_fits 24 = .ok (.if_icmp .ne 16, 3) := by decide +kernel
theorem dX8_fits_27 : decode cX8_fits 27 = .ok (.iload 4, 2) := by decide +kernel
theorem dX8_fits_29 : decode cX8_fits 29 = .ok (.bipush 13, 2) := by decide +kernel
theorem dX8_fits_31 : decode cX8_fits 31 = .ok (.if_icmp .ne 7, 3) := by decide +kernel
theorem dX8_fits_34 : decode cX8_fits 34 = .ok (.iconst 1, 1) := by decide +kernel
theorem dX8_fits_35 : decode cX8_fits 35 = .ok (.goto 4, 3) := by decide +kernel
theorem dX8_fits_38 : decode cX8_fits 38 = .ok (.iconst 0, 1) := by decide +kernel
theorem dX8_fits_39 : decode cX8_fits 39 = .ok (.ireturn, 1) := by decide +kernel
theorem dX8_fits_40 : decode cX8_fits 40 = .ok (.iload_n 1, 1) := by decide +kernel
theorem dX8_fits_41 : decode cX8_fits 41 = .ok (.invokestatic 51, 3) := by decide +kernel
theorem dX8_fits_44 : decode cX8_fits 44 = .ok (.ifCond .eq 15, 3) := by decide +kernel
theorem dX8_fits_47 : decode cX8_fits 47 = .ok (.aload_n 0, 1) := by decide +kernel
theorem dX8_fits_48 : decode cX8_fits 48 = .ok (.iload 4, 2) := by decide +kernel
theorem dX8_fits_50 : decode cX8_fits 50 = .ok (.aload_n 0, 1) := by decide +kernel
theorem dX8_fits_51 : decode cX8_fits 51 = .ok (.iload_n 1, 1) := by decide +kernel
theorem dX8_fits_52 : decode cX8_fits 52 = .ok (.invokevirtual 58, 3) := by decide +kernel
theorem dX8_fits_55 : decode cX8_fits 55 = .ok (.invokevirtual 62, 3) := by decide +kernel
theorem dX8_fits_58 : decode cX8_fits 58 = .ok (.ireturn, 1) := by decide +kernel
theorem dX8_fits_59 : decode cX8_fits 59 = .ok (.aload_n 0, 1) := by decide +kernel
theorem dX8_fits_60 : decode cX8_fits 60 = .ok (.iload 4, 2) := by decide +kernel
theorem dX8_fits_62 : decode cX8_fits 62 = .ok (.iload_n 1, 1) := by decide +kernel
theorem dX8_fits_63 : decode cX8_fits 63 = .ok (.bipush 23, 2) := by decide +kernel
theorem dX8_fits_65 : decode cX8_fits 65 = .ok (.if_icmp .ne 8, 3) := by decide +kernel
theorem dX8_fits_68 : decode cX8_fits 68 = .ok (.bipush 17, 2) := by decide +kernel
theorem dX8_fits_70 : decode cX8_fits 70 = .ok (.goto 5, 3) := by decide +kernel
theorem dX8_fits_73 : decode cX8_fits 73 = .ok (.bipush 19, 2) := by decide +kernel
theorem dX8_fits_75 : decode cX8_fits 75 = .ok (.invokevirtual 62, 3) := by decide +kernel
theorem dX8_fits_78 : decode cX8_fits 78 = .ok (.ireturn, 1) := by decide +kernel
theorem dX8_isShelf_0 : decode cX8_isShelf 0 = .ok (.iload_n 0, 1) := by decide +kernel
theorem dX8_isShelf_1 : decode cX8_isShelf 1 = .ok (.ifCond .lt 13, 3) := by decide +kernel
theorem dX8_isShelf_4 : decode cX8_isShelf 4 = .ok (.iload_n 0, 1) := by decide +kernel
theorem dX8_isShelf_5 : decode cX8_isShelf 5 = .ok (.bipush 15, 2) := by decide +kernel
theorem dX8_isShelf_7 : decode cX8_isShelf 7 = .ok (.if_icmp .gt 7, 3) := by decide +kernel
theorem dX8_isShelf_10 : decode cX8_isShelf 10 = .ok (.iconst 1, 1) := by decide +kernel
theorem dX8_isShelf_11 : decode cX8_isShelf 11 = .ok (.goto 4, 3) := by decide +kernel
theorem dX8_isShelf_14 : decode cX8_isShelf 14 = .ok (.iconst 0, 1) := by decide +kernel
theorem dX8_isShelf_15 : decode cX8_isShelf 15 = .ok (.ireturn, 1) := by decide +kernel
theorem dX8_on_0 : decode cX8_on 0 = .ok (.aload_n 0, 1) := by decide +kernel
theorem dX8_on_1 : decode cX8_on 1 = .ok (.getfield 16, 3) := by decide +kernel
theorem dX8_on_4 : decode cX8_on 4 = .ok (.sipush 540, 3) := by decide +kernel
theorem dX8_on_7 : decode cX8_on 7 = .ok (.iload_n 1, 1) := by decide +kernel
theorem dX8_on_8 : decode cX8_on 8 = .ok (.iadd, 1) := by decide +kernel
theorem dX8_on_9 : decode cX8_on 9 = .ok (.iaload, 1) := by decide +kernel
theorem dX8_on_10 : decode cX8_on 10 = .ok (.iconst 1, 1) := by decide +kernel
theorem dX8_on_11 : decode cX8_on 11 = .ok (.isub, 1) := by decide +kernel
theorem dX8_on_12 : decode cX8_on 12 = .ok (.ireturn, 1) := by decide +kernel
theorem dX8_kindOf_0 : decode cX8_kindOf 0 = .ok (.aload_n 0, 1) := by decide +kernel
theorem dX8_kindOf_1 : decode cX8_kindOf 1 = .ok (.getfield 16, 3) := by decide +kernel
theorem dX8_kindOf_4 : decode cX8_kindOf 4 = .ok (.iconst 0, 1) := by decide +kernel
theorem dX8_kindOf_5 : decode cX8_kindOf 5 = .ok (.iload_n 1, 1) := by decide +kernel
theorem dX8_kindOf_6 : decode cX8_kindOf 6 = .ok (.iadd, 1) := by decide +kernel
theorem dX8_kindOf_7 : decode cX8_kindOf 7 = .ok (.iaload, 1) := by decide +kernel
theorem dX8_kindOf_8 : decode cX8_kindOf 8 = .ok (.ireturn, 1) := by decide +kernel
theorem dX8_lengthOf_0 : decode cX8_lengthOf 0 = .ok (.aload_n 0, 1) := by decide +kernel
theorem dX8_lengthOf_1 : decode cX8_lengthOf 1 = .ok (.getfield 16, 3) := by decide +kernel
theorem dX8_lengthOf_4 : decode cX8_lengthOf 4 = .ok (.bipush 60, 2) := by decide +kernel
theorem dX8_lengthOf_6 : decode cX8_lengthOf 6 = .ok (.iload_n 1, 1) := by decide +kernel
theorem dX8_lengthOf_7 : decode cX8_lengthOf 7 = .ok (.iadd, 1) := by decide +kernel
theorem dX8_lengthOf_8 : decode cX8_lengthOf 8 = .ok (.iaload, 1) := by decide +kernel
theorem dX8_lengthOf_9 : decode cX8_lengthOf 9 = .ok (.ireturn, 1) := by decide +kernel
theorem dX8_hasPlace_0 : decode cX8_hasPlace 0 = .ok (.iload_n 2, 1) := by decide +kernel
theorem dX8_hasPlace_1 : decode cX8_hasPlace 1 = .ok (.ifCond .lt 16, 3) := by decide +kernel
theorem dX8_hasPlace_4 : decode cX8_hasPlace 4 = .ok (.iload_n 2, 1) := by decide +kernel
theorem dX8_hasPlace_5 : decode cX8_hasPlace 5 = .ok (.aload_n 0, 1) := by decide +kernel
theorem dX8_hasPlace_6 : decode cX8_hasPlace 6 = .ok (.iload_n 1, 1) := by decide +kernel
theorem dX8_hasPlace_7 : decode cX8_hasPlace 7 = .ok (.invokevirtual 68, 3) := by decide +kernel
theorem dX8_hasPlace_10 : decode cX8_hasPlace 10 = .ok (.if_icmp .ge 7, 3) := by decide +kernel
theorem dX8_hasPlace_13 : decode cX8_hasPlace 13 = .ok (.iconst 1, 1) := by decide +kernel
theorem dX8_hasPlace_14 : decode cX8_hasPlace 14 = .ok (.goto 4, 3) := by decide +kernel
theorem dX8_hasPlace_17 : decode cX8_hasPlace 17 = .ok (.iconst 0, 1) := by decide +kernel
theorem dX8_hasPlace_18 : decode cX8_hasPlace 18 = .ok (.ireturn, 1) := by decide +kernel
theorem dX8_refuse_0 : decode cX8_refuse 0 = .ok (.aload_n 0, 1) := by decide +kernel
theorem dX8_refuse_1 : decode cX8_refuse 1 = .ok (.iload_n 1, 1) := by decide +kernel
theorem dX8_refuse_2 : decode cX8_refuse 2 = .ok (.putfield 71, 3) := by decide +kernel
theorem dX8_refuse_5 : decode cX8_refuse 5 = .ok (.iconst 0, 1) := by decide +kernel
theorem dX8_refuse_6 : decode cX8_refuse 6 = .ok (.ireturn, 1) := by decide +kernel
theorem dX8_sizeOf_0 : decode cX8_sizeOf 0 = .ok (.iload_n 0, 1) := by decide +kernel
theorem dX8_sizeOf_1 : decode cX8_sizeOf 1 = .ok (.ifCond .ge 8, 3) := by decide +kernel
theorem dX8_sizeOf_4 : decode cX8_sizeOf 4 = .ok (.iload_n 0, 1) := by decide +kernel
theorem dX8_sizeOf_5 : decode cX8_sizeOf 5 = .ok (.ineg, 1) := by decide +kernel
theorem dX8_sizeOf_6 : decode cX8_sizeOf 6 = .ok (.goto 4, 3) := by decide +kernel
theorem dX8_sizeOf_9 : decode cX8_sizeOf 9 = .ok (.iload_n 0, 1) := by decide +kernel
theorem dX8_sizeOf_10 : decode cX8_sizeOf 10 = .ok (.ireturn, 1) := by decide +kernel
theorem dX8_clipped_0 : decode cX8_clipped 0 = .ok (.aload_n 0, 1) := by decide +kernel
theorem dX8_clipped_1 : decode cX8_clipped 1 = .ok (.getfield 16, 3) := by decide +kernel
theorem dX8_clipped_4 : decode cX8_clipped 4 = .ok (.bipush 120, 2) := by decide +kernel
theorem dX8_clipped_6 : decode cX8_clipped 6 = .ok (.iload_n 1, 1) := by decide +kernel
theorem dX8_clipped_7 : decode cX8_clipped 7 = .ok (.iadd, 1) := by decide +kernel
theorem dX8_clipped_8 : decode cX8_clipped 8 = .ok (.iaload, 1) := by decide +kernel
theorem dX8_clipped_9 : decode cX8_clipped 9 = .ok (.invokestatic 75, 3) := by decide +kernel
theorem dX8_clipped_12 : decode cX8_clipped 12 = .ok (.istore_n 3, 1) := by decide +kernel
theorem dX8_clipped_13 : decode cX8_clipped 13 = .ok (.iload_n 2, 1) := by decide +kernel
theorem dX8_clipped_14 : decode cX8_clipped 14 = .ok (.iload_n 3, 1) := by decide +kernel
theorem dX8_clipped_15 : decode cX8_clipped 15 = .ok (.if_icmp .le 7, 3) := by decide +kernel
theorem dX8_clipped_18 : decode cX8_clipped 18 = .ok (.iload_n 3, 1) := by decide +kernel
theorem dX8_clipped_19 : decode cX8_clipped 19 = .ok (.goto 15, 3) := by decide +kernel
theorem dX8_clipped_22 : decode cX8_clipped 22 = .ok (.iload_n 2, 1) := by decide +kernel
theorem dX8_clipped_23 : decode cX8_clipped 23 = .ok (.iload_n 3, 1) := by decide +kernel
theorem dX8_clipped_24 : decode cX8_clipped 24 = .ok (.ineg, 1) := by decide +kernel
theorem dX8_clipped_25 : decode cX8_clipped 25 = .ok (.if_icmp .ge 8, 3) := by decide +kernel
theorem dX8_clipped_28 : decode cX8_clipped 28 = .ok (.iload_n 3, 1) := by decide +kernel
theorem dX8_clipped_29 : decode cX8_clipped 29 = .ok (.ineg, 1) := by decide +kernel
theorem dX8_clipped_30 : decode cX8_clipped 30 = .ok (.goto 4, 3) := by decide +kernel
theorem dX8_clipped_33 : decode cX8_clipped 33 = .ok (.iload_n 2, 1) := by decide +kernel
theorem dX8_clipped_34 : decode cX8_clipped 34 = .ok (.ireturn, 1) := by decide +kernel
theorem dX8_turn_0 : decode cX8_turn 0 = .ok (.aload_n 0, 1) := by decide +kernel
theorem dX8_turn_1 : decode cX8_turn 1 = .ok (.iload_n 1, 1) := by decide +kernel
theorem dX8_turn_2 : decode cX8_turn 2 = .ok (.invokevirtual 78, 3) := by decide +kernel
theorem dX8_turn_5 : decode cX8_turn 5 = .ok (.istore_n 3, 1) := by decide +kernel
theorem dX8_turn_6 : decode cX8_turn 6 = .ok (.aload_n 0, 1) := by decide +kernel
theorem dX8_turn_7 : decode cX8_turn 7 = .ok (.getfield 16, 3) := by decide +kernel
theorem dX8_turn_10 : decode cX8_turn 10 = .ok (.sipush 180, 3) := by decide +kernel
theorem dX8_turn_13 : decode cX8_turn 13 = .ok (.iload_n 1, 1) := by decide +kernel
theorem dX8_turn_14 : decode cX8_turn 14 = .ok (.iadd, 1) := by decide +kernel
theorem dX8_turn_15 : decode cX8_turn 15 = .ok (.dup2, 1) := by decide +kernel
theorem dX8_turn_16 : decode cX8_turn 16 = .ok (.iaload, 1) := by decide +kernel
theorem dX8_turn_17 : decode cX8_turn 17 = .ok (.iconst 1, 1) := by decide +kernel
theorem dX8_turn_18 : decode cX8_turn 18 = .ok (.iadd, 1) := by decide +kernel
theorem dX8_turn_19 : decode cX8_turn 19 = .ok (.iastore, 1) := by decide +kernel
theorem dX8_turn_20 : decode cX8_turn 20 = .ok (.iload_n 3, 1) := by decide +kernel
theorem dX8_turn_21 : decode cX8_turn 21 = .ok (.iconst 2, 1) := by decide +kernel
theorem dX8_turn_22 : decode cX8_turn 22 = .ok (.if_icmp .eq 8, 3) := by decide +kernel
theorem dX8_turn_25 : decode cX8_turn 25 = .ok (.iload_n 3, 1) := by decide +kernel
theorem dX8_turn_26 : decode cX8_turn 26 = .ok (.iconst 3, 1) := by decide +kernel
theorem dX8_turn_27 : decode cX8_turn 27 = .ok (.if_icmp .ne 10, 3) := by decide +kernel
theorem dX8_turn_30 : decode cX8_turn 30 = .ok (.aload_n 0, 1) := by decide +kernel
theorem dX8_turn_31 : decode cX8_turn 31 = .ok (.iload_n 1, 1) := by decide +kernel
theorem dX8_turn_32 : decode cX8_turn 32 = .ok (.iload_n 2, 1) := by decide +kernel
theorem dX8_turn_33 : decode cX8_turn 33 = .ok (.invokevirtual 81, 3) := by decide +kernel
theorem dX8_turn_36 : decode cX8_turn 36 = .ok (.ireturn, 1) := by decide +kernel
theorem dX8_turn_37 : decode cX8_turn 37 = .ok (.iload_n 3, 1) := by decide +kernel
theorem dX8_turn_38 : decode cX8_turn 38 = .ok (.iconst 4, 1) := by decide +kernel
theorem dX8_turn_39 : decode cX8_turn 39 = .ok (.if_icmp .ne 45, 3) := by decide +kernel
theorem dX8_turn_42 : decode cX8_turn 42 = .ok (.aload_n 0, 1) := by decide +kernel
theorem dX8_turn_43 : decode cX8_turn 43 = .ok (.iload_n 1, 1) := by decide +kernel
theorem dX8_turn_44 : decode cX8_turn 44 = .ok (.iload_n 2, 1) := by decide +kernel
theorem dX8_turn_45 : decode cX8_turn 45 = .ok (.invokevirtual 81, 3) := by decide +kernel
theorem dX8_turn_48 : decode cX8_turn 48 = .ok (.istore 4, 2) := by decide +kernel
theorem dX8_turn_50 : decode cX8_turn 50 = .ok (.aload_n 0, 1) := by decide +kernel
theorem dX8_turn_51 : decode cX8_turn 51 = .ok (.getfield 16, 3) := by decide +kernel
theorem dX8_turn_54 : decode cX8_turn 54 = .ok (.sipush 240, 3) := by decide +kernel
theorem dX8_turn_57 : decode cX8_turn 57 = .ok (.iload_n 1, 1) := by decide +kernel
theorem dX8_turn_58 : decode cX8_turn 58 = .ok (.iadd, 1) := by decide +kernel
theorem dX8_turn_59 : decode cX8_turn 59 = .ok (.dup2, 1) := by decide +kernel
theorem dX8_turn_60 : decode cX8_turn 60 = .ok (.iaload, 1) := by decide +kernel
theorem dX8_turn_61 : decode cX8_turn 61 = .ok (.iload 4, 2) := by decide +kernel
theorem dX8_turn_63 : decode cX8_turn 63 = .ok (.iload_n 2, 1) := by decide +kernel
theorem dX8_turn_64 : decode cX8_turn 64 = .ok (.if_icmp .eq 7, 3) := by decide +kernel
theorem dX8_turn_67 : decode cX8_turn 67 = .ok (.iconst 1, 1) := by decide +kernel
theorem dX8_turn_68 : decode cX8_turn 68 = .ok (.goto 4, 3) := by decide +kernel
theorem dX8_turn_71 : decode cX8_turn 71 = .ok (.iconst 0, 1) := by decide +kernel
theorem dX8_turn_72 : decode cX8_turn 72 = .ok (.iadd, 1) := by decide +kernel
theorem dX8_turn_73 : decode cX8_turn 73 = .ok (.iastore, 1) := by decide +kernel
theorem dX8_turn_74 : decode cX8_turn 74 = .ok (.iload 4, 2) := by decide +kernel
theorem dX8_turn_76 : decode cX8_turn 76 = .ok (.iload_n 2, 1) := by decide +kernel
theorem dX8_turn_77 : decode cX8_turn 77 = .ok (.iload 4, 2) := by decide +kernel
theorem dX8_turn_79 : decode cX8_turn 79 = .ok (.isub, 1) := by decide +kernel
theorem dX8_turn_80 : decode cX8_turn 80 = .ok (.iconst 2, 1) := by decide +kernel
theorem dX8_turn_81 : decode cX8_turn 81 = .ok (.ishr, 1) := by decide +kernel
theorem dX8_turn_82 : decode cX8_turn 82 = .ok (.iadd, 1) := by decide +kernel
theorem dX8_turn_83 : decode cX8_turn 83 = .ok (.ireturn, 1) := by decide +kernel
theorem dX8_turn_84 : decode cX8_turn 84 = .ok (.iload_n 3, 1) := by decide +kernel
theorem dX8_turn_85 : decode cX8_turn 85 = .ok (.bipush 7, 2) := by decide +kernel
theorem dX8_turn_87 : decode cX8_turn 87 = .ok (.if_icmp .eq 9, 3) := by decide +kernel
theorem dX8_turn_90 : decode cX8_turn 90 = .ok (.iload_n 3, 1) := by decide +kernel
theorem dX8_turn_91 : decode cX8_turn 91 = .ok (.bipush 8, 2) := by decide +kernel
theorem dX8_turn_93 : decode cX8_turn 93 = .ok (.if_icmp .ne 106, 3) := by decide +kernel
theorem dX8_turn_96 : decode cX8_turn 96 = .ok (.iload_n 2, 1) := by decide +kernel
theorem dX8_turn_97 : decode cX8_turn 97 = .ok (.aload_n 0, 1) := by decide +kernel
theorem dX8_turn_98 : decode cX8_turn 98 = .ok (.getfield 16, 3) := by decide +kernel
theorem dX8_turn_101 : decode cX8_turn 101 = .ok (.sipush 300, 3) := by decide +kernel
theorem dX8_turn_104 : decode cX8_turn 104 = .ok (.iload_n 1, 1) := by decide +kernel
theorem dX8_turn_105 : decode cX8_turn 105 = .ok (.iadd, 1) := by decide +kernel
theorem dX8_turn_106 : decode cX8_turn 106 = .ok (.iaload, 1) := by decide +kernel
theorem dX8_turn_107 : decode cX8_turn 107 = .ok (.aload_n 0, 1) := by decide +kernel
theorem dX8_turn_108 : decode cX8_turn 108 = .ok (.getfield 16, 3) := by decide +kernel
theorem dX8_turn_111 : decode cX8_turn 111 = .ok (.bipush 120, 2) := by decide +kernel
theorem dX8_turn_113 : decode cX8_turn 113 = .ok (.iload_n 1, 1) := by decide +kernel
theorem dX8_turn_114 : decode cX8_turn 114 = .ok (.iadd, 1) := by decide +kernel
theorem dX8_turn_115 : decode cX8_turn 115 = .ok (.iaload, 1) := by decide +kernel
theorem dX8_turn_116 : decode cX8_turn 116 = .ok (.imul, 1) := by decide +kernel
theorem dX8_turn_117 : decode cX8_turn 117 = .ok (.iconst 4, 1) := by decide +kernel
theorem dX8_turn_118 : decode cX8_turn 118 = .ok (.ishr, 1) := by decide +kernel
theorem dX8_turn_119 : decode cX8_turn 119 = .ok (.iadd, 1) := by decide +kernel
theorem dX8_turn_120 : decode cX8_turn 120 = .ok (.istore 4, 2) := by decide +kernel
theorem dX8_turn_122 : decode cX8_turn 122 = .ok (.aload_n 0, 1) := by decide +kernel
theorem dX8_turn_123 : decode cX8_turn 123 = .ok (.getfield 16, 3) := by decide +kernel
theorem dX8_turn_126 : decode cX8_turn 126 = .ok (.sipush 300, 3) := by decide +kernel
theorem dX8_turn_129 : decode cX8_turn 129 = .ok (.iload_n 1, 1) := by decide +kernel
theorem dX8_turn_130 : decode cX8_turn 130 = .ok (.iadd, 1) := by decide +kernel
theorem dX8_turn_131 : decode cX8_turn 131 = .ok (.iload_n 2, 1) := by decide +kernel
theorem dX8_turn_132 : decode cX8_turn 132 = .ok (.iastore, 1) := by decide +kernel
theorem dX8_turn_133 : decode cX8_turn 133 = .ok (.iload_n 3, 1) := by decide +kernel
theorem dX8_turn_134 : decode cX8_turn 134 = .ok (.bipush 8, 2) := by decide +kernel
theorem dX8_turn_136 : decode cX8_turn 136 = .ok (.if_icmp .ne 60, 3) := by decide +kernel
theorem dX8_turn_139 : decode cX8_turn 139 = .ok (.aload_n 0, 1) := by decide +kernel
theorem dX8_turn_140 : decode cX8_turn 140 = .ok (.getfield 16, 3) := by decide +kernel
theorem dX8_turn_143 : decode cX8_turn 143 = .ok (.sipush 300, 3) := by decide +kernel
theorem dX8_turn_146 : decode cX8_turn 146 = .ok (.iload_n 1, 1) := by decide +kernel
theorem dX8_turn_147 : decode cX8_turn 147 = .ok (.iadd, 1) := by decide +kernel
theorem dX8_turn_148 : decode cX8_turn 148 = .ok (.dup2, 1) := by decide +kernel
theorem dX8_turn_149 : decode cX8_turn 149 = .ok (.iaload, 1) := by decide +kernel
theorem dX8_turn_150 : decode cX8_turn 150 = .ok (.iload 4, 2) := by decide +kernel
theorem dX8_turn_152 : decode cX8_turn 152 = .ok (.iconst 3, 1) := by decide +kernel
theorem dX8_turn_153 : decode cX8_turn 153 = .ok (.ishr, 1) := by decide +kernel
theorem dX8_turn_154 : decode cX8_turn 154 = .ok (.iadd, 1) := by decide +kernel
theorem dX8_turn_155 : decode cX8_turn 155 = .ok (.iastore, 1) := by decide +kernel
theorem dX8_turn_156 : decode cX8_turn 156 = .ok (.aload_n 0, 1) := by decide +kernel
theorem dX8_turn_157 : decode cX8_turn 157 = .ok (.getfield 16, 3) := by decide +kernel
theorem dX8_turn_160 : decode cX8_turn 160 = .ok (.sipush 420, 3) := by decide +kernel
theorem dX8_turn_163 : decode cX8_turn 163 = .ok (.iload_n 1, 1) := by decide +kernel
theorem dX8_turn_164 : decode cX8_turn 164 = .ok (.iadd, 1) := by decide +kernel
theorem dX8_turn_165 : decode cX8_turn 165 = .ok (.iload 4, 2) := by decide +kernel
theorem dX8_turn_167 : decode cX8_turn 167 = .ok (.aload_n 0, 1) := by decide +kernel
theorem dX8_turn_168 : decode cX8_turn 168 = .ok (.getfield 16, 3) := by decide +kernel
theorem dX8_turn_171 : decode cX8_turn 171 = .ok (.sipush 420, 3) := by decide +kernel
theorem dX8_turn_174 : decode cX8_turn 174 = .ok (.iload_n 1, 1) := by decide +kernel
theorem dX8_turn_175 : decode cX8_turn 175 = .ok (.iadd, 1) := by decide +kernel
theorem dX8_turn_176 : decode cX8_turn 176 = .ok (.iaload, 1) := by decide +kernel
theorem dX8_turn_177 : decode cX8_turn 177 = .ok (.if_icmp .le 8, 3) := by decide +kernel
theorem dX8_turn_180 : decode cX8_turn 180 = .ok (.iload 4, 2) := by decide +kernel
theorem dX8_turn_182 : decode cX8_turn 182 = .ok (.goto 13, 3) := by decide +kernel
theorem dX8_turn_185 : decode cX8_turn 185 = .ok (.aload_n 0, 1) := by decide +kernel
theorem dX8_turn_186 : decode cX8_turn 186 = .ok (.getfield 16, 3) := by decide +kernel
theorem dX8_turn_189 : decode cX8_turn 189 = .ok (.sipush 420, 3) := by decide +kernel
theorem dX8_turn_192 : decode cX8_turn 192 = .ok (.iload_n 1, 1) := by decide +kernel
theorem dX8_turn_193 : decode cX8_turn 193 = .ok (.iadd, 1) := by decide +kernel
theorem dX8_turn_194 : decode cX8_turn 194 = .ok (.iaload, 1) := by decide +kernel
theorem dX8_turn_195 : decode cX8_turn 195 = .ok (.iastore, 1) := by decide +kernel
theorem dX8_turn_196 : decode cX8_turn 196 = .ok (.iload 4, 2) := by decide +kernel
theorem dX8_turn_198 : decode cX8_turn 198 = .ok (.ireturn, 1) := by decide +kernel
theorem dX8_turn_199 : decode cX8_turn 199 = .ok (.iload_n 3, 1) := by decide +kernel
theorem dX8_turn_200 : decode cX8_turn 200 = .ok (.bipush 9, 2) := by decide +kernel
theorem dX8_turn_202 : decode cX8_turn 202 = .ok (.if_icmp .eq 9, 3) := by decide +kernel
theorem dX8_turn_205 : decode cX8_turn 205 = .ok (.iload_n 3, 1) := by decide +kernel
theorem dX8_turn_206 : decode cX8_turn 206 = .ok (.bipush 10, 2) := by decide +kernel
theorem dX8_turn_208 : decode cX8_turn 208 = .ok (.if_icmp .ne 30, 3) := by decide +kernel
theorem dX8_turn_211 : decode cX8_turn 211 = .ok (.aload_n 0, 1) := by decide +kernel
theorem dX8_turn_212 : decode cX8_turn 212 = .ok (.getfield 16, 3) := by decide +kernel
theorem dX8_turn_215 : decode cX8_turn 215 = .ok (.sipush 360, 3) := by decide +kernel
theorem dX8_turn_218 : decode cX8_turn 218 = .ok (.iload_n 1, 1) := by decide +kernel
theorem dX8_turn_219 : decode cX8_turn 219 = .ok (.iadd, 1) := by decide +kernel
theorem dX8_turn_220 : decode cX8_turn 220 = .ok (.dup2, 1) := by decide +kernel
theorem dX8_turn_221 : decode cX8_turn 221 = .ok (.iaload, 1) := by decide +kernel
theorem dX8_turn_222 : decode cX8_turn 222 = .ok (.iconst 1, 1) := by decide +kernel
theorem dX8_turn_223 : decode cX8_turn 223 = .ok (.iadd, 1) := by decide +kernel
theorem dX8_turn_224 : decode cX8_turn 224 = .ok (.iastore, 1) := by decide +kernel
theorem dX8_turn_225 : decode cX8_turn 225 = .ok (.iload_n 2, 1) := by decide +kernel
theorem dX8_turn_226 : decode cX8_turn 226 = .ok (.aload_n 0, 1) := by decide +kernel
theorem dX8_turn_227 : decode cX8_turn 227 = .ok (.getfield 16, 3) := by decide +kernel
theorem dX8_turn_230 : decode cX8_turn 230 = .ok (.sipush 360, 3) := by decide +kernel
theorem dX8_turn_233 : decode cX8_turn 233 = .ok (.iload_n 1, 1) := by decide +kernel
theorem dX8_turn_234 : decode cX8_turn 234 = .ok (.iadd, 1) := by decide +kernel
theorem dX8_turn_235 : decode cX8_turn 235 = .ok (.iaload, 1) := by decide +kernel
theorem dX8_turn_236 : decode cX8_turn 236 = .ok (.iadd, 1) := by decide +kernel
theorem dX8_turn_237 : decode cX8_turn 237 = .ok (.ireturn, 1) := by decide +kernel
theorem dX8_turn_238 : decode cX8_turn 238 = .ok (.iload_n 2, 1) := by decide +kernel
theorem dX8_turn_239 : decode cX8_turn 239 = .ok (.ireturn, 1) := by decide +kernel
theorem dX8_load_0 : decode cX8_load 0 = .ok (.aload_n 0, 1) := by decide +kernel
theorem dX8_load_1 : decode cX8_load 1 = .ok (.iload_n 1, 1) := by decide +kernel
theorem dX8_load_2 : decode cX8_load 2 = .ok (.invokevirtual 78, 3) := by decide +kernel
theorem dX8_load_5 : decode cX8_load 5 = .ok (.istore_n 2, 1) := by decide +kernel
theorem dX8_load_6 : decode cX8_load 6 = .ok (.aload_n 0, 1) := by decide +kernel
theorem dX8_load_7 : decode cX8_load 7 = .ok (.iload_n 2, 1) := by decide +kernel
theorem dX8_load_8 : decode cX8_load 8 = .ok (.iconst 2, 1) := by decide +kernel
theorem dX8_load_9 : decode cX8_load 9 = .ok (.invokevirtual 62, 3) := by decide +kernel
theorem dX8_load_12 : decode cX8_load 12 = .ok (.ifCond .eq 38, 3) := by decide +kernel
theorem dX8_load_15 : decode cX8_load 15 = .ok (.iconst 5, 1) := by decide +kernel
theorem dX8_load_16 : decode cX8_load 16 = .ok (.aload_n 0, 1) := by decide +kernel
theorem dX8_load_17 : decode cX8_load 17 = .ok (.getfield 16, 3) := by decide +kernel
theorem dX8_load_20 : decode cX8_load 20 = .ok (.bipush 120, 2) := by decide +kernel
theorem dX8_load_22 : decode cX8_load 22 = .ok (.iload_n 1, 1) := by decide +kernel
theorem dX8_load_23 : decode cX8_load 23 = .ok (.iadd, 1) := by decide +kernel
theorem dX8_load_24 : decode cX8_load 24 = .ok (.iaload, 1) := by decide +kernel
theorem dX8_load_25 : decode cX8_load 25 = .ok (.invokestatic 75, 3) := by decide +kernel
theorem dX8_load_28 : decode cX8_load 28 = .ok (.iadd, 1) := by decide +kernel
theorem dX8_load_29 : decode cX8_load 29 = .ok (.iload_n 2, 1) := by decide +kernel
theorem dX8_load_30 : decode cX8_load 30 = .ok (.iconst 4, 1) := by decide +kernel
theorem dX8_load_31 : decode cX8_load 31 = .ok (.if_icmp .ne 16, 3) := by decide +kernel
theorem dX8_load_34 : decode cX8_load 34 = .ok (.aload_n 0, 1) := by decide +kernel
theorem dX8_load_35 : decode cX8_load 35 = .ok (.getfield 16, 3) := by decide +kernel
theorem dX8_load_38 : decode cX8_load 38 = .ok (.sipush 240, 3) := by decide +kernel
theorem dX8_load_41 : decode cX8_load 41 = .ok (.iload_n 1, 1) := by decide +kernel
theorem dX8_load_42 : decode cX8_load 42 = .ok (.iadd, 1) := by decide +kernel
theorem dX8_load_43 : decode cX8_load 43 = .ok (.iaload, 1) := by decide +kernel
theorem dX8_load_44 : decode cX8_load 44 = .ok (.goto 4, 3) := by decide +kernel
theorem dX8_load_47 : decode cX8_load 47 = .ok (.iconst 0, 1) := by decide +kernel
theorem dX8_load_48 : decode cX8_load 48 = .ok (.iadd, 1) := by decide +kernel
theorem dX8_load_49 : decode cX8_load 49 = .ok (.ireturn, 1) := by decide +kernel
theorem dX8_load_50 : decode cX8_load 50 = .ok (.iload_n 2, 1) := by decide +kernel
theorem dX8_load_51 : decode cX8_load 51 = .ok (.iconst 1, 1) := by decide +kernel
theorem dX8_load_52 : decode cX8_load 52 = .ok (.if_icmp .ne 5, 3) := by decide +kernel
theorem dX8_load_55 : decode cX8_load 55 = .ok (.iconst 5, 1) := by decide +kernel
theorem dX8_load_56 : decode cX8_load 56 = .ok (.ireturn, 1) := by decide +kernel
theorem dX8_load_57 : decode cX8_load 57 = .ok (.iload_n 2, 1) := by decide +kernel
theorem dX8_load_58 : decode cX8_load 58 = .ok (.bipush 8, 2) := by decide +kernel
theorem dX8_load_60 : decode cX8_load 60 = .ok (.if_icmp .ne 20, 3) := by decide +kernel
theorem dX8_load_63 : decode cX8_load 63 = .ok (.bipush 6, 2) := by decide +kernel
theorem dX8_load_65 : decode cX8_load 65 = .ok (.aload_n 0, 1) := by decide +kernel
theorem dX8_load_66 : decode cX8_load 66 = .ok (.getfield 16, 3) := by decide +kernel
theorem dX8_load_69 : decode cX8_load 69 = .ok (.sipush 300, 3) := by decide +kernel
theorem dX8_load_72 : decode cX8_load 72 = .ok (.iload_n 1, 1) := by decide +kernel
theorem dX8_load_73 : decode cX8_load 73 = .ok (.iadd, 1) := by decide +kernel
theorem dX8_load_74 : decode cX8_load 74 = .ok (.iaload, 1) := by decide +kernel
theorem dX8_load_75 : decode cX8_load 75 = .ok (.bipush 7, 2) := by decide +kernel
theorem dX8_load_77 : decode cX8_load 77 = .ok (.iand, 1) := by decide +kernel
theorem dX8_load_78 : decode cX8_load 78 = .ok (.iadd, 1) := by decide +kernel
theorem dX8_load_79 : decode cX8_load 79 = .ok (.ireturn, 1) := by decide +kernel
theorem dX8_load_80 : decode cX8_load 80 = .ok (.aload_n 0, 1) := by decide +kernel
theorem dX8_load_81 : decode cX8_load 81 = .ok (.iload_n 2, 1) := by decide +kernel
theorem dX8_load_82 : decode cX8_load 82 = .ok (.bipush 6, 2) := by decide +kernel
theorem dX8_load_84 : decode cX8_load 84 = .ok (.invokevirtual 62, 3) := by decide +kernel
theorem dX8_load_87 : decode cX8_load 87 = .ok (.ifCond .eq 6, 3) := by decide +kernel
theorem dX8_load_90 : decode cX8_load 90 = .ok (.bipush 6, 2) := by decide +kernel
theorem dX8_load_92 : decode cX8_load 92 = .ok (.ireturn, 1) := by decide +kernel
theorem dX8_load_93 : decode cX8_load 93 = .ok (.aload_n 0, 1) := by decide +kernel
theorem dX8_load_94 : decode cX8_load 94 = .ok (.iload_n 2, 1) := by decide +kernel
theorem dX8_load_95 : decode cX8_load 95 = .ok (.bipush 9, 2) := by decide +kernel
theorem dX8_load_97 : decode cX8_load 97 = .ok (.invokevirtual 62, 3) := by decide +kernel
theorem dX8_load_100 : decode cX8_load 100 = .ok (.ifCond .eq 18, 3) := by decide +kernel
theorem dX8_load_103 : decode cX8_load 103 = .ok (.iconst 2, 1) := by decide +kernel
theorem dX8_load_104 : decode cX8_load 104 = .ok (.aload_n 0, 1) := by decide +kernel
theorem dX8_load_105 : decode cX8_load 105 = .ok (.getfield 16, 3) := by decide +kernel
theorem dX8_load_108 : decode cX8_load 108 = .ok (.sipush 360, 3) := by decide +kernel
theorem dX8_load_111 : decode cX8_load 111 = .ok (.iload_n 1, 1) := by decide +kernel
theorem dX8_load_112 : decode cX8_load 112 = .ok (.iadd, 1) := by decide +kernel
theorem dX8_load_113 : decode cX8_load 113 = .ok (.iaload, 1) := by decide +kernel
theorem dX8_load_114 : decode cX8_load 114 = .ok (.iadd, 1) := by decide +kernel
theorem dX8_load_115 : decode cX8_load 115 = .ok (.goto 4, 3) := by decide +kernel
theorem dX8_load_118 : decode cX8_load 118 = .ok (.iconst 2, 1) := by decide +kernel
theorem dX8_load_119 : decode cX8_load 119 = .ok (.ireturn, 1) := by decide +kernel
theorem dX8_calm_0 : decode cX8_calm 0 = .ok (.aload_n 0, 1) := by decide +kernel
theorem dX8_calm_1 : decode cX8_calm 1 = .ok (.iload_n 1, 1) := by decide +kernel
theorem dX8_calm_2 : decode cX8_calm 2 = .ok (.invokevirtual 78, 3) := by decide +kernel
theorem dX8_calm_5 : decode cX8_calm 5 = .ok (.istore_n 2, 1) := by decide +kernel
theorem dX8_calm_6 : decode cX8_calm 6 = .ok (.aload_n 0, 1) := by decide +kernel
theorem dX8_calm_7 : decode cX8_calm 7 = .ok (.getfield 16, 3) := by decide +kernel
theorem dX8_calm_10 : decode cX8_calm 10 = .ok (.sipush 180, 3) := by decide +kernel
theorem dX8_calm_13 : decode cX8_calm 13 = .ok (.iload_n 1, 1) := by decide +kernel
theorem dX8_calm_14 : decode cX8_calm 14 = .ok (.iadd, 1) := by decide +kernel
theorem dX8_calm_15 : decode cX8_calm 15 = .ok (.iconst 0, 1) := by decide +kernel
theorem dX8_calm_16 : decode cX8_calm 16 = .ok (.iastore, 1) := by decide +kernel
theorem dX8_calm_17 : decode cX8_calm 17 = .ok (.iload_n 2, 1) := by decide +kernel
theorem dX8_calm_18 : decode cX8_calm 18 = .ok (.iconst 4, 1) := by decide +kernel
theorem dX8_calm_19 : decode cX8_calm 19 = .ok (.if_icmp .ne 14, 3) := by decide +kernel
theorem dX8_calm_22 : decode cX8_calm 22 = .ok (.aload_n 0, 1) := by decide +kernel
theorem dX8_calm_23 : decode cX8_calm 23 = .ok (.getfield 16, 3) := by decide +kernel
theorem dX8_calm_26 : decode cX8_calm 26 = .ok (.sipush 240, 3) := by decide +kernel
theorem dX8_calm_29 : decode cX8_calm 29 = .ok (.iload_n 1, 1) := by decide +kernel
theorem dX8_calm_30 : decode cX8_calm 30 = .ok (.iadd, 1) := by decide +kernel
theorem dX8_calm_31 : decode cX8_calm 31 = .ok (.iconst 0, 1) := by decide +kernel
theorem dX8_calm_32 : decode cX8_calm 32 = .ok (.iastore, 1) := by decide +kernel
theorem dX8_calm_33 : decode cX8_calm 33 = .ok (.aload_n 0, 1) := by decide +kernel
theorem dX8_calm_34 : decode cX8_calm 34 = .ok (.iload_n 2, 1) := by decide +kernel
theorem dX8_calm_35 : decode cX8_calm 35 = .ok (.iconst 5, 1) := by decide +kernel
theorem dX8_calm_36 : decode cX8_calm 36 = .ok (.invokevirtual 62, 3) := by decide +kernel
theorem dX8_calm_39 : decode cX8_calm 39 = .ok (.ifCond .eq 14, 3) := by decide +kernel
theorem dX8_calm_42 : decode cX8_calm 42 = .ok (.aload_n 0, 1) := by decide +kernel
theorem dX8_calm_43 : decode cX8_calm 43 = .ok (.getfield 16, 3) := by decide +kernel
theorem dX8_calm_46 : decode cX8_calm 46 = .ok (.sipush 300, 3) := by decide +kernel
theorem dX8_calm_49 : decode cX8_calm 49 = .ok (.iload_n 1, 1) := by decide +kernel
theorem dX8_calm_50 : decode cX8_calm 50 = .ok (.iadd, 1) := by decide +kernel
theorem dX8_calm_51 : decode cX8_calm 51 = .ok (.iconst 0, 1) := by decide +kernel
theorem dX8_calm_52 : decode cX8_calm 52 = .ok (.iastore, 1) := by decide +kernel
theorem dX8_calm_53 : decode cX8_calm 53 = .ok (.aload_n 0, 1) := by decide +kernel
theorem dX8_calm_54 : decode cX8_calm 54 = .ok (.iload_n 2, 1) := by decide +kernel
theorem dX8_calm_55 : decode cX8_calm 55 = .ok (.bipush 7, 2) := by decide +kernel
theorem dX8_calm_57 : decode cX8_calm 57 = .ok (.invokevirtual 62, 3) := by decide +kernel
theorem dX8_calm_60 : decode cX8_calm 60 = .ok (.ifCond .eq 23, 3) := by decide +kernel
theorem dX8_calm_63 : decode cX8_calm 63 = .ok (.aload_n 0, 1) := by decide +kernel
theorem dX8_calm_64 : decode cX8_calm 64 = .ok (.getfield 16, 3) := by decide +kernel
theorem dX8_calm_67 : decode cX8_calm 67 = .ok (.bipush 120, 2) := by decide +kernel
theorem dX8_calm_69 : decode cX8_calm 69 = .ok (.iload_n 1, 1) := by decide +kernel
theorem dX8_calm_70 : decode cX8_calm 70 = .ok (.iadd, 1) := by decide +kernel
theorem dX8_calm_71 : decode cX8_calm 71 = .ok (.aload_n 0, 1) := by decide +kernel
theorem dX8_calm_72 : decode cX8_calm 72 = .ok (.getfield 16, 3) := by decide +kernel
theorem dX8_calm_75 : decode cX8_calm 75 = .ok (.bipush 120, 2) := by decide +kernel
theorem dX8_calm_77 : decode cX8_calm 77 = .ok (.iload_n 1, 1) := by decide +kernel
theorem dX8_calm_78 : decode cX8_calm 78 = .ok (.iadd, 1) := by decide +kernel
theorem dX8_calm_79 : decode cX8_calm 79 = .ok (.iaload, 1) := by decide +kernel
theorem dX8_calm_80 : decode cX8_calm 80 = .ok (.iconst 1, 1) := by decide +kernel
theorem dX8_calm_81 : decode cX8_calm 81 = .ok (.ishr, 1) := by decide +kernel
theorem dX8_calm_82 : decode cX8_calm 82 = .ok (.iastore, 1) := by decide +kernel
theorem dX8_calm_83 : decode cX8_calm 83 = .ok (.iload_n 2, 1) := by decide +kernel
theorem dX8_calm_84 : decode cX8_calm 84 = .ok (.bipush 9, 2) := by decide +kernel
theorem dX8_calm_86 : decode cX8_calm 86 = .ok (.if_icmp .ne 14, 3) := by decide +kernel
theorem dX8_calm_89 : decode cX8_calm 89 = .ok (.aload_n 0, 1) := by decide +kernel
theorem dX8_calm_90 : decode cX8_calm 90 = .ok (.getfield 16, 3) := by decide +kernel
theorem dX8_calm_93 : decode cX8_calm 93 = .ok (.sipush 360, 3) := by decide +kernel
theorem dX8_calm_96 : decode cX8_calm 96 = .ok (.iload_n 1, 1) := by decide +kernel
theorem dX8_calm_97 : decode cX8_calm 97 = .ok (.iadd, 1) := by decide +kernel
theorem dX8_calm_98 : decode cX8_calm 98 = .ok (.iconst 0, 1) := by decide +kernel
theorem dX8_calm_99 : decode cX8_calm 99 = .ok (.iastore, 1) := by decide +kernel
theorem dX8_calm_100 : decode cX8_calm 100 = .ok (.iload_n 2, 1) := by decide +kernel
theorem dX8_calm_101 : decode cX8_calm 101 = .ok (.bipush 10, 2) := by decide +kernel
theorem dX8_calm_103 : decode cX8_calm 103 = .ok (.if_icmp .ne 15, 3) := by decide +kernel
theorem dX8_calm_106 : decode cX8_calm 106 = .ok (.aload_n 0, 1) := by decide +kernel
theorem dX8_calm_107 : decode cX8_calm 107 = .ok (.getfield 16, 3) := by decide +kernel
theorem dX8_calm_110 : decode cX8_calm 110 = .ok (.sipush 360, 3) := by decide +kernel
theorem dX8_calm_113 : decode cX8_calm 113 = .ok (.iload_n 1, 1) := by decide +kernel
theorem dX8_calm_114 : decode cX8_calm 114 = .ok (.iadd, 1) := by decide +kernel
theorem dX8_calm_115 : decode cX8_calm 115 = .ok (.bipush 100, 2) := by decide +kernel
theorem dX8_calm_117 : decode cX8_calm 117 = .ok (.iastore, 1) := by decide +kernel
theorem dX8_calm_118 : decode cX8_calm 118 = .ok (.return_, 1) := by decide +kernel
theorem dX8_ticksOf_0 : decode cX8_ticksOf 0 = .ok (.iconst 0, 1) := by decide +kernel
theorem dX8_ticksOf_1 : decode cX8_ticksOf 1 = .ok (.istore_n 3, 1) := by decide +kernel
theorem dX8_ticksOf_2 : decode cX8_ticksOf 2 = .ok (.iconst 0, 1) := by decide +kernel
theorem dX8_ticksOf_3 : decode cX8_ticksOf 3 = .ok (.istore 4, 2) := by decide +kernel
theorem dX8_ticksOf_5 : decode cX8_ticksOf 5 = .ok (.iload 4, 2) := by decide +kernel
theorem dX8_ticksOf_7 : decode cX8_ticksOf 7 = .ok (.iload_n 2, 1) := by decide +kernel
theorem dX8_ticksOf_8 : decode cX8_ticksOf 8 = .ok (.if_icmp .ge 90, 3) := by decide +kernel
theorem dX8_ticksOf_11 : decode cX8_ticksOf 11 = .ok (.aload_n 0, 1) := by decide +kernel
theorem dX8_ticksOf_12 : decode cX8_ticksOf 12 = .ok (.iload_n 1, 1) := by decide +kernel
theorem dX8_ticksOf_13 : decode cX8_ticksOf 13 = .ok (.invokevirtual 78, 3) := by decide +kernel
theorem dX8_ticksOf_16 : decode cX8_ticksOf 16 = .ok (.bipush 10, 2) := by decide +kernel
theorem dX8_ticksOf_18 : decode cX8_ticksOf 18 = .ok (.if_icmp .ne 36, 3) := by decide +kernel
theorem dX8_ticksOf_21 : decode cX8_ticksOf 21 = .ok (.aload_n 0, 1) := by decide +kernel
theorem dX8_ticksOf_22 : decode cX8_ticksOf 22 = .ok (.getfield 16, 3) := by decide +kernel
theorem dX8_ticksOf_25 : decode cX8_ticksOf 25 = .ok (.sipush 360, 3) := by decide +kernel
theorem dX8_ticksOf_28 : decode cX8_ticksOf 28 = .ok (.iload_n 1, 1) := by decide +kernel
theorem dX8_ticksOf_29 : decode cX8_ticksOf 29 = .ok (.iadd, 1) := by decide +kernel
theorem dX8_ticksOf_30 : decode cX8_ticksOf 30 = .ok (.dup2, 1) := by decide +kernel
theorem dX8_ticksOf_31 : decode cX8_ticksOf 31 = .ok (.iaload, 1) := by decide +kernel
theorem dX8_ticksOf_32 : decode cX8_ticksOf 32 = .ok (.iload 4, 2) := by decide +kernel
theorem dX8_ticksOf_34 : decode cX8_ticksOf 34 = .ok (.iconst 1, 1) := by decide +kernel
theorem dX8_ticksOf_35 : decode cX8_ticksOf 35 = .ok (.iadd, 1) := by decide +kernel
theorem dX8_ticksOf_36 : decode cX8_ticksOf 36 = .ok (.iadd, 1) := by decide +kernel
theorem dX8_ticksOf_37 : decode cX8_ticksOf 37 = .ok (.iastore, 1) := by decide +kernel
theorem dX8_ticksOf_38 : decode cX8_ticksOf 38 = .ok (.iload_n 3, 1) := by decide +kernel
theorem dX8_ticksOf_39 : decode cX8_ticksOf 39 = .ok (.aload_n 0, 1) := by decide +kernel
theorem dX8_ticksOf_40 : decode cX8_ticksOf 40 = .ok (.getfield 16, 3) := by decide +kernel
theorem dX8_ticksOf_43 : decode cX8_ticksOf 43 = .ok (.sipush 360, 3) := by decide +kernel
theorem dX8_ticksOf_46 : decode cX8_ticksOf 46 = .ok (.iload_n 1, 1) := by decide +kernel
theorem dX8_ticksOf_47 : decode cX8_ticksOf 47 = .ok (.iadd, 1) := by decide +kernel
theorem dX8_ticksOf_48 : decode cX8_ticksOf 48 = .ok (.iaload, 1) := by decide +kernel
theorem dX8_ticksOf_49 : decode cX8_ticksOf 49 = .ok (.iadd, 1) := by decide +kernel
theorem dX8_ticksOf_50 : decode cX8_ticksOf 50 = .ok (.istore_n 3, 1) := by decide +kernel
theorem dX8_ticksOf_51 : decode cX8_ticksOf 51 = .ok (.goto 41, 3) := by decide +kernel
theorem dX8_ticksOf_54 : decode cX8_ticksOf 54 = .ok (.aload_n 0, 1) := by decide +kernel
theorem dX8_ticksOf_55 : decode cX8_ticksOf 55 = .ok (.getfield 16, 3) := by decide +kernel
theorem dX8_ticksOf_58 : decode cX8_ticksOf 58 = .ok (.sipush 480, 3) := by decide +kernel
theorem dX8_ticksOf_61 : decode cX8_ticksOf 61 = .ok (.iload_n 1, 1) := by decide +kernel
theorem dX8_ticksOf_62 : decode cX8_ticksOf 62 = .ok (.iadd, 1) := by decide +kernel
theorem dX8_ticksOf_63 : decode cX8_ticksOf 63 = .ok (.iconst 3, 1) := by decide +kernel
theorem dX8_ticksOf_64 : decode cX8_ticksOf 64 = .ok (.aload_n 0, 1) := by decide +kernel
theorem dX8_ticksOf_65 : decode cX8_ticksOf 65 = .ok (.getfield 16, 3) := by decide +kernel
theorem dX8_ticksOf_68 : decode cX8_ticksOf 68 = .ok (.sipush 480, 3) := by decide +kernel
theorem dX8_ticksOf_71 : decode cX8_ticksOf 71 = .ok (.iload_n 1, 1) := by decide +kernel
theorem dX8_ticksOf_72 : decode cX8_ticksOf 72 = .ok (.iadd, 1) := by decide +kernel
theorem dX8_ticksOf_73 : decode cX8_ticksOf 73 = .ok (.iaload, 1) := by decide +kernel
theorem dX8_ticksOf_74 : decode cX8_ticksOf 74 = .ok (.imul, 1) := by decide +kernel
theorem dX8_ticksOf_75 : decode cX8_ticksOf 75 = .ok (.iload 4, 2) := by decide +kernel
theorem dX8_ticksOf_77 : decode cX8_ticksOf 77 = .ok (.iadd, 1) := by decide +kernel
theorem dX8_ticksOf_78 : decode cX8_ticksOf 78 = .ok (.iastore, 1) := by decide +kernel
theorem dX8_ticksOf_79 : decode cX8_ticksOf 79 = .ok (.iload_n 3, 1) := by decide +kernel
theorem dX8_ticksOf_80 : decode cX8_ticksOf 80 = .ok (.aload_n 0, 1) := by decide +kernel
theorem dX8_ticksOf_81 : decode cX8_ticksOf 81 = .ok (.getfield 16, 3) := by decide +kernel
theorem dX8_ticksOf_84 : decode cX8_ticksOf 84 = .ok (.sipush 480, 3) := by decide +kernel
theorem dX8_ticksOf_87 : decode cX8_ticksOf 87 = .ok (.iload_n 1, 1) := by decide +kernel
theorem dX8_ticksOf_88 : decode cX8_ticksOf 88 = .ok (.iadd, 1) := by decide +kernel
theorem dX8_ticksOf_89 : decode cX8_ticksOf 89 = .ok (.iaload, 1) := by decide +kernel
theorem dX8_ticksOf_90 : decode cX8_ticksOf 90 = .ok (.iadd, 1) := by decide +kernel
theorem dX8_ticksOf_91 : decode cX8_ticksOf 91 = .ok (.istore_n 3, 1) := by decide +kernel
theorem dX8_ticksOf_92 : decode cX8_ticksOf 92 = .ok (.iinc 4 1, 3) := by decide +kernel
theorem dX8_ticksOf_95 : decode cX8_ticksOf 95 = .ok (.goto (-90), 3) := by decide +kernel
theorem dX8_ticksOf_98 : decode cX8_ticksOf 98 = .ok (.iload_n 3, 1) := by decide +kernel
theorem dX8_ticksOf_99 : decode cX8_ticksOf 99 = .ok (.ireturn, 1) := by decide +kernel
theorem dX8_thingAt_0 : decode cX8_thingAt 0 = .ok (.aload_n 0, 1) := by decide +kernel
theorem dX8_thingAt_1 : decode cX8_thingAt 1 = .ok (.getfield 19, 3) := by decide +kernel
theorem dX8_thingAt_4 : decode cX8_thingAt 4 = .ok (.bipush 12, 2) := by decide +kernel
theorem dX8_thingAt_6 : decode cX8_thingAt 6 = .ok (.iload_n 1, 1) := by decide +kernel
theorem dX8_thingAt_7 : decode cX8_thingAt 7 = .ok (.imul, 1) := by decide +kernel
theorem dX8_thingAt_8 : decode cX8_thingAt 8 = .ok (.iload_n 2, 1) := by decide +kernel
theorem dX8_thingAt_9 : decode cX8_thingAt 9 = .ok (.iadd, 1) := by decide +kernel
theorem dX8_thingAt_10 : decode cX8_thingAt 10 = .ok (.laload, 1) := by decide +kernel
theorem dX8_thingAt_11 : decode cX8_thingAt 11 = .ok (.l2i, 1) := by decide +kernel
theorem dX8_thingAt_12 : decode cX8_thingAt 12 = .ok (.iconst 1, 1) := by decide +kernel
theorem dX8_thingAt_13 : decode cX8_thingAt 13 = .ok (.isub, 1) := by decide +kernel
theorem dX8_thingAt_14 : decode cX8_thingAt 14 = .ok (.ireturn, 1) := by decide +kernel
theorem dX8_playRow_0 : decode cX8_playRow 0 = .ok (.iload_n 2, 1) := by decide +kernel
theorem dX8_playRow_1 : decode cX8_playRow 1 = .ok (.istore_n 3, 1) := by decide +kernel
theorem dX8_playRow_2 : decode cX8_playRow 2 = .ok (.iconst 0, 1) := by decide +kernel
theorem dX8_playRow_3 : decode cX8_playRow 3 = .ok (.istore 4, 2) := by decide +kernel
theorem dX8_playRow_5 : decode cX8_playRow 5 = .ok (.iload 4, 2) := by decide +kernel
theorem dX8_playRow_7 : decode cX8_playRow 7 = .ok (.aload_n 0, 1) := by decide +kernel
theorem dX8_playRow_8 : decode cX8_playRow 8 = .ok (.iload_n 1, 1) := by decide +kernel
theorem dX8_playRow_9 : decode cX8_playRow 9 = .ok (.invokevirtual 68, 3) := by decide +kernel
theorem dX8_playRow_12 : decode cX8_playRow 12 = .ok (.if_icmp .ge 31, 3) := by decide +kernel
theorem dX8_playRow_15 : decode cX8_playRow 15 = .ok (.aload_n 0, 1) := by decide +kernel
theorem dX8_playRow_16 : decode cX8_playRow 16 = .ok (.iload_n 1, 1) := by decide +kernel
theorem dX8_playRow_17 : decode cX8_playRow 17 = .ok (.iload 4, 2) := by decide +kernel
theorem dX8_playRow_19 : decode cX8_playRow 19 = .ok (.invokevirtual 85, 3) := by decide +kernel
theorem dX8_playRow_22 : decode cX8_playRow 22 = .ok (.istore 5, 2) := by decide +kernel
theorem dX8_playRow_24 : decode cX8_playRow 24 = .ok (.iload 5, 2) := by decide +kernel
theorem dX8_playRow_26 : decode cX8_playRow 26 = .ok (.ifCond .lt 11, 3) := by decide +kernel
theorem dX8_playRow_29 : decode cX8_playRow 29 = .ok (.aload_n 0, 1) := by decide +kernel
theorem dX8_playRow_30 : decode cX8_playRow 30 = .ok (.iload 5, 2) := by decide +kernel
theorem dX8_playRow_32 : decode cX8_playRow 32 = .ok (.iload_n 3, 1) := by decide +kernel
theorem dX8_playRow_33 : decode cX8_playRow 33 = .ok (.invokevirtual 88, 3) := by decide +kernel
theorem dX8_playRow_36 : decode cX8_playRow 36 = .ok (.istore_n 3, 1) := by decide +kernel
theorem dX8_playRow_37 : decode cX8_playRow 37 = .ok (.iinc 4 1, 3) := by decide +kernel
theorem dX8_playRow_40 : decode cX8_playRow 40 = .ok (.goto (-35), 3) := by decide +kernel
theorem dX8_playRow_43 : decode cX8_playRow 43 = .ok (.iload_n 3, 1) := by decide +kernel
theorem dX8_playRow_44 : decode cX8_playRow 44 = .ok (.ireturn, 1) := by decide +kernel
theorem dX8_playThing_0 : decode cX8_playThing 0 = .ok (.aload_n 0, 1) := by decide +kernel
theorem dX8_playThing_1 : decode cX8_playThing 1 = .ok (.aload_n 0, 1) := by decide +kernel
theorem dX8_playThing_2 : decode cX8_playThing 2 = .ok (.iload_n 1, 1) := by decide +kernel
theorem dX8_playThing_3 : decode cX8_playThing 3 = .ok (.invokevirtual 78, 3) := by decide +kernel
theorem dX8_playThing_6 : decode cX8_playThing 6 = .ok (.invokevirtual 65, 3) := by decide +kernel
theorem dX8_playThing_9 : decode cX8_playThing 9 = .ok (.ifCond .eq 10, 3) := by decide +kernel
theorem dX8_playThing_12 : decode cX8_playThing 12 = .ok (.aload_n 0, 1) := by decide +kernel
theorem dX8_playThing_13 : decode cX8_playThing 13 = .ok (.iload_n 1, 1) := by decide +kernel
theorem dX8_playThing_14 : decode cX8_playThing 14 = .ok (.iload_n 2, 1) := by decide +kernel
theorem dX8_playThing_15 : decode cX8_playThing 15 = .ok (.invokevirtual 88, 3) := by decide +kernel
theorem dX8_playThing_18 : decode cX8_playThing 18 = .ok (.ireturn, 1) := by decide +kernel
theorem dX8_playThing_19 : decode cX8_playThing 19 = .ok (.aload_n 0, 1) := by decide +kernel
theorem dX8_playThing_20 : decode cX8_playThing 20 = .ok (.iload_n 1, 1) := by decide +kernel
theorem dX8_playThing_21 : decode cX8_playThing 21 = .ok (.invokevirtual 78, 3) := by decide +kernel
theorem dX8_playThing_24 : decode cX8_playThing 24 = .ok (.invokestatic 55, 3) := by decide +kernel
theorem dX8_playThing_27 : decode cX8_playThing 27 = .ok (.ifCond .ne 10, 3) := by decide +kernel
theorem dX8_playThing_30 : decode cX8_playThing 30 = .ok (.aload_n 0, 1) := by decide +kernel
theorem dX8_playThing_31 : decode cX8_playThing 31 = .ok (.iload_n 1, 1) := by decide +kernel
theorem dX8_playThing_32 : decode cX8_playThing 32 = .ok (.iload_n 2, 1) := by decide +kernel
theorem dX8_playThing_33 : decode cX8_playThing 33 = .ok (.invokevirtual 91, 3) := by decide +kernel
theorem dX8_playThing_36 : decode cX8_playThing 36 = .ok (.ireturn, 1) := by decide +kernel
theorem dX8_playThing_37 : decode cX8_playThing 37 = .ok (.iload_n 2, 1) := by decide +kernel
theorem dX8_playThing_38 : decode cX8_playThing 38 = .ok (.istore_n 3, 1) := by decide +kernel
theorem dX8_playThing_39 : decode cX8_playThing 39 = .ok (.iconst 0, 1) := by decide +kernel
theorem dX8_playThing_40 : decode cX8_playThing 40 = .ok (.istore 4, 2) := by decide +kernel
theorem dX8_playThing_42 : decode cX8_playThing 42 = .ok (.iload 4, 2) := by decide +kernel
theorem dX8_playThing_44 : decode cX8_playThing 44 = .ok (.aload_n 0, 1) := by decide +kernel
theorem dX8_playThing_45 : decode cX8_playThing 45 = .ok (.iload_n 1, 1) := by decide +kernel
theorem dX8_playThing_46 : decode cX8_playThing 46 = .ok (.invokevirtual 68, 3) := by decide +kernel
theorem dX8_playThing_49 : decode cX8_playThing 49 = .ok (.if_icmp .ge 31, 3) := by decide +kernel
theorem dX8_playThing_52 : decode cX8_playThing 52 = .ok (.aload_n 0, 1) := by decide +kernel
theorem dX8_playThing_53 : decode cX8_playThing 53 = .ok (.iload_n 1, 1) := by decide +kernel
theorem dX8_playThing_54 : decode cX8_playThing 54 = .ok (.iload 4, 2) := by decide +kernel
theorem dX8_playThing_56 : decode cX8_playThing 56 = .ok (.invokevirtual 85, 3) := by decide +kernel
theorem dX8_playThing_59 : decode cX8_playThing 59 = .ok (.istore 5, 2) := by decide +kernel
theorem dX8_playThing_61 : decode cX8_playThing 61 = .ok (.iload 5, 2) := by decide +kernel
theorem dX8_playThing_63 : decode cX8_playThing 63 = .ok (.ifCond .lt 11, 3) := by decide +kernel
theorem dX8_playThing_66 : decode cX8_playThing 66 = .ok (.aload_n 0, 1) := by decide +kernel
theorem dX8_playThing_67 : decode cX8_playThing 67 = .ok (.iload 5, 2) := by decide +kernel
theorem dX8_playThing_69 : decode cX8_playThing 69 = .ok (.iload_n 3, 1) := by decide +kernel
theorem dX8_playThing_70 : decode cX8_playThing 70 = .ok (.invokevirtual 91, 3) := by decide +kernel
theorem dX8_playThing_73 : decode cX8_playThing 73 = .ok (.istore_n 3, 1) := by decide +kernel
theorem dX8_playThing_74 : decode cX8_playThing 74 = .ok (.iinc 4 1, 3) := by decide +kernel
theorem dX8_playThing_77 : decode cX8_playThing 77 = .ok (.goto (-35), 3) := by decide +kernel
theorem dX8_playThing_80 : decode cX8_playThing 80 = .ok (.iload_n 3, 1) := by decide +kernel
theorem dX8_playThing_81 : decode cX8_playThing 81 = .ok (.ireturn, 1) := by decide +kernel
theorem dX8_calmRow_0 : decode cX8_calmRow 0 = .ok (.iconst 0, 1) := by decide +kernel
theorem dX8_calmRow_1 : decode cX8_calmRow 1 = .ok (.istore_n 2, 1) := by decide +kernel
theorem dX8_calmRow_2 : decode cX8_calmRow 2 = .ok (.iconst 0, 1) := by decide +kernel
theorem dX8_calmRow_3 : decode cX8_calmRow 3 = .ok (.istore_n 3, 1) := by decide +kernel
theorem dX8_calmRow_4 : decode cX8_calmRow 4 = .ok (.iload_n 3, 1) := by decide +kernel
theorem dX8_calmRow_5 : decode cX8_calmRow 5 = .ok (.aload_n 0, 1) := by decide +kernel
theorem dX8_calmRow_6 : decode cX8_calmRow 6 = .ok (.iload_n 1, 1) := by decide +kernel
theorem dX8_calmRow_7 : decode cX8_calmRow 7 = .ok (.invokevirtual 68, 3) := by decide +kernel
theorem dX8_calmRow_10 : decode cX8_calmRow 10 = .ok (.if_icmp .ge 31, 3) := by decide +kernel
theorem dX8_calmRow_13 : decode cX8_calmRow 13 = .ok (.aload_n 0, 1) := by decide +kernel
theorem dX8_calmRow_14 : decode cX8_calmRow 14 = .ok (.iload_n 1, 1) := by decide +kernel
theorem dX8_calmRow_15 : decode cX8_calmRow 15 = .ok (.iload_n 3, 1) := by decide +kernel
theorem dX8_calmRow_16 : decode cX8_calmRow 16 = .ok (.invokevirtual 85, 3) := by decide +kernel
theorem dX8_calmRow_19 : decode cX8_calmRow 19 = .ok (.istore 4, 2) := by decide +kernel
theorem dX8_calmRow_21 : decode cX8_calmRow 21 = .ok (.iload 4, 2) := by decide +kernel
theorem dX8_calmRow_23 : decode cX8_calmRow 23 = .ok (.ifCond .lt 12, 3) := by decide +kernel
theorem dX8_calmRow_26 : decode cX8_calmRow 26 = .ok (.aload_n 0, 1) := by decide +kernel
theorem dX8_calmRow_27 : decode cX8_calmRow 27 = .ok (.iload 4, 2) := by decide +kernel
theorem dX8_calmRow_29 : decode cX8_calmRow 29 = .ok (.invokevirtual 94, 3) := by decide +kernel
theorem dX8_calmRow_32 : decode cX8_calmRow 32 = .ok (.iinc 2 1, 3) := by decide +kernel
theorem dX8_calmRow_35 : decode cX8_calmRow 35 = .ok (.iinc 3 1, 3) := by decide +kernel
theorem dX8_calmRow_38 : decode cX8_calmRow 38 = .ok (.goto (-34), 3) := by decide +kernel
theorem dX8_calmRow_41 : decode cX8_calmRow 41 = .ok (.iload_n 2, 1) := by decide +kernel
theorem dX8_calmRow_42 : decode cX8_calmRow 42 = .ok (.ireturn, 1) := by decide +kernel
theorem dX8_makeNew_0 : decode cX8_makeNew 0 = .ok (.iload_n 1, 1) := by decide +kernel
theorem dX8_makeNew_1 : decode cX8_makeNew 1 = .ok (.invokestatic 98, 3) := by decide +kernel
theorem dX8_makeNew_4 : decode cX8_makeNew 4 = .ok (.ifCond .eq 29, 3) := by decide +kernel
theorem dX8_makeNew_7 : decode cX8_makeNew 7 = .ok (.iload_n 2, 1) := by decide +kernel
theorem dX8_makeNew_8 : decode cX8_makeNew 8 = .ok (.ifCond .lt 25, 3) := by decide +kernel
theorem dX8_makeNew_11 : decode cX8_makeNew 11 = .ok (.iload_n 2, 1) := by decide +kernel
theorem dX8_makeNew_12 : decode cX8_makeNew 12 = .ok (.bipush 24, 2) := by decide +kernel
theorem dX8_makeNew_14 : decode cX8_makeNew 14 = .ok (.if_icmp .gt 19, 3) := by decide +kernel
theorem dX8_makeNew_17 : decode cX8_makeNew 17 = .ok (.iload_n 2, 1) := by decide +kernel
theorem dX8_makeNew_18 : decode cX8_makeNew 18 = .ok (.bipush 12, 2) := by decide +kernel
theorem dX8_makeNew_20 : decode cX8_makeNew 20 = .ok (.if_icmp .eq 13, 3) := by decide +kernel
theorem dX8_makeNew_23 : decode cX8_makeNew 23 = .ok (.iload_n 3, 1) := by decide +kernel
theorem dX8_makeNew_24 : decode cX8_makeNew 24 = .ok (.ifCond .lt 9, 3) := by decide +kernel
theorem dX8_makeNew_27 : decode cX8_makeNew 27 = .ok (.iload_n 3, 1) := by decide +kernel
theorem dX8_makeNew_28 : decode cX8_makeNew 28 = .ok (.bipush 12, 2) := by decide +kernel
theorem dX8_makeNew_30 : decode cX8_makeNew 30 = .ok (.if_icmp .le 9, 3) := by decide +kernel
theorem dX8_makeNew_33 : decode cX8_makeNew 33 = .ok (.aload_n 0, 1) := by decide +kernel
theorem dX8_makeNew_34 : decode cX8_makeNew 34 = .ok (.iconst 1, 1) := by decide +kernel
theorem dX8_makeNew_35 : decode cX8_makeNew 35 = .ok (.invokevirtual 101, 3) := by decide +kernel
theorem dX8_makeNew_38 : decode cX8_makeNew 38 = .ok (.ireturn, 1) := by decide +kernel
theorem dX8_makeNew_39 : decode cX8_makeNew 39 = .ok (.aload_n 0, 1) := by decide +kernel
theorem dX8_makeNew_40 : decode cX8_makeNew 40 = .ok (.getfield 16, 3) := by decide +kernel
theorem dX8_makeNew_43 : decode cX8_makeNew 43 = .ok (.sipush 556, 3) := by decide +kernel
theorem dX8_makeNew_46 : decode cX8_makeNew 46 = .ok (.iaload, 1) := by decide +kernel
theorem dX8_makeNew_47 : decode cX8_makeNew 47 = .ok (.bipush 60, 2) := by decide +kernel
theorem dX8_makeNew_49 : decode cX8_makeNew 49 = .ok (.if_icmp .ne 10, 3) := by decide +kernel
theorem dX8_makeNew_52 : decode cX8_makeNew 52 = .ok (.aload_n 0, 1) := by decide +kernel
theorem dX8_makeNew_53 : decode cX8_makeNew 53 = .ok (.bipush 6, 2) := by decide +kernel
theorem dX8_makeNew_55 : decode cX8_makeNew 55 = .ok (.invokevirtual 101, 3) := by decide +kernel
theorem dX8_makeNew_58 : decode cX8_makeNew 58 = .ok (.ireturn, 1) := by decide +kernel
theorem dX8_makeNew_59 : decode cX8_makeNew 59 = .ok (.aload_n 0, 1) := by decide +kernel
theorem dX8_makeNew_60 : decode cX8_makeNew 60 = .ok (.getfield 16, 3) := by decide +kernel
theorem dX8_makeNew_63 : decode cX8_makeNew 63 = .ok (.sipush 556, 3) := by decide +kernel
theorem dX8_makeNew_66 : decode cX8_makeNew 66 = .ok (.iaload, 1) := by decide +kernel
theorem dX8_makeNew_67 : decode cX8_makeNew 67 = .ok (.istore 4, 2) := by decide +kernel
theorem dX8_makeNew_69 : decode cX8_makeNew 69 = .ok (.iconst 0, 1) := by decide +kernel
theorem dX8_makeNew_70 : decode cX8_makeNew 70 = .ok (.istore 5, 2) := by decide +kernel
theorem dX8_makeNew_72 : decode cX8_makeNew 72 = .ok (.iload 5, 2) := by decide +kernel
theorem dX8_makeNew_74 : decode cX8_makeNew 74 = .ok (.sipush 540, 3) := by decide +kernel
theorem dX8_makeNew_77 : decode cX8_makeNew 77 = .ok (.if_icmp .ge 20, 3) := by decide +kernel
theorem dX8_makeNew_80 : decode cX8_makeNew 80 = .ok (.aload_n 0, 1) := by decide +kernel
theorem dX8_makeNew_81 : decode cX8_makeNew 81 = .ok (.getfield 16, 3) := by decide +kernel
theorem dX8_makeNew_84 : decode cX8_makeNew 84 = .ok (.iload 5, 2) := by decide +kernel
theorem dX8_makeNew_86 : decode cX8_makeNew 86 = .ok (.iload 4, 2) := by decide +kernel
theorem dX8_makeNew_88 : decode cX8_makeNew 88 = .ok (.iadd, 1) := by decide +kernel
theorem dX8_makeNew_89 : decode cX8_makeNew 89 = .ok (.iconst 0, 1) := by decide +kernel
theorem dX8_makeNew_90 : decode cX8_makeNew 90 = .ok (.iastore, 1) := by decide +kernel
theorem dX8_makeNew_91 : decode cX8_makeNew 91 = .ok (.iinc 5 60, 3) := by decide +kernel
theorem dX8_makeNew_94 : decode cX8_makeNew 94 = .ok (.goto (-22), 3) := by decide +kernel
theorem dX8_makeNew_97 : decode cX8_makeNew 97 = .ok (.iconst 0, 1) := by decide +kernel
theorem dX8_makeNew_98 : decode cX8_makeNew 98 = .ok (.istore 5, 2) := by decide +kernel
theorem dX8_makeNew_100 : decode cX8_makeNew 100 = .ok (.iload 5, 2) := by decide +kernel
theorem dX8_makeNew_102 : decode cX8_makeNew 102 = .ok (.bipush 12, 2) := by decide +kernel
theorem dX8_makeNew_104 : decode cX8_makeNew 104 = .ok (.if_icmp .ge 23, 3) := by decide +kernel
theorem dX8_makeNew_107 : decode cX8_makeNew 107 = .ok (.aload_n 0, 1) := by decide +kernel
theorem dX8_makeNew_108 : decode cX8_makeNew 108 = .ok (.getfield 19, 3) := by decide +kernel
theorem dX8_makeNew_111 : decode cX8_makeNew 111 = .ok (.bipush 12, 2) := by decide +kernel
theorem dX8_makeNew_113 : decode cX8_makeNew 113 = .ok (.iload 4, 2) := by decide +kernel
theorem dX8_makeNew_115 : decode cX8_makeNew 115 = .ok (.imul, 1) := by decide +kernel
theorem dX8_makeNew_116 : decode cX8_makeNew 116 = .ok (.iload 5, 2) := by decide +kernel
theorem dX8_makeNew_118 : decode cX8_makeNew 118 = .ok (.iadd, 1) := by decide +kernel
theorem dX8_makeNew_119 : decode cX8_makeNew 119 = .ok (.lconst 0, 1) := by decide +kernel
theorem dX8_makeNew_120 : decode cX8_makeNew 120 = .ok (.lastore, 1) := by decide +kernel
theorem dX8_makeNew_121 : decode cX8_makeNew 121 = .ok (.iinc 5 1, 3) := by decide +kernel
theorem dX8_makeNew_124 : decode cX8_makeNew 124 = .ok (.goto (-24), 3) := by decide +kernel
theorem dX8_makeNew_127 : decode cX8_makeNew 127 = .ok (.aload_n 0, 1) := by decide +kernel
theorem dX8_makeNew_128 : decode cX8_makeNew 128 = .ok (.getfield 16, 3) := by decide +kernel
theorem dX8_makeNew_131 : decode cX8_makeNew 131 = .ok (.iconst 0, 1) := by decide +kernel
theorem dX8_makeNew_132 : decode cX8_makeNew 132 = .ok (.iload 4, 2) := by decide +kernel
theorem dX8_makeNew_134 : decode cX8_makeNew 134 = .ok (.iadd, 1) := by decide +kernel
theorem dX8_makeNew_135 : decode cX8_makeNew 135 = .ok (.iload_n 2, 1) := by decide +kernel
theorem dX8_makeNew_136 : decode cX8_makeNew 136 = .ok (.iastore, 1) := by decide +kernel
theorem dX8_makeNew_137 : decode cX8_makeNew 137 = .ok (.aload_n 0, 1) := by decide +kernel
theorem dX8_makeNew_138 : decode cX8_makeNew 138 = .ok (.getfield 16, 3) := by decide +kernel
theorem dX8_makeNew_141 : decode cX8_makeNew 141 = .ok (.bipush 60, 2) := by decide +kernel
theorem dX8_makeNew_143 : decode cX8_makeNew 143 = .ok (.iload 4, 2) := by decide +kernel
theorem dX8_makeNew_145 : decode cX8_makeNew 145 = .ok (.iadd, 1) := by decide +kernel
theorem dX8_makeNew_146 : decode cX8_makeNew 146 = .ok (.iload_n 2, 1) := by decide +kernel
theorem dX8_makeNew_147 : decode cX8_makeNew 147 = .ok (.bipush 13, 2) := by decide +kernel
theorem dX8_makeNew_149 : decode cX8_makeNew 149 = .ok (.if_icmp .lt 7, 3) := by decide +kernel
theorem dX8_makeNew_152 : decode cX8_makeNew 152 = .ok (.iload_n 3, 1) := by decide +kernel
theorem dX8_makeNew_153 : decode cX8_makeNew 153 = .ok (.goto 4, 3) := by decide +kernel
theorem dX8_makeNew_156 : decode cX8_makeNew 156 = .ok (.iconst 0, 1) := by decide +kernel
theorem dX8_makeNew_157 : decode cX8_makeNew 157 = .ok (.iastore, 1) := by decide +kernel
theorem dX8_makeNew_158 : decode cX8_makeNew 158 = .ok (.aload_n 0, 1) := by decide +kernel
theorem dX8_makeNew_159 : decode cX8_makeNew 159 = .ok (.getfield 16, 3) := by decide +kernel
theorem dX8_makeNew_162 : decode cX8_makeNew 162 = .ok (.bipush 120, 2) := by decide +kernel
theorem dX8_makeNew_164 : decode cX8_makeNew 164 = .ok (.iload 4, 2) := by decide +kernel
theorem dX8_makeNew_166 : decode cX8_makeNew 166 = .ok (.iadd, 1) := by decide +kernel
theorem dX8_makeNew_167 : decode cX8_makeNew 167 = .ok (.aload_n 0, 1) := by decide +kernel
theorem dX8_makeNew_168 : decode cX8_makeNew 168 = .ok (.iload_n 2, 1) := by decide +kernel
theorem dX8_makeNew_169 : decode cX8_makeNew 169 = .ok (.invokevirtual 65, 3) := by decide +kernel
theorem dX8_makeNew_172 : decode cX8_makeNew 172 = .ok (.ifCond .eq 8, 3) := by decide +kernel
theorem dX8_makeNew_175 : decode cX8_makeNew 175 = .ok (.bipush 8, 2) := by decide +kernel
theorem dX8_makeNew_177 : decode cX8_makeNew 177 = .ok (.goto 4, 3) := by decide +kernel
theorem dX8_makeNew_180 : decode cX8_makeNew 180 = .ok (.iconst 0, 1) := by decide +kernel
theorem dX8_makeNew_181 : decode cX8_makeNew 181 = .ok (.iastore, 1) := by decide +kernel
theorem dX8_makeNew_182 : decode cX8_makeNew 182 = .ok (.aload_n 0, 1) := by decide +kernel
theorem dX8_makeNew_183 : decode cX8_makeNew 183 = .ok (.getfield 16, 3) := by decide +kernel
theorem dX8_makeNew_186 : decode cX8_makeNew 186 = .ok (.sipush 540, 3) := by decide +kernel
theorem dX8_makeNew_189 : decode cX8_makeNew 189 = .ok (.iload_n 1, 1) := by decide +kernel
theorem dX8_makeNew_190 : decode cX8_makeNew 190 = .ok (.iadd, 1) := by decide +kernel
theorem dX8_makeNew_191 : decode cX8_makeNew 191 = .ok (.iload 4, 2) := by decide +kernel
theorem dX8_makeNew_193 : decode cX8_makeNew 193 = .ok (.iconst 1, 1) := by decide +kernel
theorem dX8_makeNew_194 : decode cX8_makeNew 194 = .ok (.iadd, 1) := by decide +kernel
theorem dX8_makeNew_195 : decode cX8_makeNew 195 = .ok (.iastore, 1) := by decide +kernel
theorem dX8_makeNew_196 : decode cX8_makeNew 196 = .ok (.aload_n 0, 1) := by decide +kernel
theorem dX8_makeNew_197 : decode cX8_makeNew 197 = .ok (.getfield 16, 3) := by decide +kernel
theorem dX8_makeNew_200 : decode cX8_makeNew 200 = .ok (.sipush 556, 3) := by decide +kernel
theorem dX8_makeNew_203 : decode cX8_makeNew 203 = .ok (.dup2, 1) := by decide +kernel
theorem dX8_makeNew_204 : decode cX8_makeNew 204 = .ok (.iaload, 1) := by decide +kernel
theorem dX8_makeNew_205 : decode cX8_makeNew 205 = .ok (.iconst 1, 1) := by decide +kernel
theorem dX8_makeNew_206 : decode cX8_makeNew 206 = .ok (.iadd, 1) := by decide +kernel
theorem dX8_makeNew_207 : decode cX8_makeNew 207 = .ok (.iastore, 1) := by decide +kernel
theorem dX8_makeNew_208 : decode cX8_makeNew 208 = .ok (.iload 4, 2) := by decide +kernel
theorem dX8_makeNew_210 : decode cX8_makeNew 210 = .ok (.ireturn, 1) := by decide +kernel
theorem dX8_layOn_0 : decode cX8_layOn 0 = .ok (.iload_n 1, 1) := by decide +kernel
theorem dX8_layOn_1 : decode cX8_layOn 1 = .ok (.invokestatic 98, 3) := by decide +kernel
theorem dX8_layOn_4 : decode cX8_layOn 4 = .ok (.ifCond .eq 10, 3) := by decide +kernel
theorem dX8_layOn_7 : decode cX8_layOn 7 = .ok (.iload_n 2, 1) := by decide +kernel
theorem dX8_layOn_8 : decode cX8_layOn 8 = .ok (.invokestatic 98, 3) := by decide +kernel
theorem dX8_layOn_11 : decode cX8_layOn 11 = .ok (.ifCond .ne 9, 3) := by decide +kernel
theorem dX8_layOn_14 : decode cX8_layOn 14 = .ok (.aload_n 0, 1) := by decide +kernel
theorem dX8_layOn_15 : decode cX8_layOn 15 = .ok (.iconst 1, 1) := by decide +kernel
theorem dX8_layOn_16 : decode cX8_layOn 16 = .ok (.invokevirtual 101, 3) := by decide +kernel
theorem dX8_layOn_19 : decode cX8_layOn 19 = .ok (.ireturn, 1) := by decide +kernel
theorem dX8_layOn_20 : decode cX8_layOn 20 = .ok (.aload_n 0, 1) := by decide +kernel
theorem dX8_layOn_21 : decode cX8_layOn 21 = .ok (.getfield 16, 3) := by decide +kernel
theorem dX8_layOn_24 : decode cX8_layOn 24 = .ok (.sipush 540, 3) := by decide +kernel
theorem dX8_layOn_27 : decode cX8_layOn 27 = .ok (.iload_n 2, 1) := by decide +kernel
theorem dX8_layOn_28 : decode cX8_layOn 28 = .ok (.iadd, 1) := by decide +kernel
theorem dX8_layOn_29 : decode cX8_layOn 29 = .ok (.aload_n 0, 1) := by decide +kernel
theorem dX8_layOn_30 : decode cX8_layOn 30 = .ok (.getfield 16, 3) := by decide +kernel
theorem dX8_layOn_33 : decode cX8_layOn 33 = .ok (.sipush 540, 3) := by decide +kernel
theorem dX8_layOn_36 : decode cX8_layOn 36 = .ok (.iload_n 1, 1) := by decide +kernel
theorem dX8_layOn_37 : decode cX8_layOn 37 = .ok (.iadd, 1) := by decide +kernel
theorem dX8_layOn_38 : decode cX8_layOn 38 = .ok (.iaload, 1) := by decide +kernel
theorem dX8_layOn_39 : decode cX8_layOn 39 = .ok (.iastore, 1) := by decide +kernel
theorem dX8_layOn_40 : decode cX8_layOn 40 = .ok (.aload_n 0, 1) := by decide +kernel
theorem dX8_layOn_41 : decode cX8_layOn 41 = .ok (.getfield 16, 3) := by decide +kernel
theorem dX8_layOn_44 : decode cX8_layOn 44 = .ok (.sipush 540, 3) := by decide +kernel
theorem dX8_layOn_47 : decode cX8_layOn 47 = .ok (.iload_n 2, 1) := by decide +kernel
theorem dX8_layOn_48 : decode cX8_layOn 48 = .ok (.iadd, 1) := by decide +kernel
theorem dX8_layOn_49 : decode cX8_layOn 49 = .ok (.iaload, 1) := by decide +kernel
theorem dX8_layOn_50 : decode cX8_layOn 50 = .ok (.ifCond .le 7, 3) := by decide +kernel
theorem dX8_layOn_53 : decode cX8_layOn 53 = .ok (.iconst 1, 1) := by decide +kernel
theorem dX8_layOn_54 : decode cX8_layOn 54 = .ok (.goto 4, 3) := by decide +kernel
theorem dX8_layOn_57 : decode cX8_layOn 57 = .ok (.iconst 0, 1) := by decide +kernel
theorem dX8_layOn_58 : decode cX8_layOn 58 = .ok (.ireturn, 1) := by decide +kernel
theorem dX8_reasonOfPlace_0 : decode cX8_reasonOfPlace 0 = .ok (.aload_n 0, 1) := by decide +kernel
theorem dX8_reasonOfPlace_1 : decode cX8_reasonOfPlace 1 = .ok (.iload_n 1, 1) := by decide +kernel
theorem dX8_reasonOfPlace_2 : decode cX8_reasonOfPlace 2 = .ok (.invokevirtual 104, 3) := by decide +kernel
theorem dX8_reasonOfPlace_5 : decode cX8_reasonOfPlace 5 = .ok (.ifCond .ge 5, 3) := by decide +kernel
theorem dX8_reasonOfPlace_8 : decode cX8_reasonOfPlace 8 = .ok (.iconst 2, 1) := by decide +kernel
theorem dX8_reasonOfPlace_9 : decode cX8_reasonOfPlace 9 = .ok (.ireturn, 1) := by decide +kernel
theorem dX8_reasonOfPlace_10 : decode cX8_reasonOfPlace 10 = .ok (.aload_n 0, 1) := by decide +kernel
theorem dX8_reasonOfPlace_11 : decode cX8_reasonOfPlace 11 = .ok (.aload_n 0, 1) := by decide +kernel
theorem dX8_reasonOfPlace_12 : decode cX8_reasonOfPlace 12 = .ok (.iload_n 1, 1) := by decide +kernel
theorem dX8_reasonOfPlace_13 : decode cX8_reasonOfPlace 13 = .ok (.invokevirtual 104, 3) := by decide +kernel
theorem dX8_reasonOfPlace_16 : decode cX8_reasonOfPlace 16 = .ok (.invokevirtual 78, 3) := by decide +kernel
theorem dX8_reasonOfPlace_19 : decode cX8_reasonOfPlace 19 = .ok (.invokestatic 107, 3) := by decide +kernel
theorem dX8_reasonOfPlace_22 : decode cX8_reasonOfPlace 22 = .ok (.ifCond .ne 5, 3) := by decide +kernel
theorem dX8_reasonOfPlace_25 : decode cX8_reasonOfPlace 25 = .ok (.iconst 3, 1) := by decide +kernel
theorem dX8_reasonOfPlace_26 : decode cX8_reasonOfPlace 26 = .ok (.ireturn, 1) := by decide +kernel
theorem dX8_reasonOfPlace_27 : decode cX8_reasonOfPlace 27 = .ok (.aload_n 0, 1) := by decide +kernel
theorem dX8_reasonOfPlace_28 : decode cX8_reasonOfPlace 28 = .ok (.aload_n 0, 1) := by decide +kernel
theorem dX8_reasonOfPlace_29 : decode cX8_reasonOfPlace 29 = .ok (.iload_n 1, 1) := by decide +kernel
theorem dX8_reasonOfPlace_30 : decode cX8_reasonOfPlace 30 = .ok (.invokevirtual 104, 3) := by decide +kernel
theorem dX8_reasonOfPlace_33 : decode cX8_reasonOfPlace 33 = .ok (.iload_n 2, 1) := by decide +kernel
theorem dX8_reasonOfPlace_34 : decode cX8_reasonOfPlace 34 = .ok (.invokevirtual 110, 3) := by decide +kernel
theorem dX8_reasonOfPlace_37 : decode cX8_reasonOfPlace 37 = .ok (.ifCond .eq 7, 3) := by decide +kernel
theorem dX8_reasonOfPlace_40 : decode cX8_reasonOfPlace 40 = .ok (.iconst 0, 1) := by decide +kernel
theorem dX8_reasonOfPlace_41 : decode cX8_reasonOfPlace 41 = .ok (.goto 4, 3) := by decide +kernel
theorem dX8_reasonOfPlace_44 : decode cX8_reasonOfPlace 44 = .ok (.iconst 4, 1) := by decide +kernel
theorem dX8_reasonOfPlace_45 : decode cX8_reasonOfPlace 45 = .ok (.ireturn, 1) := by decide +kernel
theorem dX8_plugIn_0 : decode cX8_plugIn 0 = .ok (.iload_n 1, 1) := by decide +kernel
theorem dX8_plugIn_1 : decode cX8_plugIn 1 = .ok (.invokestatic 98, 3) := by decide +kernel
theorem dX8_plugIn_4 : decode cX8_plugIn 4 = .ok (.ifCond .eq 10, 3) := by decide +kernel
theorem dX8_plugIn_7 : decode cX8_plugIn 7 = .ok (.iload_n 3, 1) := by decide +kernel
theorem dX8_plugIn_8 : decode cX8_plugIn 8 = .ok (.invokestatic 98, 3) := by decide +kernel
theorem dX8_plugIn_11 : decode cX8_plugIn 11 = .ok (.ifCond .ne 9, 3) := by decide +kernel
theorem dX8_plugIn_14 : decode cX8_plugIn 14 = .ok (.aload_n 0, 1) := by decide +kernel
theorem dX8_plugIn_15 : decode cX8_plugIn 15 = .ok (.iconst 1, 1) := by decide +kernel
theorem dX8_plugIn_16 : decode cX8_plugIn 16 = .ok (.invokevirtual 101, 3) := by decide +kernel
theorem dX8_plugIn_19 : decode cX8_plugIn 19 = .ok (.ireturn, 1) := by decide +kernel
theorem dX8_plugIn_20 : decode cX8_plugIn 20 = .ok (.aload_n 0, 1) := by decide +kernel
theorem dX8_plugIn_21 : decode cX8_plugIn 21 = .ok (.iload_n 1, 1) := by decide +kernel
theorem dX8_plugIn_22 : decode cX8_plugIn 22 = .ok (.iload_n 2, 1) := by decide +kernel
theorem dX8_plugIn_23 : decode cX8_plugIn 23 = .ok (.invokevirtual 113, 3) := by decide +kernel
theorem dX8_plugIn_26 : decode cX8_plugIn 26 = .ok (.istore 4, 2) := by decide +kernel
theorem dX8_plugIn_28 : decode cX8_plugIn 28 = .ok (.iload 4, 2) := by decide +kernel
theorem dX8_plugIn_30 : decode cX8_plugIn 30 = .ok (.ifCond .le 10, 3) := by decide +kernel
theorem dX8_plugIn_33 : decode cX8_plugIn 33 = .ok (.aload_n 0, 1) := by decide +kernel
theorem dX8_plugIn_34 : decode cX8_plugIn 34 = .ok (.iload 4, 2) := by decide +kernel
theorem dX8_plugIn_36 : decode cX8_plugIn 36 = .ok (.invokevirtual 101, 3) := by decide +kernel
theorem dX8_plugIn_39 : decode cX8_plugIn 39 = .ok (.ireturn, 1) := by decide +kernel
theorem dX8_plugIn_40 : decode cX8_plugIn 40 = .ok (.aload_n 0, 1) := by decide +kernel
theorem dX8_plugIn_41 : decode cX8_plugIn 41 = .ok (.getfield 16, 3) := by decide +kernel
theorem dX8_plugIn_44 : decode cX8_plugIn 44 = .ok (.sipush 540, 3) := by decide +kernel
theorem dX8_plugIn_47 : decode cX8_plugIn 47 = .ok (.iload_n 3, 1) := by decide +kernel
theorem dX8_plugIn_48 : decode cX8_plugIn 48 = .ok (.iadd, 1) := by decide +kernel
theorem dX8_plugIn_49 : decode cX8_plugIn 49 = .ok (.iaload, 1) := by decide +kernel
theorem dX8_plugIn_50 : decode cX8_plugIn 50 = .ok (.i2l, 1) := by decide +kernel
theorem dX8_plugIn_51 : decode cX8_plugIn 51 = .ok (.lstore 5, 2) := by decide +kernel
theorem dX8_plugIn_53 : decode cX8_plugIn 53 = .ok (.aload_n 0, 1) := by decide +kernel
theorem dX8_plugIn_54 : decode cX8_plugIn 54 = .ok (.aload_n 0, 1) := by decide +kernel
theorem dX8_plugIn_55 : decode cX8_plugIn 55 = .ok (.aload_n 0, 1) := by decide +kernel
theorem dX8_plugIn_56 : decode cX8_plugIn 56 = .ok (.iload_n 1, 1) := by decide +kernel
theorem dX8_plugIn_57 : decode cX8_plugIn 57 = .ok (.invokevirtual 104, 3) := by decide +kernel
theorem dX8_plugIn_60 : decode cX8_plugIn 60 = .ok (.invokevirtual 78, 3) := by decide +kernel
theorem dX8_plugIn_63 : decode cX8_plugIn 63 = .ok (.lload 5, 2) := by decide +kernel
theorem dX8_plugIn_65 : decode cX8_plugIn 65 = .ok (.invokevirtual 116, 3) := by decide +kernel
theorem dX8_plugIn_68 : decode cX8_plugIn 68 = .ok (.ifCond .ne 9, 3) := by decide +kernel
theorem dX8_plugIn_71 : decode cX8_plugIn 71 = .ok (.aload_n 0, 1) := by decide +kernel
theorem dX8_plugIn_72 : decode cX8_plugIn 72 = .ok (.iconst 5, 1) := by decide +kernel
theorem dX8_plugIn_73 : decode cX8_plugIn 73 = .ok (.invokevirtual 101, 3) := by decide +kernel
theorem dX8_plugIn_76 : decode cX8_plugIn 76 = .ok (.ireturn, 1) := by decide +kernel
theorem dX8_plugIn_77 : decode cX8_plugIn 77 = .ok (.aload_n 0, 1) := by decide +kernel
theorem dX8_plugIn_78 : decode cX8_plugIn 78 = .ok (.aload_n 0, 1) := by decide +kernel
theorem dX8_plugIn_79 : decode cX8_plugIn 79 = .ok (.iload_n 1, 1) := by decide +kernel
theorem dX8_plugIn_80 : decode cX8_plugIn 80 = .ok (.invokevirtual 104, 3) := by decide +kernel
theorem dX8_plugIn_83 : decode cX8_plugIn 83 = .ok (.iload_n 2, 1) := by decide +kernel
theorem dX8_plugIn_84 : decode cX8_plugIn 84 = .ok (.invokevirtual 85, 3) := by decide +kernel
theorem dX8_plugIn_87 : decode cX8_plugIn 87 = .ok (.ifCond .lt 7, 3) := by decide +kernel
theorem dX8_plugIn_90 : decode cX8_plugIn 90 = .ok (.iconst 1, 1) := by decide +kernel
theorem dX8_plugIn_91 : decode cX8_plugIn 91 = .ok (.goto 4, 3) := by decide +kernel
theorem dX8_plugIn_94 : decode cX8_plugIn 94 = .ok (.iconst 0, 1) := by decide +kernel
theorem dX8_plugIn_95 : decode cX8_plugIn 95 = .ok (.istore 7, 2) := by decide +kernel
theorem dX8_plugIn_97 : decode cX8_plugIn 97 = .ok (.aload_n 0, 1) := by decide +kernel
theorem dX8_plugIn_98 : decode cX8_plugIn 98 = .ok (.getfield 19, 3) := by decide +kernel
theorem dX8_plugIn_101 : decode cX8_plugIn 101 = .ok (.bipush 12, 2) := by decide +kernel
theorem dX8_plugIn_103 : decode cX8_plugIn 103 = .ok (.aload_n 0, 1) := by decide +kernel
theorem dX8_plugIn_104 : decode cX8_plugIn 104 = .ok (.iload_n 1, 1) := by decide +kernel
theorem dX8_plugIn_105 : decode cX8_plugIn 105 = .ok (.invokevirtual 104, 3) := by decide +kernel
theorem dX8_plugIn_108 : decode cX8_plugIn 108 = .ok (.imul, 1) := by decide +kernel
theorem dX8_plugIn_109 : decode cX8_plugIn 109 = .ok (.iload_n 2, 1) := by decide +kernel
theorem dX8_plugIn_110 : decode cX8_plugIn 110 = .ok (.iadd, 1) := by decide +kernel
theorem dX8_plugIn_111 : decode cX8_plugIn 111 = .ok (.lload 5, 2) := by decide +kernel
theorem dX8_plugIn_113 : decode cX8_plugIn 113 = .ok (.lastore, 1) := by decide +kernel
theorem dX8_plugIn_114 : decode cX8_plugIn 114 = .ok (.iload 7, 2) := by decide +kernel
theorem dX8_plugIn_116 : decode cX8_plugIn 116 = .ok (.ireturn, 1) := by decide +kernel
theorem dX8_pullOut_0 : decode cX8_pullOut 0 = .ok (.iload_n 1, 1) := by decide +kernel
theorem dX8_pullOut_1 : decode cX8_pullOut 1 = .ok (.invokestatic 98, 3) := by decide +kernel
theorem dX8_pullOut_4 : decode cX8_pullOut 4 = .ok (.ifCond .eq 10, 3) := by decide +kernel
theorem dX8_pullOut_7 : decode cX8_pullOut 7 = .ok (.iload_n 3, 1) := by decide +kernel
theorem dX8_pullOut_8 : decode cX8_pullOut 8 = .ok (.invokestatic 98, 3) := by decide +kernel
theorem dX8_pullOut_11 : decode cX8_pullOut 11 = .ok (.ifCond .ne 9, 3) := by decide +kernel
theorem dX8_pullOut_14 : decode cX8_pullOut 14 = .ok (.aload_n 0, 1) := by decide +kernel
theorem dX8_pullOut_15 : decode cX8_pullOut 15 = .ok (.iconst 1, 1) := by decide +kernel
theorem dX8_pullOut_16 : decode cX8_pullOut 16 = .ok (.invokevirtual 101, 3) := by decide +kernel
theorem dX8_pullOut_19 : decode cX8_pullOut 19 = .ok (.ireturn, 1) := by decide +kernel
theorem dX8_pullOut_20 : decode cX8_pullOut 20 = .ok (.aload_n 0, 1) := by decide +kernel
theorem dX8_pullOut_21 : decode cX8_pullOut 21 = .ok (.iload_n 1, 1) := by decide +kernel
theorem dX8_pullOut_22 : decode cX8_pullOut 22 = .ok (.iload_n 2, 1) := by decide +kernel
theorem dX8_pullOut_23 : decode cX8_pullOut 23 = .ok (.invokevirtual 113, 3) := by decide +kernel
theorem dX8_pullOut_26 : decode cX8_pullOut 26 = .ok (.istore 4, 2) := by decide +kernel
theorem dX8_pullOut_28 : decode cX8_pullOut 28 = .ok (.iload 4, 2) := by decide +kernel
theorem dX8_pullOut_30 : decode cX8_pullOut 30 = .ok (.ifCond .le 10, 3) := by decide +kernel
theorem dX8_pullOut_33 : decode cX8_pullOut 33 = .ok (.aload_n 0, 1) := by decide +kernel
theorem dX8_pullOut_34 : decode cX8_pullOut 34 = .ok (.iload 4, 2) := by decide +kernel
theorem dX8_pullOut_36 : decode cX8_pullOut 36 = .ok (.invokevirtual 101, 3) := by decide +kernel
theorem dX8_pullOut_39 : decode cX8_pullOut 39 = .ok (.ireturn, 1) := by decide +kernel
theorem dX8_pullOut_40 : decode cX8_pullOut 40 = .ok (.aload_n 0, 1) := by decide +kernel
theorem dX8_pullOut_41 : decode cX8_pullOut 41 = .ok (.getfield 16, 3) := by decide +kernel
theorem dX8_pullOut_44 : decode cX8_pullOut 44 = .ok (.sipush 540, 3) := by decide +kernel
theorem dX8_pullOut_47 : decode cX8_pullOut 47 = .ok (.iload_n 3, 1) := by decide +kernel
theorem dX8_pullOut_48 : decode cX8_pullOut 48 = .ok (.iadd, 1) := by decide +kernel
theorem dX8_pullOut_49 : decode cX8_pullOut 49 = .ok (.aload_n 0, 1) := by decide +kernel
theorem dX8_pullOut_50 : decode cX8_pullOut 50 = .ok (.getfield 19, 3) := by decide +kernel
theorem dX8_pullOut_53 : decode cX8_pullOut 53 = .ok (.bipush 12, 2) := by decide +kernel
theorem dX8_pullOut_55 : decode cX8_pullOut 55 = .ok (.aload_n 0, 1) := by decide +kernel
theorem dX8_pullOut_56 : decode cX8_pullOut 56 = .ok (.iload_n 1, 1) := by decide +kernel
theorem dX8_pullOut_57 : decode cX8_pullOut 57 = .ok (.invokevirtual 104, 3) := by decide +kernel
theorem dX8_pullOut_60 : decode cX8_pullOut 60 = .ok (.imul, 1) := by decide +kernel
theorem dX8_pullOut_61 : decode cX8_pullOut 61 = .ok (.iload_n 2, 1) := by decide +kernel
theorem dX8_pullOut_62 : decode cX8_pullOut 62 = .ok (.iadd, 1) := by decide +kernel
theorem dX8_pullOut_63 : decode cX8_pullOut 63 = .ok (.laload, 1) := by decide +kernel
theorem dX8_pullOut_64 : decode cX8_pullOut 64 = .ok (.l2i, 1) := by decide +kernel
theorem dX8_pullOut_65 : decode cX8_pullOut 65 = .ok (.iastore, 1) := by decide +kernel
theorem dX8_pullOut_66 : decode cX8_pullOut 66 = .ok (.aload_n 0, 1) := by decide +kernel
theorem dX8_pullOut_67 : decode cX8_pullOut 67 = .ok (.getfield 16, 3) := by decide +kernel
theorem dX8_pullOut_70 : decode cX8_pullOut 70 = .ok (.sipush 540, 3) := by decide +kernel
theorem dX8_pullOut_73 : decode cX8_pullOut 73 = .ok (.iload_n 3, 1) := by decide +kernel
theorem dX8_pullOut_74 : decode cX8_pullOut 74 = .ok (.iadd, 1) := by decide +kernel
theorem dX8_pullOut_75 : decode cX8_pullOut 75 = .ok (.iaload, 1) := by decide +kernel
theorem dX8_pullOut_76 : decode cX8_pullOut 76 = .ok (.ifCond .le 7, 3) := by decide +kernel
theorem dX8_pullOut_79 : decode cX8_pullOut 79 = .ok (.iconst 1, 1) := by decide +kernel
theorem dX8_pullOut_80 : decode cX8_pullOut 80 = .ok (.goto 4, 3) := by decide +kernel
theorem dX8_pullOut_83 : decode cX8_pullOut 83 = .ok (.iconst 0, 1) := by decide +kernel
theorem dX8_pullOut_84 : decode cX8_pullOut 84 = .ok (.ireturn, 1) := by decide +kernel
theorem dX8_reasonOfCopy_0 : decode cX8_reasonOfCopy 0 = .ok (.aload_n 0, 1) := by decide +kernel
theorem dX8_reasonOfCopy_1 : decode cX8_reasonOfCopy 1 = .ok (.iload_n 1, 1) := by decide +kernel
theorem dX8_reasonOfCopy_2 : decode cX8_reasonOfCopy 2 = .ok (.invokevirtual 104, 3) := by decide +kernel
theorem dX8_reasonOfCopy_5 : decode cX8_reasonOfCopy 5 = .ok (.ifCond .lt 11, 3) := by decide +kernel
theorem dX8_reasonOfCopy_8 : decode cX8_reasonOfCopy 8 = .ok (.aload_n 0, 1) := by decide +kernel
theorem dX8_reasonOfCopy_9 : decode cX8_reasonOfCopy 9 = .ok (.iload_n 3, 1) := by decide +kernel
theorem dX8_reasonOfCopy_10 : decode cX8_reasonOfCopy 10 = .ok (.invokevirtual 104, 3) := by decide +kernel
theorem dX8_reasonOfCopy_13 : decode cX8_reasonOfCopy 13 = .ok (.ifCond .ge 5, 3) := by decide +kernel
theorem dX8_reasonOfCopy_16 : decode cX8_reasonOfCopy 16 = .ok (.iconst 2, 1) := by decide +kernel
theorem dX8_reasonOfCopy_17 : decode cX8_reasonOfCopy 17 = .ok (.ireturn, 1) := by decide +kernel
theorem dX8_reasonOfCopy_18 : decode cX8_reasonOfCopy 18 = .ok (.aload_n 0, 1) := by decide +kernel
theorem dX8_reasonOfCopy_19 : decode cX8_reasonOfCopy 19 = .ok (.aload_n 0, 1) := by decide +kernel
theorem dX8_reasonOfCopy_20 : decode cX8_reasonOfCopy 20 = .ok (.iload_n 1, 1) := by decide +kernel
theorem dX8_reasonOfCopy_21 : decode cX8_reasonOfCopy 21 = .ok (.invokevirtual 104, 3) := by decide +kernel
theorem dX8_reasonOfCopy_24 : decode cX8_reasonOfCopy 24 = .ok (.invokevirtual 78, 3) := by decide +kernel
theorem dX8_reasonOfCopy_27 : decode cX8_reasonOfCopy 27 = .ok (.istore 6, 2) := by decide +kernel
theorem dX8_reasonOfCopy_29 : decode cX8_reasonOfCopy 29 = .ok (.aload_n 0, 1) := by decide +kernel
theorem dX8_reasonOfCopy_30 : decode cX8_reasonOfCopy 30 = .ok (.aload_n 0, 1) := by decide +kernel
theorem dX8_reasonOfCopy_31 : decode cX8_reasonOfCopy 31 = .ok (.iload_n 3, 1) := by decide +kernel
theorem dX8_reasonOfCopy_32 : decode cX8_reasonOfCopy 32 = .ok (.invokevirtual 104, 3) := by decide +kernel
theorem dX8_reasonOfCopy_35 : decode cX8_reasonOfCopy 35 = .ok (.invokevirtual 78, 3) := by decide +kernel
theorem dX8_reasonOfCopy_38 : decode cX8_reasonOfCopy 38 = .ok (.istore 7, 2) := by decide +kernel
theorem dX8_reasonOfCopy_40 : decode cX8_reasonOfCopy 40 = .ok (.iload 6, 2) := by decide +kernel
theorem dX8_reasonOfCopy_42 : decode cX8_reasonOfCopy 42 = .ok (.bipush 13, 2) := by decide +kernel
theorem dX8_reasonOfCopy_44 : decode cX8_reasonOfCopy 44 = .ok (.if_icmp .lt 10, 3) := by decide +kernel
theorem dX8_reasonOfCopy_47 : decode cX8_reasonOfCopy 47 = .ok (.iload 7, 2) := by decide +kernel
theorem dX8_reasonOfCopy_49 : decode cX8_reasonOfCopy 49 = .ok (.bipush 13, 2) := by decide +kernel
theorem dX8_reasonOfCopy_51 : decode cX8_reasonOfCopy 51 = .ok (.if_icmp .ge 5, 3) := by decide +kernel
theorem dX8_reasonOfCopy_54 : decode cX8_reasonOfCopy 54 = .ok (.iconst 3, 1) := by decide +kernel
theorem dX8_reasonOfCopy_55 : decode cX8_reasonOfCopy 55 = .ok (.ireturn, 1) := by decide +kernel
theorem dX8_reasonOfCopy_56 : decode cX8_reasonOfCopy 56 = .ok (.iload 6, 2) := by decide +kernel
theorem dX8_reasonOfCopy_58 : decode cX8_reasonOfCopy 58 = .ok (.invokestatic 120, 3) := by decide +kernel
theorem dX8_reasonOfCopy_61 : decode cX8_reasonOfCopy 61 = .ok (.ifCond .ne 11, 3) := by decide +kernel
theorem dX8_reasonOfCopy_64 : decode cX8_reasonOfCopy 64 = .ok (.iload 7, 2) := by decide +kernel
theorem dX8_reasonOfCopy_66 : decode cX8_reasonOfCopy 66 = .ok (.invokestatic 120, 3) := by decide +kernel
theorem dX8_reasonOfCopy_69 : decode cX8_reasonOfCopy 69 = .ok (.ifCond .eq 12, 3) := by decide +kernel
theorem dX8_reasonOfCopy_72 : decode cX8_reasonOfCopy 72 = .ok (.iload 6, 2) := by decide +kernel
theorem dX8_reasonOfCopy_74 : decode cX8_reasonOfCopy 74 = .ok (.iload 7, 2) := by decide +kernel
theorem dX8_reasonOfCopy_76 : decode cX8_reasonOfCopy 76 = .ok (.if_icmp .eq 5, 3) := by decide +kernel
theorem dX8_reasonOfCopy_79 : decode cX8_reasonOfCopy 79 = .ok (.iconst 3, 1) := by decide +kernel
theorem dX8_reasonOfCopy_80 : decode cX8_reasonOfCopy 80 = .ok (.ireturn, 1) := by decide +kernel
theorem dX8_reasonOfCopy_81 : decode cX8_reasonOfCopy 81 = .ok (.iload_n 2, 1) := by decide +kernel
theorem dX8_reasonOfCopy_82 : decode cX8_reasonOfCopy 82 = .ok (.ifCond .lt 13, 3) := by decide +kernel
theorem dX8_reasonOfCopy_85 : decode cX8_reasonOfCopy 85 = .ok (.iload 4, 2) := by decide +kernel
theorem dX8_reasonOfCopy_87 : decode cX8_reasonOfCopy 87 = .ok (.ifCond .lt 8, 3) := by decide +kernel
theorem dX8_reasonOfCopy_90 : decode cX8_reasonOfCopy 90 = .ok (.iload 5, 2) := by decide +kernel
theorem dX8_reasonOfCopy_92 : decode cX8_reasonOfCopy 92 = .ok (.ifCond .ge 5, 3) := by decide +kernel
theorem dX8_reasonOfCopy_95 : decode cX8_reasonOfCopy 95 = .ok (.iconst 4, 1) := by decide +kernel
theorem dX8_reasonOfCopy_96 : decode cX8_reasonOfCopy 96 = .ok (.ireturn, 1) := by decide +kernel
theorem dX8_reasonOfCopy_97 : decode cX8_reasonOfCopy 97 = .ok (.iload_n 2, 1) := by decide +kernel
theorem dX8_reasonOfCopy_98 : decode cX8_reasonOfCopy 98 = .ok (.i2l, 1) := by decide +kernel
theorem dX8_reasonOfCopy_99 : decode cX8_reasonOfCopy 99 = .ok (.iload 5, 2) := by decide +kernel
theorem dX8_reasonOfCopy_101 : decode cX8_reasonOfCopy 101 = .ok (.i2l, 1) := by decide +kernel
theorem dX8_reasonOfCopy_102 : decode cX8_reasonOfCopy 102 = .ok (.ladd, 1) := by decide +kernel
theorem dX8_reasonOfCopy_103 : decode cX8_reasonOfCopy 103 = .ok (.aload_n 0, 1) := by decide +kernel
theorem dX8_reasonOfCopy_104 : decode cX8_reasonOfCopy 104 = .ok (.aload_n 0, 1) := by decide +kernel
theorem dX8_reasonOfCopy_105 : decode cX8_reasonOfCopy 105 = .ok (.iload_n 1, 1) := by decide +kernel
theorem dX8_reasonOfCopy_106 : decode cX8_reasonOfCopy 106 = .ok (.invokevirtual 104, 3) := by decide +kernel
theorem dX8_reasonOfCopy_109 : decode cX8_reasonOfCopy 109 = .ok (.invokevirtual 68, 3) := by decide +kernel
theorem dX8_reasonOfCopy_112 : decode cX8_reasonOfCopy 112 = .ok (.i2l, 1) := by decide +kernel
theorem dX8_reasonOfCopy_113 : decode cX8_reasonOfCopy 113 = .ok (.lcmp, 1) := by decide +kernel
theorem dX8_reasonOfCopy_114 : decode cX8_reasonOfCopy 114 = .ok (.ifCond .gt 24, 3) := by decide +kernel
theorem dX8_reasonOfCopy_117 : decode cX8_reasonOfCopy 117 = .ok (.iload 4, 2) := by decide +kernel
theorem dX8_reasonOfCopy_119 : decode cX8_reasonOfCopy 119 = .ok (.i2l, 1) := by decide +kernel
theorem dX8_reasonOfCopy_120 : decode cX8_reasonOfCopy 120 = .ok (.iload 5, 2) := by decide +kernel
theorem dX8_reasonOfCopy_122 : decode cX8_reasonOfCopy 122 = .ok (.i2l, 1) := by decide +kernel
theorem dX8_reasonOfCopy_123 : decode cX8_reasonOfCopy 123 = .ok (.ladd, 1) := by decide +kernel
theorem dX8_reasonOfCopy_124 : decode cX8_reasonOfCopy 124 = .ok (.aload_n 0, 1) := by decide +kernel
theorem dX8_reasonOfCopy_125 : decode cX8_reasonOfCopy 125 = .ok (.aload_n 0, 1) := by decide +kernel
theorem dX8_reasonOfCopy_126 : decode cX8_reasonOfCopy 126 = .ok (.iload_n 3, 1) := by decide +kernel
theorem dX8_reasonOfCopy_127 : decode cX8_reasonOfCopy 127 = .ok (.invokevirtual 104, 3) := by decide +kernel
theorem dX8_reasonOfCopy_130 : decode cX8_reasonOfCopy 130 = .ok (.invokevirtual 68, 3) := by decide +kernel
theorem dX8_reasonOfCopy_133 : decode cX8_reasonOfCopy 133 = .ok (.i2l, 1) := by decide +kernel
theorem dX8_reasonOfCopy_134 : decode cX8_reasonOfCopy 134 = .ok (.lcmp, 1) := by decide +kernel
theorem dX8_reasonOfCopy_135 : decode cX8_reasonOfCopy 135 = .ok (.ifCond .le 7, 3) := by decide +kernel
theorem dX8_reasonOfCopy_138 : decode cX8_reasonOfCopy 138 = .ok (.iconst 4, 1) := by decide +kernel
theorem dX8_reasonOfCopy_139 : decode cX8_reasonOfCopy 139 = .ok (.goto 4, 3) := by decide +kernel
theorem dX8_reasonOfCopy_142 : decode cX8_reasonOfCopy 142 = .ok (.iconst 0, 1) := by decide +kernel
theorem dX8_reasonOfCopy_143 : decode cX8_reasonOfCopy 143 = .ok (.ireturn, 1) := by decide +kernel
theorem dX8_copyOver_0 : decode cX8_copyOver 0 = .ok (.iload_n 1, 1) := by decide +kernel
theorem dX8_copyOver_1 : decode cX8_copyOver 1 = .ok (.invokestatic 98, 3) := by decide +kernel
theorem dX8_copyOver_4 : decode cX8_copyOver 4 = .ok (.ifCond .eq 10, 3) := by decide +kernel
theorem dX8_copyOver_7 : decode cX8_copyOver 7 = .ok (.iload_n 3, 1) := by decide +kernel
theorem dX8_copyOver_8 : decode cX8_copyOver 8 = .ok (.invokestatic 98, 3) := by decide +kernel
theorem dX8_copyOver_11 : decode cX8_copyOver 11 = .ok (.ifCond .ne 9, 3) := by decide +kernel
theorem dX8_copyOver_14 : decode cX8_copyOver 14 = .ok (.aload_n 0, 1) := by decide +kernel
theorem dX8_copyOver_15 : decode cX8_copyOver 15 = .ok (.iconst 1, 1) := by decide +kernel
theorem dX8_copyOver_16 : decode cX8_copyOver 16 = .ok (.invokevirtual 101, 3) := by decide +kernel
theorem dX8_copyOver_19 : decode cX8_copyOver 19 = .ok (.ireturn, 1) := by decide +kernel
theorem dX8_copyOver_20 : decode cX8_copyOver 20 = .ok (.aload_n 0, 1) := by decide +kernel
theorem dX8_copyOver_21 : decode cX8_copyOver 21 = .ok (.iload_n 1, 1) := by decide +kernel
theorem dX8_copyOver_22 : decode cX8_copyOver 22 = .ok (.iload_n 2, 1) := by decide +kernel
theorem dX8_copyOver_23 : decode cX8_copyOver 23 = .ok (.iload_n 3, 1) := by decide +kernel
theorem dX8_copyOver_24 : decode cX8_copyOver 24 = .ok (.iload 4, 2) := by decide +kernel
theorem dX8_copyOver_26 : decode cX8_copyOver 26 = .ok (.iload 5, 2) := by decide +kernel
theorem dX8_copyOver_28 : decode cX8_copyOver 28 = .ok (.invokevirtual 123, 3) := by decide +kernel
theorem dX8_copyOver_31 : decode cX8_copyOver 31 = .ok (.istore 6, 2) := by decide +kernel
theorem dX8_copyOver_33 : decode cX8_copyOver 33 = .ok (.iload 6, 2) := by decide +kernel
theorem dX8_copyOver_35 : decode cX8_copyOver 35 = .ok (.ifCond .le 10, 3) := by decide +kernel
theorem dX8_copyOver_38 : decode cX8_copyOver 38 = .ok (.aload_n 0, 1) := by decide +kernel
theorem dX8_copyOver_39 : decode cX8_copyOver 39 = .ok (.iload 6, 2) := by decide +kernel
theorem dX8_copyOver_41 : decode cX8_copyOver 41 = .ok (.invokevirtual 101, 3) := by decide +kernel
theorem dX8_copyOver_44 : decode cX8_copyOver 44 = .ok (.ireturn, 1) := by decide +kernel
theorem dX8_copyOver_45 : decode cX8_copyOver 45 = .ok (.aload_n 0, 1) := by decide +kernel
theorem dX8_copyOver_46 : decode cX8_copyOver 46 = .ok (.iload_n 3, 1) := by decide +kernel
theorem dX8_copyOver_47 : decode cX8_copyOver 47 = .ok (.invokevirtual 104, 3) := by decide +kernel
theorem dX8_copyOver_50 : decode cX8_copyOver 50 = .ok (.istore 7, 2) := by decide +kernel
theorem dX8_copyOver_52 : decode cX8_copyOver 52 = .ok (.iconst 0, 1) := by decide +kernel
theorem dX8_copyOver_53 : decode cX8_copyOver 53 = .ok (.istore 8, 2) := by decide +kernel
theorem dX8_copyOver_55 : decode cX8_copyOver 55 = .ok (.iload 8, 2) := by decide +kernel
theorem dX8_copyOver_57 : decode cX8_copyOver 57 = .ok (.iload 5, 2) := by decide +kernel
theorem dX8_copyOver_59 : decode cX8_copyOver 59 = .ok (.if_icmp .ge 34, 3) := by decide +kernel
theorem dX8_copyOver_62 : decode cX8_copyOver 62 = .ok (.aload_n 0, 1) := by decide +kernel
theorem dX8_copyOver_63 : decode cX8_copyOver 63 = .ok (.getfield 41, 3) := by decide +kernel
theorem dX8_copyOver_66 : decode cX8_copyOver 66 = .ok (.iload 8, 2) := by decide +kernel
theorem dX8_copyOver_68 : decode cX8_copyOver 68 = .ok (.aload_n 0, 1) := by decide +kernel
theorem dX8_copyOver_69 : decode cX8_copyOver 69 = .ok (.getfield 19, 3) := by decide +kernel
theorem dX8_copyOver_72 : decode cX8_copyOver 72 = .ok (.bipush 12, 2) := by decide +kernel
theorem dX8_copyOver_74 : decode cX8_copyOver 74 = .ok (.aload_n 0, 1) := by decide +kernel
theorem dX8_copyOver_75 : decode cX8_copyOver 75 = .ok (.iload_n 1, 1) := by decide +kernel
theorem dX8_copyOver_76 : decode cX8_copyOver 76 = .ok (.invokevirtual 104, 3) := by decide +kernel
theorem dX8_copyOver_79 : decode cX8_copyOver 79 = .ok (.imul, 1) := by decide +kernel
theorem dX8_copyOver_80 : decode cX8_copyOver 80 = .ok (.iload_n 2, 1) := by decide +kernel
theorem dX8_copyOver_81 : decode cX8_copyOver 81 = .ok (.iadd, 1) := by decide +kernel
theorem dX8_copyOver_82 : decode cX8_copyOver 82 = .ok (.iload 8, 2) := by decide +kernel
theorem dX8_copyOver_84 : decode cX8_copyOver 84 = .ok (.iadd, 1) := by decide +kernel
theorem dX8_copyOver_85 : decode cX8_copyOver 85 = .ok (.laload, 1) := by decide +kernel
theorem dX8_copyOver_86 : decode cX8_copyOver 86 = .ok (.lastore, 1) := by decide +kernel
theorem dX8_copyOver_87 : decode cX8_copyOver 87 = .ok (.iinc 8 1, 3) := by decide +kernel
theorem dX8_copyOver_90 : decode cX8_copyOver 90 = .ok (.goto (-35), 3) := by decide +kernel
theorem dX8_copyOver_93 : decode cX8_copyOver 93 = .ok (.iconst 0, 1) := by decide +kernel
theorem dX8_copyOver_94 : decode cX8_copyOver 94 = .ok (.istore 8, 2) := by decide +kernel
theorem dX8_copyOver_96 : decode cX8_copyOver 96 = .ok (.iload 8, 2) := by decide +kernel
theorem dX8_copyOver_98 : decode cX8_copyOver 98 = .ok (.iload 5, 2) := by decide +kernel
theorem dX8_copyOver_100 : decode cX8_copyOver 100 = .ok (.if_icmp .ge 72, 3) := by decide +kernel
theorem dX8_copyOver_103 : decode cX8_copyOver 103 = .ok (.aload_n 0, 1) := by decide +kernel
theorem dX8_copyOver_104 : decode cX8_copyOver 104 = .ok (.iload 7, 2) := by decide +kernel
theorem dX8_copyOver_106 : decode cX8_copyOver 106 = .ok (.invokevirtual 78, 3) := by decide +kernel
theorem dX8_copyOver_109 : decode cX8_copyOver 109 = .ok (.invokestatic 120, 3) := by decide +kernel
theorem dX8_copyOver_112 : decode cX8_copyOver 112 = .ok (.ifCond .ne 31, 3) := by decide +kernel
theorem dX8_copyOver_115 : decode cX8_copyOver 115 = .ok (.aload_n 0, 1) := by decide +kernel
theorem dX8_copyOver_116 : decode cX8_copyOver 116 = .ok (.aload_n 0, 1) := by decide +kernel
theorem dX8_copyOver_117 : decode cX8_copyOver 117 = .ok (.iload 7, 2) := by decide +kernel
theorem dX8_copyOver_119 : decode cX8_copyOver 119 = .ok (.invokevirtual 78, 3) := by decide +kernel
theorem dX8_copyOver_122 : decode cX8_copyOver 122 = .ok (.aload_n 0, 1) := by decide +kernel
theorem dX8_copyOver_123 : decode cX8_copyOver 123 = .ok (.getfield 41, 3) := by decide +kernel
theorem dX8_copyOver_126 : decode cX8_copyOver 126 = .ok (.iload 8, 2) := by decide +kernel
theorem dX8_copyOver_128 : decode cX8_copyOver 128 = .ok (.laload, 1) := by decide +kernel
theorem dX8_copyOver_129 : decode cX8_copyOver 129 = .ok (.invokevirtual 116, 3) := by decide +kernel
theorem dX8_copyOver_132 : decode cX8_copyOver 132 = .ok (.ifCond .ne 11, 3) := by decide +kernel
theorem dX8_copyOver_135 : decode cX8_copyOver 135 = .ok (.aload_n 0, 1) := by decide +kernel
theorem dX8_copyOver_136 : decode cX8_copyOver 136 = .ok (.iconst 5, 1) := by decide +kernel
theorem dX8_copyOver_137 : decode cX8_copyOver 137 = .ok (.putfield 71, 3) := by decide +kernel
theorem dX8_copyOver_140 : decode cX8_copyOver 140 = .ok (.iload 8, 2) := by decide +kernel
theorem dX8_copyOver_142 : decode cX8_copyOver 142 = .ok (.ireturn, 1) := by decide +kernel
theorem dX8_copyOver_143 : decode cX8_copyOver 143 = .ok (.aload_n 0, 1) := by decide +kernel
theorem dX8_copyOver_144 : decode cX8_copyOver 144 = .ok (.getfield 19, 3) := by decide +kernel
theorem dX8_copyOver_147 : decode cX8_copyOver 147 = .ok (.bipush 12, 2) := by decide +kernel
theorem dX8_copyOver_149 : decode cX8_copyOver 149 = .ok (.iload 7, 2) := by decide +kernel
theorem dX8_copyOver_151 : decode cX8_copyOver 151 = .ok (.imul, 1) := by decide +kernel
theorem dX8_copyOver_152 : decode cX8_copyOver 152 = .ok (.iload 4, 2) := by decide +kernel
theorem dX8_copyOver_154 : decode cX8_copyOver 154 = .ok (.iadd, 1) := by decide +kernel
theorem dX8_copyOver_155 : decode cX8_copyOver 155 = .ok (.iload 8, 2) := by decide +kernel
theorem dX8_copyOver_157 : decode cX8_copyOver 157 = .ok (.iadd, 1) := by decide +kernel
theorem dX8_copyOver_158 : decode cX8_copyOver 158 = .ok (.aload_n 0, 1) := by decide +kernel
theorem dX8_copyOver_159 : decode cX8_copyOver 159 = .ok (.getfield 41, 3) := by decide +kernel
theorem dX8_copyOver_162 : decode cX8_copyOver 162 = .ok (.iload 8, 2) := by decide +kernel
theorem dX8_copyOver_164 : decode cX8_copyOver 164 = .ok (.laload, 1) := by decide +kernel
theorem dX8_copyOver_165 : decode cX8_copyOver 165 = .ok (.lastore, 1) := by decide +kernel
theorem dX8_copyOver_166 : decode cX8_copyOver 166 = .ok (.iinc 8 1, 3) := by decide +kernel
theorem dX8_copyOver_169 : decode cX8_copyOver 169 = .ok (.goto (-73), 3) := by decide +kernel
theorem dX8_copyOver_172 : decode cX8_copyOver 172 = .ok (.iload 5, 2) := by decide +kernel
theorem dX8_copyOver_174 : decode cX8_copyOver 174 = .ok (.ireturn, 1) := by decide +kernel
theorem dX8_writeIn_0 : decode cX8_writeIn 0 = .ok (.iload_n 1, 1) := by decide +kernel
theorem dX8_writeIn_1 : decode cX8_writeIn 1 = .ok (.invokestatic 98, 3) := by decide +kernel
theorem dX8_writeIn_4 : decode cX8_writeIn 4 = .ok (.ifCond .ne 9, 3) := by decide +kernel
theorem dX8_writeIn_7 : decode cX8_writeIn 7 = .ok (.aload_n 0, 1) := by decide +kernel
theorem dX8_writeIn_8 : decode cX8_writeIn 8 = .ok (.iconst 1, 1) := by decide +kernel
theorem dX8_writeIn_9 : decode cX8_writeIn 9 = .ok (.invokevirtual 101, 3) := by decide +kernel
theorem dX8_writeIn_12 : decode cX8_writeIn 12 = .ok (.ireturn, 1) := by decide +kernel
theorem dX8_writeIn_13 : decode cX8_writeIn 13 = .ok (.aload_n 0, 1) := by decide +kernel
theorem dX8_writeIn_14 : decode cX8_writeIn 14 = .ok (.iload_n 1, 1) := by decide +kernel
theorem dX8_writeIn_15 : decode cX8_writeIn 15 = .ok (.invokevirtual 104, 3) := by decide +kernel
theorem dX8_writeIn_18 : decode cX8_writeIn 18 = .ok (.ifCond .ge 9, 3) := by decide +kernel
theorem dX8_writeIn_21 : decode cX8_writeIn 21 = .ok (.aload_n 0, 1) := by decide +kernel
theorem dX8_writeIn_22 : decode cX8_writeIn 22 = .ok (.iconst 2, 1) := by decide +kernel
theorem dX8_writeIn_23 : decode cX8_writeIn 23 = .ok (.invokevirtual 101, 3) := by decide +kernel
theorem dX8_writeIn_26 : decode cX8_writeIn 26 = .ok (.ireturn, 1) := by decide +kernel
theorem dX8_writeIn_27 : decode cX8_writeIn 27 = .ok (.aload_n 0, 1) := by decide +kernel
theorem dX8_writeIn_28 : decode cX8_writeIn 28 = .ok (.aload_n 0, 1) := by decide +kernel
theorem dX8_writeIn_29 : decode cX8_writeIn 29 = .ok (.iload_n 1, 1) := by decide +kernel
theorem dX8_writeIn_30 : decode cX8_writeIn 30 = .ok (.invokevirtual 104, 3) := by decide +kernel
theorem dX8_writeIn_33 : decode cX8_writeIn 33 = .ok (.invokevirtual 78, 3) := by decide +kernel
theorem dX8_writeIn_36 : decode cX8_writeIn 36 = .ok (.istore 5, 2) := by decide +kernel
theorem dX8_writeIn_38 : decode cX8_writeIn 38 = .ok (.iload 5, 2) := by decide +kernel
theorem dX8_writeIn_40 : decode cX8_writeIn 40 = .ok (.invokestatic 120, 3) := by decide +kernel
theorem dX8_writeIn_43 : decode cX8_writeIn 43 = .ok (.ifCond .ne 9, 3) := by decide +kernel
theorem dX8_writeIn_46 : decode cX8_writeIn 46 = .ok (.aload_n 0, 1) := by decide +kernel
theorem dX8_writeIn_47 : decode cX8_writeIn 47 = .ok (.iconst 3, 1) := by decide +kernel
theorem dX8_writeIn_48 : decode cX8_writeIn 48 = .ok (.invokevirtual 101, 3) := by decide +kernel
theorem dX8_writeIn_51 : decode cX8_writeIn 51 = .ok (.ireturn, 1) := by decide +kernel
theorem dX8_writeIn_52 : decode cX8_writeIn 52 = .ok (.aload_n 0, 1) := by decide +kernel
theorem dX8_writeIn_53 : decode cX8_writeIn 53 = .ok (.aload_n 0, 1) := by decide +kernel
theorem dX8_writeIn_54 : decode cX8_writeIn 54 = .ok (.iload_n 1, 1) := by decide +kernel
theorem dX8_writeIn_55 : decode cX8_writeIn 55 = .ok (.invokevirtual 104, 3) := by decide +kernel
theorem dX8_writeIn_58 : decode cX8_writeIn 58 = .ok (.iload_n 2, 1) := by decide +kernel
theorem dX8_writeIn_59 : decode cX8_writeIn 59 = .ok (.invokevirtual 110, 3) := by decide +kernel
theorem dX8_writeIn_62 : decode cX8_writeIn 62 = .ok (.ifCond .ne 9, 3) := by decide +kernel
theorem dX8_writeIn_65 : decode cX8_writeIn 65 = .ok (.aload_n 0, 1) := by decide +kernel
theorem dX8_writeIn_66 : decode cX8_writeIn 66 = .ok (.iconst 4, 1) := by decide +kernel
theorem dX8_writeIn_67 : decode cX8_writeIn 67 = .ok (.invokevirtual 101, 3) := by decide +kernel
theorem dX8_writeIn_70 : decode cX8_writeIn 70 = .ok (.ireturn, 1) := by decide +kernel
theorem dX8_writeIn_71 : decode cX8_writeIn 71 = .ok (.aload_n 0, 1) := by decide +kernel
theorem dX8_writeIn_72 : decode cX8_writeIn 72 = .ok (.getfield 19, 3) := by decide +kernel
theorem dX8_writeIn_75 : decode cX8_writeIn 75 = .ok (.bipush 12, 2) := by decide +kernel
theorem dX8_writeIn_77 : decode cX8_writeIn 77 = .ok (.aload_n 0, 1) := by decide +kernel
theorem dX8_writeIn_78 : decode cX8_writeIn 78 = .ok (.iload_n 1, 1) := by decide +kernel
theorem dX8_writeIn_79 : decode cX8_writeIn 79 = .ok (.invokevirtual 104, 3) := by decide +kernel
theorem dX8_writeIn_82 : decode cX8_writeIn 82 = .ok (.imul, 1) := by decide +kernel
theorem dX8_writeIn_83 : decode cX8_writeIn 83 = .ok (.iload_n 2, 1) := by decide +kernel
theorem dX8_writeIn_84 : decode cX8_writeIn 84 = .ok (.iadd, 1) := by decide +kernel
theorem dX8_writeIn_85 : decode cX8_writeIn 85 = .ok (.iload 5, 2) := by decide +kernel
theorem dX8_writeIn_87 : decode cX8_writeIn 87 = .ok (.bipush 13, 2) := by decide +kernel
theorem dX8_writeIn_89 : decode cX8_writeIn 89 = .ok (.if_icmp .ne 9, 3) := by decide +kernel
theorem dX8_writeIn_92 : decode cX8_writeIn 92 = .ok (.lload_n 3, 1) := by decide +kernel
theorem dX8_writeIn_93 : decode cX8_writeIn 93 = .ok (.l2i, 1) := by decide +kernel
theorem dX8_writeIn_94 : decode cX8_writeIn 94 = .ok (.i2l, 1) := by decide +kernel
theorem dX8_writeIn_95 : decode cX8_writeIn 95 = .ok (.goto 18, 3) := by decide +kernel
theorem dX8_writeIn_98 : decode cX8_writeIn 98 = .ok (.iload 5, 2) := by decide +kernel
theorem dX8_writeIn_100 : decode cX8_writeIn 100 = .ok (.bipush 14, 2) := by decide +kernel
theorem dX8_writeIn_102 : decode cX8_writeIn 102 = .ok (.if_icmp .ne 10, 3) := by decide +kernel
theorem dX8_writeIn_105 : decode cX8_writeIn 105 = .ok (.lload_n 3, 1) := by decide +kernel
theorem dX8_writeIn_106 : decode cX8_writeIn 106 = .ok (.l2i, 1) := by decide +kernel
theorem dX8_writeIn_107 : decode cX8_writeIn 107 = .ok (.i2b, 1) := by decide +kernel
theorem dX8_writeIn_108 : decode cX8_writeIn 108 = .ok (.i2l, 1) := by decide +kernel
theorem dX8_writeIn_109 : decode cX8_writeIn 109 = .ok (.goto 4, 3) := by decide +kernel
theorem dX8_writeIn_112 : decode cX8_writeIn 112 = .ok (.lload_n 3, 1) := by decide +kernel
theorem dX8_writeIn_113 : decode cX8_writeIn 113 = .ok (.lastore, 1) := by decide +kernel
theorem dX8_writeIn_114 : decode cX8_writeIn 114 = .ok (.iconst 1, 1) := by decide +kernel
theorem dX8_writeIn_115 : decode cX8_writeIn 115 = .ok (.ireturn, 1) := by decide +kernel
theorem dX8_knobTo_0 : decode cX8_knobTo 0 = .ok (.iload_n 1, 1) := by decide +kernel
theorem dX8_knobTo_1 : decode cX8_knobTo 1 = .ok (.invokestatic 98, 3) := by decide +kernel
theorem dX8_knobTo_4 : decode cX8_knobTo 4 = .ok (.ifCond .eq 17, 3) := by decide +kernel
theorem dX8_knobTo_7 : decode cX8_knobTo 7 = .ok (.iload_n 2, 1) := by decide +kernel
theorem dX8_knobTo_8 : decode cX8_knobTo 8 = .ok (.sipush (-1000), 3) := by decide +kernel
theorem dX8_knobTo_11 : decode cX8_knobTo 11 = .ok (.if_icmp .lt 10, 3) := by decide +kernel
theorem dX8_knobTo_14 : decode cX8_knobTo 14 = .ok (.iload_n 2, 1) := by decide +kernel
theorem dX8_knobTo_15 : decode cX8_knobTo 15 = .ok (.sipush 1000, 3) := by decide +kernel
theorem dX8_knobTo_18 : decode cX8_knobTo 18 = .ok (.if_icmp .le 9, 3) := by decide +kernel
theorem dX8_knobTo_21 : decode cX8_knobTo 21 = .ok (.aload_n 0, 1) := by decide +kernel
theorem dX8_knobTo_22 : decode cX8_knobTo 22 = .ok (.iconst 1, 1) := by decide +kernel
theorem dX8_knobTo_23 : decode cX8_knobTo 23 = .ok (.invokevirtual 101, 3) := by decide +kernel
theorem dX8_knobTo_26 : decode cX8_knobTo 26 = .ok (.ireturn, 1) := by decide +kernel
theorem dX8_knobTo_27 : decode cX8_knobTo 27 = .ok (.aload_n 0, 1) := by decide +kernel
theorem dX8_knobTo_28 : decode cX8_knobTo 28 = .ok (.iload_n 1, 1) := by decide +kernel
theorem dX8_knobTo_29 : decode cX8_knobTo 29 = .ok (.invokevirtual 104, 3) := by decide +kernel
theorem dX8_knobTo_32 : decode cX8_knobTo 32 = .ok (.ifCond .ge 9, 3) := by decide +kernel
theorem dX8_knobTo_35 : decode cX8_knobTo 35 = .ok (.aload_n 0, 1) := by decide +kernel
theorem dX8_knobTo_36 : decode cX8_knobTo 36 = .ok (.iconst 2, 1) := by decide +kernel
theorem dX8_knobTo_37 : decode cX8_knobTo 37 = .ok (.invokevirtual 101, 3) := by decide +kernel
theorem dX8_knobTo_40 : decode cX8_knobTo 40 = .ok (.ireturn, 1) := by decide +kernel
theorem dX8_knobTo_41 : decode cX8_knobTo 41 = .ok (.aload_n 0, 1) := by decide +kernel
theorem dX8_knobTo_42 : decode cX8_knobTo 42 = .ok (.aload_n 0, 1) := by decide +kernel
theorem dX8_knobTo_43 : decode cX8_knobTo 43 = .ok (.aload_n 0, 1) := by decide +kernel
theorem dX8_knobTo_44 : decode cX8_knobTo 44 = .ok (.iload_n 1, 1) := by decide +kernel
theorem dX8_knobTo_45 : decode cX8_knobTo 45 = .ok (.invokevirtual 104, 3) := by decide +kernel
theorem dX8_knobTo_48 : decode cX8_knobTo 48 = .ok (.invokevirtual 78, 3) := by decide +kernel
theorem dX8_knobTo_51 : decode cX8_knobTo 51 = .ok (.invokevirtual 65, 3) := by decide +kernel
theorem dX8_knobTo_54 : decode cX8_knobTo 54 = .ok (.ifCond .ne 9, 3) := by decide +kernel
theorem dX8_knobTo_57 : decode cX8_knobTo 57 = .ok (.aload_n 0, 1) := by decide +kernel
theorem dX8_knobTo_58 : decode cX8_knobTo 58 = .ok (.iconst 3, 1) := by decide +kernel
theorem dX8_knobTo_59 : decode cX8_knobTo 59 = .ok (.invokevirtual 101, 3) := by decide +kernel
theorem dX8_knobTo_62 : decode cX8_knobTo 62 = .ok (.ireturn, 1) := by decide +kernel
theorem dX8_knobTo_63 : decode cX8_knobTo 63 = .ok (.aload_n 0, 1) := by decide +kernel
theorem dX8_knobTo_64 : decode cX8_knobTo 64 = .ok (.getfield 16, 3) := by decide +kernel
theorem dX8_knobTo_67 : decode cX8_knobTo 67 = .ok (.bipush 120, 2) := by decide +kernel
theorem dX8_knobTo_69 : decode cX8_knobTo 69 = .ok (.aload_n 0, 1) := by decide +kernel
theorem dX8_knobTo_70 : decode cX8_knobTo 70 = .ok (.iload_n 1, 1) := by decide +kernel
theorem dX8_knobTo_71 : decode cX8_knobTo 71 = .ok (.invokevirtual 104, 3) := by decide +kernel
theorem dX8_knobTo_74 : decode cX8_knobTo 74 = .ok (.iadd, 1) := by decide +kernel
theorem dX8_knobTo_75 : decode cX8_knobTo 75 = .ok (.iaload, 1) := by decide +kernel
theorem dX8_knobTo_76 : decode cX8_knobTo 76 = .ok (.istore_n 3, 1) := by decide +kernel
theorem dX8_knobTo_77 : decode cX8_knobTo 77 = .ok (.aload_n 0, 1) := by decide +kernel
theorem dX8_knobTo_78 : decode cX8_knobTo 78 = .ok (.getfield 16, 3) := by decide +kernel
theorem dX8_knobTo_81 : decode cX8_knobTo 81 = .ok (.bipush 120, 2) := by decide +kernel
theorem dX8_knobTo_83 : decode cX8_knobTo 83 = .ok (.aload_n 0, 1) := by decide +kernel
theorem dX8_knobTo_84 : decode cX8_knobTo 84 = .ok (.iload_n 1, 1) := by decide +kernel
theorem dX8_knobTo_85 : decode cX8_knobTo 85 = .ok (.invokevirtual 104, 3) := by decide +kernel
theorem dX8_knobTo_88 : decode cX8_knobTo 88 = .ok (.iadd, 1) := by decide +kernel
theorem dX8_knobTo_89 : decode cX8_knobTo 89 = .ok (.iload_n 2, 1) := by decide +kernel
theorem dX8_knobTo_90 : decode cX8_knobTo 90 = .ok (.iastore, 1) := by decide +kernel
theorem dX8_knobTo_91 : decode cX8_knobTo 91 = .ok (.iload_n 3, 1) := by decide +kernel
theorem dX8_knobTo_92 : decode cX8_knobTo 92 = .ok (.ireturn, 1) := by decide +kernel
theorem dX8_reasonOfPlay_0 : decode cX8_reasonOfPlay 0 = .ok (.iload_n 1, 1) := by decide +kernel
theorem dX8_reasonOfPlay_1 : decode cX8_reasonOfPlay 1 = .ok (.invokestatic 98, 3) := by decide +kernel
theorem dX8_reasonOfPlay_4 : decode cX8_reasonOfPlay 4 = .ok (.ifCond .ne 5, 3) := by decide +kernel
theorem dX8_reasonOfPlay_7 : decode cX8_reasonOfPlay 7 = .ok (.iconst 1, 1) := by decide +kernel
theorem dX8_reasonOfPlay_8 : decode cX8_reasonOfPlay 8 = .ok (.ireturn, 1) := by decide +kernel
theorem dX8_reasonOfPlay_9 : decode cX8_reasonOfPlay 9 = .ok (.aload_n 0, 1) := by decide +kernel
theorem dX8_reasonOfPlay_10 : decode cX8_reasonOfPlay 10 = .ok (.iload_n 1, 1) := by decide +kernel
theorem dX8_reasonOfPlay_11 : decode cX8_reasonOfPlay 11 = .ok (.invokevirtual 104, 3) := by decide +kernel
theorem dX8_reasonOfPlay_14 : decode cX8_reasonOfPlay 14 = .ok (.ifCond .ge 5, 3) := by decide +kernel
theorem dX8_reasonOfPlay_17 : decode cX8_reasonOfPlay 17 = .ok (.iconst 2, 1) := by decide +kernel
theorem dX8_reasonOfPlay_18 : decode cX8_reasonOfPlay 18 = .ok (.ireturn, 1) := by decide +kernel
theorem dX8_reasonOfPlay_19 : decode cX8_reasonOfPlay 19 = .ok (.aload_n 0, 1) := by decide +kernel
theorem dX8_reasonOfPlay_20 : decode cX8_reasonOfPlay 20 = .ok (.aload_n 0, 1) := by decide +kernel
theorem dX8_reasonOfPlay_21 : decode cX8_reasonOfPlay 21 = .ok (.aload_n 0, 1) := by decide +kernel
theorem dX8_reasonOfPlay_22 : decode cX8_reasonOfPlay 22 = .ok (.iload_n 1, 1) := by decide +kernel
theorem dX8_reasonOfPlay_23 : decode cX8_reasonOfPlay 23 = .ok (.invokevirtual 104, 3) := by decide +kernel
theorem dX8_reasonOfPlay_26 : decode cX8_reasonOfPlay 26 = .ok (.invokevirtual 78, 3) := by decide +kernel
theorem dX8_reasonOfPlay_29 : decode cX8_reasonOfPlay 29 = .ok (.invokevirtual 127, 3) := by decide +kernel
theorem dX8_reasonOfPlay_32 : decode cX8_reasonOfPlay 32 = .ok (.ifCond .eq 7, 3) := by decide +kernel
theorem dX8_reasonOfPlay_35 : decode cX8_reasonOfPlay 35 = .ok (.iconst 0, 1) := by decide +kernel
theorem dX8_reasonOfPlay_36 : decode cX8_reasonOfPlay 36 = .ok (.goto 4, 3) := by decide +kernel
theorem dX8_reasonOfPlay_39 : decode cX8_reasonOfPlay 39 = .ok (.iconst 3, 1) := by decide +kernel
theorem dX8_reasonOfPlay_40 : decode cX8_reasonOfPlay 40 = .ok (.ireturn, 1) := by decide +kernel
theorem dX8_playBy_0 : decode cX8_playBy 0 = .ok (.aload_n 0, 1) := by decide +kernel
theorem dX8_playBy_1 : decode cX8_playBy 1 = .ok (.iload_n 1, 1) := by decide +kernel
theorem dX8_playBy_2 : decode cX8_playBy 2 = .ok (.invokevirtual 130, 3) := by decide +kernel
theorem dX8_playBy_5 : decode cX8_playBy 5 = .ok (.istore_n 3, 1) := by decide +kernel
theorem dX8_playBy_6 : decode cX8_playBy 6 = .ok (.iload_n 3, 1) := by decide +kernel
theorem dX8_playBy_7 : decode cX8_playBy 7 = .ok (.ifCond .le 9, 3) := by decide +kernel
theorem dX8_playBy_10 : decode cX8_playBy 10 = .ok (.aload_n 0, 1) := by decide +kernel
theorem dX8_playBy_11 : decode cX8_playBy 11 = .ok (.iload_n 3, 1) := by decide +kernel
theorem dX8_playBy_12 : decode cX8_playBy 12 = .ok (.invokevirtual 101, 3) := by decide +kernel
theorem dX8_playBy_15 : decode cX8_playBy 15 = .ok (.ireturn, 1) := by decide +kernel
theorem dX8_playBy_16 : decode cX8_playBy 16 = .ok (.aload_n 0, 1) := by decide +kernel
theorem dX8_playBy_17 : decode cX8_playBy 17 = .ok (.aload_n 0, 1) := by decide +kernel
theorem dX8_playBy_18 : decode cX8_playBy 18 = .ok (.iload_n 1, 1) := by decide +kernel
theorem dX8_playBy_19 : decode cX8_playBy 19 = .ok (.invokevirtual 104, 3) := by decide +kernel
theorem dX8_playBy_22 : decode cX8_playBy 22 = .ok (.iload_n 2, 1) := by decide +kernel
theorem dX8_playBy_23 : decode cX8_playBy 23 = .ok (.invokevirtual 133, 3) := by decide +kernel
theorem dX8_playBy_26 : decode cX8_playBy 26 = .ok (.ireturn, 1) := by decide +kernel
theorem dX8_runOver_0 : decode cX8_runOver 0 = .ok (.iload_n 1, 1) := by decide +kernel
theorem dX8_runOver_1 : decode cX8_runOver 1 = .ok (.invokestatic 98, 3) := by decide +kernel
theorem dX8_runOver_4 : decode cX8_runOver 4 = .ok (.ifCond .eq 10, 3) := by decide +kernel
theorem dX8_runOver_7 : decode cX8_runOver 7 = .ok (.iload_n 2, 1) := by decide +kernel
theorem dX8_runOver_8 : decode cX8_runOver 8 = .ok (.invokestatic 98, 3) := by decide +kernel
theorem dX8_runOver_11 : decode cX8_runOver 11 = .ok (.ifCond .ne 9, 3) := by decide +kernel
theorem dX8_runOver_14 : decode cX8_runOver 14 = .ok (.aload_n 0, 1) := by decide +kernel
theorem dX8_runOver_15 : decode cX8_runOver 15 = .ok (.iconst 1, 1) := by decide +kernel
theorem dX8_runOver_16 : decode cX8_runOver 16 = .ok (.invokevirtual 101, 3) := by decide +kernel
theorem dX8_runOver_19 : decode cX8_runOver 19 = .ok (.ireturn, 1) := by decide +kernel
theorem dX8_runOver_20 : decode cX8_runOver 20 = .ok (.aload_n 0, 1) := by decide +kernel
theorem dX8_runOver_21 : decode cX8_runOver 21 = .ok (.iload_n 1, 1) := by decide +kernel
theorem dX8_runOver_22 : decode cX8_runOver 22 = .ok (.invokevirtual 104, 3) := by decide +kernel
theorem dX8_runOver_25 : decode cX8_runOver 25 = .ok (.ifCond .lt 11, 3) := by decide +kernel
theorem dX8_runOver_28 : decode cX8_runOver 28 = .ok (.aload_n 0, 1) := by decide +kernel
theorem dX8_runOver_29 : decode cX8_runOver 29 = .ok (.iload_n 2, 1) := by decide +kernel
theorem dX8_runOver_30 : decode cX8_runOver 30 = .ok (.invokevirtual 104, 3) := by decide +kernel
theorem dX8_runOver_33 : decode cX8_runOver 33 = .ok (.ifCond .ge 9, 3) := by decide +kernel
theorem dX8_runOver_36 : decode cX8_runOver 36 = .ok (.aload_n 0, 1) := by decide +kernel
theorem dX8_runOver_37 : decode cX8_runOver 37 = .ok (.iconst 2, 1) := by decide +kernel
theorem dX8_runOver_38 : decode cX8_runOver 38 = .ok (.invokevirtual 101, 3) := by decide +kernel
theorem dX8_runOver_41 : decode cX8_runOver 41 = .ok (.ireturn, 1) := by decide +kernel
theorem dX8_runOver_42 : decode cX8_runOver 42 = .ok (.aload_n 0, 1) := by decide +kernel
theorem dX8_runOver_43 : decode cX8_runOver 43 = .ok (.aload_n 0, 1) := by decide +kernel
theorem dX8_runOver_44 : decode cX8_runOver 44 = .ok (.aload_n 0, 1) := by decide +kernel
theorem dX8_runOver_45 : decode cX8_runOver 45 = .ok (.iload_n 1, 1) := by decide +kernel
theorem dX8_runOver_46 : decode cX8_runOver 46 = .ok (.invokevirtual 104, 3) := by decide +kernel
theorem dX8_runOver_49 : decode cX8_runOver 49 = .ok (.invokevirtual 78, 3) := by decide +kernel
theorem dX8_runOver_52 : decode cX8_runOver 52 = .ok (.invokevirtual 127, 3) := by decide +kernel
theorem dX8_runOver_55 : decode cX8_runOver 55 = .ok (.ifCond .eq 17, 3) := by decide +kernel
theorem dX8_runOver_58 : decode cX8_runOver 58 = .ok (.aload_n 0, 1) := by decide +kernel
theorem dX8_runOver_59 : decode cX8_runOver 59 = .ok (.aload_n 0, 1) := by decide +kernel
theorem dX8_runOver_60 : decode cX8_runOver 60 = .ok (.iload_n 2, 1) := by decide +kernel
theorem dX8_runOver_61 : decode cX8_runOver 61 = .ok (.invokevirtual 104, 3) := by decide +kernel
theorem dX8_runOver_64 : decode cX8_runOver 64 = .ok (.invokevirtual 78, 3) := by decide +kernel
theorem dX8_runOver_67 : decode cX8_runOver 67 = .ok (.bipush 13, 2) := by decide +kernel
theorem dX8_runOver_69 : decode cX8_runOver 69 = .ok (.if_icmp .eq 9, 3) := by decide +kernel
theorem dX8_runOver_72 : decode cX8_runOver 72 = .ok (.aload_n 0, 1) := by decide +kernel
theorem dX8_runOver_73 : decode cX8_runOver 73 = .ok (.iconst 3, 1) := by decide +kernel
theorem dX8_runOver_74 : decode cX8_runOver 74 = .ok (.invokevirtual 101, 3) := by decide +kernel
theorem dX8_runOver_77 : decode cX8_runOver 77 = .ok (.ireturn, 1) := by decide +kernel
theorem dX8_runOver_78 : decode cX8_runOver 78 = .ok (.aload_n 0, 1) := by decide +kernel
theorem dX8_runOver_79 : decode cX8_runOver 79 = .ok (.iload_n 2, 1) := by decide +kernel
theorem dX8_runOver_80 : decode cX8_runOver 80 = .ok (.invokevirtual 104, 3) := by decide +kernel
theorem dX8_runOver_83 : decode cX8_runOver 83 = .ok (.istore_n 3, 1) := by decide +kernel
theorem dX8_runOver_84 : decode cX8_runOver 84 = .ok (.iconst 0, 1) := by decide +kernel
theorem dX8_runOver_85 : decode cX8_runOver 85 = .ok (.istore 4, 2) := by decide +kernel
theorem dX8_runOver_87 : decode cX8_runOver 87 = .ok (.iload 4, 2) := by decide +kernel
theorem dX8_runOver_89 : decode cX8_runOver 89 = .ok (.aload_n 0, 1) := by decide +kernel
theorem dX8_runOver_90 : decode cX8_runOver 90 = .ok (.iload_n 3, 1) := by decide +kernel
theorem dX8_runOver_91 : decode cX8_runOver 91 = .ok (.invokevirtual 68, 3) := by decide +kernel
theorem dX8_runOver_94 : decode cX8_runOver 94 = .ok (.if_icmp .ge 44, 3) := by decide +kernel
theorem dX8_runOver_97 : decode cX8_runOver 97 = .ok (.aload_n 0, 1) := by decide +kernel
theorem dX8_runOver_98 : decode cX8_runOver 98 = .ok (.getfield 19, 3) := by decide +kernel
theorem dX8_runOver_101 : decode cX8_runOver 101 = .ok (.bipush 12, 2) := by decide +kernel
theorem dX8_runOver_103 : decode cX8_runOver 103 = .ok (.iload_n 3, 1) := by decide +kernel
theorem dX8_runOver_104 : decode cX8_runOver 104 = .ok (.imul, 1) := by decide +kernel
theorem dX8_runOver_105 : decode cX8_runOver 105 = .ok (.iload 4, 2) := by decide +kernel
theorem dX8_runOver_107 : decode cX8_runOver 107 = .ok (.iadd, 1) := by decide +kernel
theorem dX8_runOver_108 : decode cX8_runOver 108 = .ok (.aload_n 0, 1) := by decide +kernel
theorem dX8_runOver_109 : decode cX8_runOver 109 = .ok (.aload_n 0, 1) := by decide +kernel
theorem dX8_runOver_110 : decode cX8_runOver 110 = .ok (.iload_n 1, 1) := by decide +kernel
theorem dX8_runOver_111 : decode cX8_runOver 111 = .ok (.invokevirtual 104, 3) := by decide +kernel
theorem dX8_runOver_114 : decode cX8_runOver 114 = .ok (.aload_n 0, 1) := by decide +kernel
theorem dX8_runOver_115 : decode cX8_runOver 115 = .ok (.getfield 19, 3) := by decide +kernel
theorem dX8_runOver_118 : decode cX8_runOver 118 = .ok (.bipush 12, 2) := by decide +kernel
theorem dX8_runOver_120 : decode cX8_runOver 120 = .ok (.iload_n 3, 1) := by decide +kernel
theorem dX8_runOver_121 : decode cX8_runOver 121 = .ok (.imul, 1) := by decide +kernel
theorem dX8_runOver_122 : decode cX8_runOver 122 = .ok (.iload 4, 2) := by decide +kernel
theorem dX8_runOver_124 : decode cX8_runOver 124 = .ok (.iadd, 1) := by decide +kernel
theorem dX8_runOver_125 : decode cX8_runOver 125 = .ok (.laload, 1) := by decide +kernel
theorem dX8_runOver_126 : decode cX8_runOver 126 = .ok (.l2i, 1) := by decide +kernel
theorem dX8_runOver_127 : decode cX8_runOver 127 = .ok (.invokevirtual 133, 3) := by decide +kernel
theorem dX8_runOver_130 : decode cX8_runOver 130 = .ok (.i2l, 1) := by decide +kernel
theorem dX8_runOver_131 : decode cX8_runOver 131 = .ok (.lastore, 1) := by decide +kernel
theorem dX8_runOver_132 : decode cX8_runOver 132 = .ok (.iinc 4 1, 3) := by decide +kernel
theorem dX8_runOver_135 : decode cX8_runOver 135 = .ok (.goto (-48), 3) := by decide +kernel
theorem dX8_runOver_138 : decode cX8_runOver 138 = .ok (.aload_n 0, 1) := by decide +kernel
theorem dX8_runOver_139 : decode cX8_runOver 139 = .ok (.iload_n 3, 1) := by decide +kernel
theorem dX8_runOver_140 : decode cX8_runOver 140 = .ok (.invokevirtual 68, 3) := by decide +kernel
theorem dX8_runOver_143 : decode cX8_runOver 143 = .ok (.ireturn, 1) := by decide +kernel
theorem dX8_ticksBy_0 : decode cX8_ticksBy 0 = .ok (.iload_n 1, 1) := by decide +kernel
theorem dX8_ticksBy_1 : decode cX8_ticksBy 1 = .ok (.invokestatic 98, 3) := by decide +kernel
theorem dX8_ticksBy_4 : decode cX8_ticksBy 4 = .ok (.ifCond .eq 13, 3) := by decide +kernel
theorem dX8_ticksBy_7 : decode cX8_ticksBy 7 = .ok (.iload_n 2, 1) := by decide +kernel
theorem dX8_ticksBy_8 : decode cX8_ticksBy 8 = .ok (.ifCond .lt 9, 3) := by decide +kernel
theorem dX8_ticksBy_11 : decode cX8_ticksBy 11 = .ok (.iload_n 2, 1) := by decide +kernel
theorem dX8_ticksBy_12 : decode cX8_ticksBy 12 = .ok (.bipush 8, 2) := by decide +kernel
theorem dX8_ticksBy_14 : decode cX8_ticksBy 14 = .ok (.if_icmp .le 9, 3) := by decide +kernel
theorem dX8_ticksBy_17 : decode cX8_ticksBy 17 = .ok (.aload_n 0, 1) := by decide +kernel
theorem dX8_ticksBy_18 : decode cX8_ticksBy 18 = .ok (.iconst 1, 1) := by decide +kernel
theorem dX8_ticksBy_19 : decode cX8_ticksBy 19 = .ok (.invokevirtual 101, 3) := by decide +kernel
theorem dX8_ticksBy_22 : decode cX8_ticksBy 22 = .ok (.ireturn, 1) := by decide +kernel
theorem dX8_ticksBy_23 : decode cX8_ticksBy 23 = .ok (.aload_n 0, 1) := by decide +kernel
theorem dX8_ticksBy_24 : decode cX8_ticksBy 24 = .ok (.iload_n 1, 1) := by decide +kernel
theorem dX8_ticksBy_25 : decode cX8_ticksBy 25 = .ok (.invokevirtual 104, 3) := by decide +kernel
theorem dX8_ticksBy_28 : decode cX8_ticksBy 28 = .ok (.ifCond .ge 9, 3) := by decide +kernel
theorem dX8_ticksBy_31 : decode cX8_ticksBy 31 = .ok (.aload_n 0, 1) := by decide +kernel
theorem dX8_ticksBy_32 : decode cX8_ticksBy 32 = .ok (.iconst 2, 1) := by decide +kernel
theorem dX8_ticksBy_33 : decode cX8_ticksBy 33 = .ok (.invokevirtual 101, 3) := by decide +kernel
theorem dX8_ticksBy_36 : decode cX8_ticksBy 36 = .ok (.ireturn, 1) := by decide +kernel
theorem dX8_ticksBy_37 : decode cX8_ticksBy 37 = .ok (.aload_n 0, 1) := by decide +kernel
theorem dX8_ticksBy_38 : decode cX8_ticksBy 38 = .ok (.iload_n 1, 1) := by decide +kernel
theorem dX8_ticksBy_39 : decode cX8_ticksBy 39 = .ok (.invokevirtual 104, 3) := by decide +kernel
theorem dX8_ticksBy_42 : decode cX8_ticksBy 42 = .ok (.istore_n 3, 1) := by decide +kernel
theorem dX8_ticksBy_43 : decode cX8_ticksBy 43 = .ok (.aload_n 0, 1) := by decide +kernel
theorem dX8_ticksBy_44 : decode cX8_ticksBy 44 = .ok (.aload_n 0, 1) := by decide +kernel
theorem dX8_ticksBy_45 : decode cX8_ticksBy 45 = .ok (.iload_n 3, 1) := by decide +kernel
theorem dX8_ticksBy_46 : decode cX8_ticksBy 46 = .ok (.invokevirtual 78, 3) := by decide +kernel
theorem dX8_ticksBy_49 : decode cX8_ticksBy 49 = .ok (.bipush 12, 2) := by decide +kernel
theorem dX8_ticksBy_51 : decode cX8_ticksBy 51 = .ok (.invokevirtual 62, 3) := by decide +kernel
theorem dX8_ticksBy_54 : decode cX8_ticksBy 54 = .ok (.ifCond .eq 10, 3) := by decide +kernel
theorem dX8_ticksBy_57 : decode cX8_ticksBy 57 = .ok (.aload_n 0, 1) := by decide +kernel
theorem dX8_ticksBy_58 : decode cX8_ticksBy 58 = .ok (.iload_n 3, 1) := by decide +kernel
theorem dX8_ticksBy_59 : decode cX8_ticksBy 59 = .ok (.iload_n 2, 1) := by decide +kernel
theorem dX8_ticksBy_60 : decode cX8_ticksBy 60 = .ok (.invokevirtual 136, 3) := by decide +kernel
theorem dX8_ticksBy_63 : decode cX8_ticksBy 63 = .ok (.ireturn, 1) := by decide +kernel
theorem dX8_ticksBy_64 : decode cX8_ticksBy 64 = .ok (.aload_n 0, 1) := by decide +kernel
theorem dX8_ticksBy_65 : decode cX8_ticksBy 65 = .ok (.aload_n 0, 1) := by decide +kernel
theorem dX8_ticksBy_66 : decode cX8_ticksBy 66 = .ok (.iload_n 3, 1) := by decide +kernel
theorem dX8_ticksBy_67 : decode cX8_ticksBy 67 = .ok (.invokevirtual 78, 3) := by decide +kernel
theorem dX8_ticksBy_70 : decode cX8_ticksBy 70 = .ok (.bipush 21, 2) := by decide +kernel
theorem dX8_ticksBy_72 : decode cX8_ticksBy 72 = .ok (.invokevirtual 62, 3) := by decide +kernel
theorem dX8_ticksBy_75 : decode cX8_ticksBy 75 = .ok (.ifCond .ne 9, 3) := by decide +kernel
theorem dX8_ticksBy_78 : decode cX8_ticksBy 78 = .ok (.aload_n 0, 1) := by decide +kernel
theorem dX8_ticksBy_79 : decode cX8_ticksBy 79 = .ok (.iconst 3, 1) := by decide +kernel
theorem dX8_ticksBy_80 : decode cX8_ticksBy 80 = .ok (.invokevirtual 101, 3) := by decide +kernel
theorem dX8_ticksBy_83 : decode cX8_ticksBy 83 = .ok (.ireturn, 1) := by decide +kernel
theorem dX8_ticksBy_84 : decode cX8_ticksBy 84 = .ok (.iconst 0, 1) := by decide +kernel
theorem dX8_ticksBy_85 : decode cX8_ticksBy 85 = .ok (.istore 4, 2) := by decide +kernel
theorem dX8_ticksBy_87 : decode cX8_ticksBy 87 = .ok (.iconst 0, 1) := by decide +kernel
theorem dX8_ticksBy_88 : decode cX8_ticksBy 88 = .ok (.istore 5, 2) := by decide +kernel
theorem dX8_ticksBy_90 : decode cX8_ticksBy 90 = .ok (.iload 5, 2) := by decide +kernel
theorem dX8_ticksBy_92 : decode cX8_ticksBy 92 = .ok (.aload_n 0, 1) := by decide +kernel
theorem dX8_ticksBy_93 : decode cX8_ticksBy 93 = .ok (.iload_n 3, 1) := by decide +kernel
theorem dX8_ticksBy_94 : decode cX8_ticksBy 94 = .ok (.invokevirtual 68, 3) := by decide +kernel
theorem dX8_ticksBy_97 : decode cX8_ticksBy 97 = .ok (.if_icmp .ge 35, 3) := by decide +kernel
theorem dX8_ticksBy_100 : decode cX8_ticksBy 100 = .ok (.aload_n 0, 1) := by decide +kernel
theorem dX8_ticksBy_101 : decode cX8_ticksBy 101 = .ok (.iload_n 3, 1) := by decide +kernel
theorem dX8_ticksBy_102 : decode cX8_ticksBy 102 = .ok (.iload 5, 2) := by decide +kernel
theorem dX8_ticksBy_104 : decode cX8_ticksBy 104 = .ok (.invokevirtual 85, 3) := by decide +kernel
theorem dX8_ticksBy_107 : decode cX8_ticksBy 107 = .ok (.istore 6, 2) := by decide +kernel
theorem dX8_ticksBy_109 : decode cX8_ticksBy 109 = .ok (.iload 6, 2) := by decide +kernel
theorem dX8_ticksBy_111 : decode cX8_ticksBy 111 = .ok (.ifCond .lt 15, 3) := by decide +kernel
theorem dX8_ticksBy_114 : decode cX8_ticksBy 114 = .ok (.iload 4, 2) := by decide +kernel
theorem dX8_ticksBy_116 : decode cX8_ticksBy 116 = .ok (.aload_n 0, 1) := by decide +kernel
theorem dX8_ticksBy_117 : decode cX8_ticksBy 117 = .ok (.iload 6, 2) := by decide +kernel
theorem dX8_ticksBy_119 : decode cX8_ticksBy 119 = .ok (.iload_n 2, 1) := by decide +kernel
theorem dX8_ticksBy_120 : decode cX8_ticksBy 120 = .ok (.invokevirtual 136, 3) := by decide +kernel
theorem dX8_ticksBy_123 : decode cX8_ticksBy 123 = .ok (.iadd, 1) := by decide +kernel
theorem dX8_ticksBy_124 : decode cX8_ticksBy 124 = .ok (.istore 4, 2) := by decide +kernel
theorem dX8_ticksBy_126 : decode cX8_ticksBy 126 = .ok (.iinc 5 1, 3) := by decide +kernel
theorem dX8_ticksBy_129 : decode cX8_ticksBy 129 = .ok (.goto (-39), 3) := by decide +kernel
theorem dX8_ticksBy_132 : decode cX8_ticksBy 132 = .ok (.iload 4, 2) := by decide +kernel
theorem dX8_ticksBy_134 : decode cX8_ticksBy 134 = .ok (.ireturn, 1) := by decide +kernel
theorem dX8_restOf_0 : decode cX8_restOf 0 = .ok (.aload_n 0, 1) := by decide +kernel
theorem dX8_restOf_1 : decode cX8_restOf 1 = .ok (.iload_n 1, 1) := by decide +kernel
theorem dX8_restOf_2 : decode cX8_restOf 2 = .ok (.invokevirtual 130, 3) := by decide +kernel
theorem dX8_restOf_5 : decode cX8_restOf 5 = .ok (.istore_n 2, 1) := by decide +kernel
theorem dX8_restOf_6 : decode cX8_restOf 6 = .ok (.iload_n 2, 1) := by decide +kernel
theorem dX8_restOf_7 : decode cX8_restOf 7 = .ok (.ifCond .le 9, 3) := by decide +kernel
theorem dX8_restOf_10 : decode cX8_restOf 10 = .ok (.aload_n 0, 1) := by decide +kernel
theorem dX8_restOf_11 : decode cX8_restOf 11 = .ok (.iload_n 2, 1) := by decide +kernel
theorem dX8_restOf_12 : decode cX8_restOf 12 = .ok (.invokevirtual 101, 3) := by decide +kernel
theorem dX8_restOf_15 : decode cX8_restOf 15 = .ok (.ireturn, 1) := by decide +kernel
theorem dX8_restOf_16 : decode cX8_restOf 16 = .ok (.aload_n 0, 1) := by decide +kernel
theorem dX8_restOf_17 : decode cX8_restOf 17 = .ok (.iload_n 1, 1) := by decide +kernel
theorem dX8_restOf_18 : decode cX8_restOf 18 = .ok (.invokevirtual 104, 3) := by decide +kernel
theorem dX8_restOf_21 : decode cX8_restOf 21 = .ok (.istore_n 3, 1) := by decide +kernel
theorem dX8_restOf_22 : decode cX8_restOf 22 = .ok (.aload_n 0, 1) := by decide +kernel
theorem dX8_restOf_23 : decode cX8_restOf 23 = .ok (.aload_n 0, 1) := by decide +kernel
theorem dX8_restOf_24 : decode cX8_restOf 24 = .ok (.iload_n 3, 1) := by decide +kernel
theorem dX8_restOf_25 : decode cX8_restOf 25 = .ok (.invokevirtual 78, 3) := by decide +kernel
theorem dX8_restOf_28 : decode cX8_restOf 28 = .ok (.invokevirtual 65, 3) := by decide +kernel
theorem dX8_restOf_31 : decode cX8_restOf 31 = .ok (.ifCond .eq 10, 3) := by decide +kernel
theorem dX8_restOf_34 : decode cX8_restOf 34 = .ok (.aload_n 0, 1) := by decide +kernel
theorem dX8_restOf_35 : decode cX8_restOf 35 = .ok (.iload_n 3, 1) := by decide +kernel
theorem dX8_restOf_36 : decode cX8_restOf 36 = .ok (.invokevirtual 94, 3) := by decide +kernel
theorem dX8_restOf_39 : decode cX8_restOf 39 = .ok (.iconst 1, 1) := by decide +kernel
theorem dX8_restOf_40 : decode cX8_restOf 40 = .ok (.ireturn, 1) := by decide +kernel
theorem dX8_restOf_41 : decode cX8_restOf 41 = .ok (.aload_n 0, 1) := by decide +kernel
theorem dX8_restOf_42 : decode cX8_restOf 42 = .ok (.iload_n 3, 1) := by decide +kernel
theorem dX8_restOf_43 : decode cX8_restOf 43 = .ok (.invokevirtual 78, 3) := by decide +kernel
theorem dX8_restOf_46 : decode cX8_restOf 46 = .ok (.invokestatic 55, 3) := by decide +kernel
theorem dX8_restOf_49 : decode cX8_restOf 49 = .ok (.ifCond .ne 9, 3) := by decide +kernel
theorem dX8_restOf_52 : decode cX8_restOf 52 = .ok (.aload_n 0, 1) := by decide +kernel
theorem dX8_restOf_53 : decode cX8_restOf 53 = .ok (.iload_n 3, 1) := by decide +kernel
theorem dX8_restOf_54 : decode cX8_restOf 54 = .ok (.invokevirtual 139, 3) := by decide +kernel
theorem dX8_restOf_57 : decode cX8_restOf 57 = .ok (.ireturn, 1) := by decide +kernel
theorem dX8_restOf_58 : decode cX8_restOf 58 = .ok (.iconst 0, 1) := by decide +kernel
theorem dX8_restOf_59 : decode cX8_restOf 59 = .ok (.istore 4, 2) := by decide +kernel
theorem dX8_restOf_61 : decode cX8_restOf 61 = .ok (.iconst 0, 1) := by decide +kernel
theorem dX8_restOf_62 : decode cX8_restOf 62 = .ok (.istore 5, 2) := by decide +kernel
theorem dX8_restOf_64 : decode cX8_restOf 64 = .ok (.iload 5, 2) := by decide +kernel
theorem dX8_restOf_66 : decode cX8_restOf 66 = .ok (.aload_n 0, 1) := by decide +kernel
theorem dX8_restOf_67 : decode cX8_restOf 67 = .ok (.iload_n 3, 1) := by decide +kernel
theorem dX8_restOf_68 : decode cX8_restOf 68 = .ok (.invokevirtual 68, 3) := by decide +kernel
theorem dX8_restOf_71 : decode cX8_restOf 71 = .ok (.if_icmp .ge 34, 3) := by decide +kernel
theorem dX8_restOf_74 : decode cX8_restOf 74 = .ok (.aload_n 0, 1) := by decide +kernel
theorem dX8_restOf_75 : decode cX8_restOf 75 = .ok (.iload_n 3, 1) := by decide +kernel
theorem dX8_restOf_76 : decode cX8_restOf 76 = .ok (.iload 5, 2) := by decide +kernel
theorem dX8_restOf_78 : decode cX8_restOf 78 = .ok (.invokevirtual 85, 3) := by decide +kernel
theorem dX8_restOf_81 : decode cX8_restOf 81 = .ok (.istore 6, 2) := by decide +kernel
theorem dX8_restOf_83 : decode cX8_restOf 83 = .ok (.iload 6, 2) := by decide +kernel
theorem dX8_restOf_85 : decode cX8_restOf 85 = .ok (.ifCond .lt 14, 3) := by decide +kernel
theorem dX8_restOf_88 : decode cX8_restOf 88 = .ok (.iload 4, 2) := by decide +kernel
theorem dX8_restOf_90 : decode cX8_restOf 90 = .ok (.aload_n 0, 1) := by decide +kernel
theorem dX8_restOf_91 : decode cX8_restOf 91 = .ok (.iload 6, 2) := by decide +kernel
theorem dX8_restOf_93 : decode cX8_restOf 93 = .ok (.invokevirtual 139, 3) := by decide +kernel
theorem dX8_restOf_96 : decode cX8_restOf 96 = .ok (.iadd, 1) := by decide +kernel
theorem dX8_restOf_97 : decode cX8_restOf 97 = .ok (.istore 4, 2) := by decide +kernel
theorem dX8_restOf_99 : decode cX8_restOf 99 = .ok (.iinc 5 1, 3) := by decide +kernel
theorem dX8_restOf_102 : decode cX8_restOf 102 = .ok (.goto (-38), 3) := by decide +kernel
theorem dX8_restOf_105 : decode cX8_restOf 105 = .ok (.iload 4, 2) := by decide +kernel
theorem dX8_restOf_107 : decode cX8_restOf 107 = .ok (.ireturn, 1) := by decide +kernel
theorem dX8_whenUnder_0 : decode cX8_whenUnder 0 = .ok (.iload_n 1, 1) := by decide +kernel
theorem dX8_whenUnder_1 : decode cX8_whenUnder 1 = .ok (.invokestatic 98, 3) := by decide +kernel
theorem dX8_whenUnder_4 : decode cX8_whenUnder 4 = .ok (.ifCond .eq 13, 3) := by decide +kernel
theorem dX8_whenUnder_7 : decode cX8_whenUnder 7 = .ok (.iload_n 2, 1) := by decide +kernel
theorem dX8_whenUnder_8 : decode cX8_whenUnder 8 = .ok (.ifCond .lt 9, 3) := by decide +kernel
theorem dX8_whenUnder_11 : decode cX8_whenUnder 11 = .ok (.iload_n 2, 1) := by decide +kernel
theorem dX8_whenUnder_12 : decode cX8_whenUnder 12 = .ok (.bipush 24, 2) := by decide +kernel
theorem dX8_whenUnder_14 : decode cX8_whenUnder 14 = .ok (.if_icmp .le 9, 3) := by decide +kernel
theorem dX8_whenUnder_17 : decode cX8_whenUnder 17 = .ok (.aload_n 0, 1) := by decide +kernel
theorem dX8_whenUnder_18 : decode cX8_whenUnder 18 = .ok (.iconst 1, 1) := by decide +kernel
theorem dX8_whenUnder_19 : decode cX8_whenUnder 19 = .ok (.invokevirtual 101, 3) := by decide +kernel
theorem dX8_whenUnder_22 : decode cX8_whenUnder 22 = .ok (.ireturn, 1) := by decide +kernel
theorem dX8_whenUnder_23 : decode cX8_whenUnder 23 = .ok (.aload_n 0, 1) := by decide +kernel
theorem dX8_whenUnder_24 : decode cX8_whenUnder 24 = .ok (.iload_n 1, 1) := by decide +kernel
theorem dX8_whenUnder_25 : decode cX8_whenUnder 25 = .ok (.invokevirtual 104, 3) := by decide +kernel
theorem dX8_whenUnder_28 : decode cX8_whenUnder 28 = .ok (.ifCond .lt 24, 3) := by decide +kernel
theorem dX8_whenUnder_31 : decode cX8_whenUnder 31 = .ok (.aload_n 0, 1) := by decide +kernel
theorem dX8_whenUnder_32 : decode cX8_whenUnder 32 = .ok (.aload_n 0, 1) := by decide +kernel
theorem dX8_whenUnder_33 : decode cX8_whenUnder 33 = .ok (.aload_n 0, 1) := by decide +kernel
theorem dX8_whenUnder_34 : decode cX8_whenUnder 34 = .ok (.iload_n 1, 1) := by decide +kernel
theorem dX8_whenUnder_35 : decode cX8_whenUnder 35 = .ok (.invokevirtual 104, 3) := by decide +kernel
theorem dX8_whenUnder_38 : decode cX8_whenUnder 38 = .ok (.invokevirtual 78, 3) := by decide +kernel
theorem dX8_whenUnder_41 : decode cX8_whenUnder 41 = .ok (.iload_n 2, 1) := by decide +kernel
theorem dX8_whenUnder_42 : decode cX8_whenUnder 42 = .ok (.invokevirtual 62, 3) := by decide +kernel
theorem dX8_whenUnder_45 : decode cX8_whenUnder 45 = .ok (.ifCond .eq 7, 3) := by decide +kernel
theorem dX8_whenUnder_48 : decode cX8_whenUnder 48 = .ok (.iconst 1, 1) := by decide +kernel
theorem dX8_whenUnder_49 : decode cX8_whenUnder 49 = .ok (.goto 4, 3) := by decide +kernel
theorem dX8_whenUnder_52 : decode cX8_whenUnder 52 = .ok (.iconst 0, 1) := by decide +kernel
theorem dX8_whenUnder_53 : decode cX8_whenUnder 53 = .ok (.ireturn, 1) := by decide +kernel
theorem dX8_done_0 : decode cX8_done 0 = .ok (.aload_n 1, 1) := by decide +kernel
theorem dX8_done_1 : decode cX8_done 1 = .ok (.iload_n 2, 1) := by decide +kernel
theorem dX8_done_2 : decode cX8_done 2 = .ok (.iconst 1, 1) := by decide +kernel
theorem dX8_done_3 : decode cX8_done 3 = .ok (.iadd, 1) := by decide +kernel
theorem dX8_done_4 : decode cX8_done 4 = .ok (.iaload, 1) := by decide +kernel
theorem dX8_done_5 : decode cX8_done 5 = .ok (.istore 5, 2) := by decide +kernel
theorem dX8_done_7 : decode cX8_done 7 = .ok (.aload_n 1, 1) := by decide +kernel
theorem dX8_done_8 : decode cX8_done 8 = .ok (.iload_n 2, 1) := by decide +kernel
theorem dX8_done_9 : decode cX8_done 9 = .ok (.iconst 2, 1) := by decide +kernel
theorem dX8_done_10 : decode cX8_done 10 = .ok (.iadd, 1) := by decide +kernel
theorem dX8_done_11 : decode cX8_done 11 = .ok (.iaload, 1) := by decide +kernel
theorem dX8_done_12 : decode cX8_done 12 = .ok (.istore 6, 2) := by decide +kernel
theorem dX8_done_14 : decode cX8_done 14 = .ok (.aload_n 1, 1) := by decide +kernel
theorem dX8_done_15 : decode cX8_done 15 = .ok (.iload_n 2, 1) := by decide +kernel
theorem dX8_done_16 : decode cX8_done 16 = .ok (.iconst 3, 1) := by decide +kernel
theorem dX8_done_17 : decode cX8_done 17 = .ok (.iadd, 1) := by decide +kernel
theorem dX8_done_18 : decode cX8_done 18 = .ok (.iaload, 1) := by decide +kernel
theorem dX8_done_19 : decode cX8_done 19 = .ok (.istore 7, 2) := by decide +kernel
theorem dX8_done_21 : decode cX8_done 21 = .ok (.aload_n 0, 1) := by decide +kernel
theorem dX8_done_22 : decode cX8_done 22 = .ok (.iconst 0, 1) := by decide +kernel
theorem dX8_done_23 : decode cX8_done 23 = .ok (.putfield 71, 3) := by decide +kernel
theorem dX8_done_26 : decode cX8_done 26 = .ok (.aload_n 1, 1) := by decide +kernel
theorem dX8_done_27 : decode cX8_done 27 = .ok (.iload_n 2, 1) := by decide +kernel
theorem dX8_done_28 : decode cX8_done 28 = .ok (.iaload, 1) := by decide +kernel
theorem dX8_done_29 : decode cX8_done 29 = .ok (.tableswitch 175 1 11 #[59, 70, 79, 90, 101, 122, 132, 141, 150, 159, 168], 59) := by decide +kernel
theorem dX8_done_88 : decode cX8_done 88 = .ok (.aload_n 0, 1) := by decide +kernel
theorem dX8_done_89 : decode cX8_done 89 = .ok (.iload 5, 2) := by decide +kernel
theorem dX8_done_91 : decode cX8_done 91 = .ok (.iload 6, 2) := by decide +kernel
theorem dX8_done_93 : decode cX8_done 93 = .ok (.iload 7, 2) := by decide +kernel
theorem dX8_done_95 : decode cX8_done 95 = .ok (.invokevirtual 142, 3) := by decide +kernel
theorem dX8_done_98 : decode cX8_done 98 = .ok (.ireturn, 1) := by decide +kernel
theorem dX8_done_99 : decode cX8_done 99 = .ok (.aload_n 0, 1) := by decide +kernel
theorem dX8_done_100 : decode cX8_done 100 = .ok (.iload 5, 2) := by decide +kernel
theorem dX8_done_102 : decode cX8_done 102 = .ok (.iload 6, 2) := by decide +kernel
theorem dX8_done_104 : decode cX8_done 104 = .ok (.invokevirtual 146, 3) := by decide +kernel
theorem dX8_done_107 : decode cX8_done 107 = .ok (.ireturn, 1) := by decide +kernel
theorem dX8_done_108 : decode cX8_done 108 = .ok (.aload_n 0, 1) := by decide +kernel
theorem dX8_done_109 : decode cX8_done 109 = .ok (.iload 5, 2) := by decide +kernel
theorem dX8_done_111 : decode cX8_done 111 = .ok (.iload 6, 2) := by decide +kernel
theorem dX8_done_113 : decode cX8_done 113 = .ok (.iload 7, 2) := by decide +kernel
theorem dX8_done_115 : decode cX8_done 115 = .ok (.invokevirtual 149, 3) := by decide +kernel
theorem dX8_done_118 : decode cX8_done 118 = .ok (.ireturn, 1) := by decide +kernel
theorem dX8_done_119 : decode cX8_done 119 = .ok (.aload_n 0, 1) := by decide +kernel
theorem dX8_done_120 : decode cX8_done 120 = .ok (.iload 5, 2) := by decide +kernel
theorem dX8_done_122 : decode cX8_done 122 = .ok (.iload 6, 2) := by decide +kernel
theorem dX8_done_124 : decode cX8_done 124 = .ok (.iload 7, 2) := by decide +kernel
theorem dX8_done_126 : decode cX8_done 126 = .ok (.invokevirtual 152, 3) := by decide +kernel
theorem dX8_done_129 : decode cX8_done 129 = .ok (.ireturn, 1) := by decide +kernel
theorem dX8_done_130 : decode cX8_done 130 = .ok (.aload_n 0, 1) := by decide +kernel
theorem dX8_done_131 : decode cX8_done 131 = .ok (.iload 5, 2) := by decide +kernel
theorem dX8_done_133 : decode cX8_done 133 = .ok (.iload 6, 2) := by decide +kernel
theorem dX8_done_135 : decode cX8_done 135 = .ok (.iload 7, 2) := by decide +kernel
theorem dX8_done_137 : decode cX8_done 137 = .ok (.aload_n 1, 1) := by decide +kernel
theorem dX8_done_138 : decode cX8_done 138 = .ok (.iload_n 2, 1) := by decide +kernel
theorem dX8_done_139 : decode cX8_done 139 = .ok (.iconst 4, 1) := by decide +kernel
theorem dX8_done_140 : decode cX8_done 140 = .ok (.iadd, 1) := by decide +kernel
theorem dX8_done_141 : decode cX8_done 141 = .ok (.iaload, 1) := by decide +kernel
theorem dX8_done_142 : decode cX8_done 142 = .ok (.aload_n 1, 1) := by decide +kernel
theorem dX8_done_143 : decode cX8_done 143 = .ok (.iload_n 2, 1) := by decide +kernel
theorem dX8_done_144 : decode cX8_done 144 = .ok (.iconst 5, 1) := by decide +kernel
theorem dX8_done_145 : decode cX8_done 145 = .ok (.iadd, 1) := by decide +kernel
theorem dX8_done_146 : decode cX8_done 146 = .ok (.iaload, 1) := by decide +kernel
theorem dX8_done_147 : decode cX8_done 147 = .ok (.invokevirtual 155, 3) := by decide +kernel
theorem dX8_done_150 : decode cX8_done 150 = .ok (.ireturn, 1) := by decide +kernel
theorem dX8_done_151 : decode cX8_done 151 = .ok (.aload_n 0, 1) := by decide +kernel
theorem dX8_done_152 : decode cX8_done 152 = .ok (.iload 5, 2) := by decide +kernel
theorem dX8_done_154 : decode cX8_done 154 = .ok (.iload 6, 2) := by decide +kernel
theorem dX8_done_156 : decode cX8_done 156 = .ok (.lload_n 3, 1) := by decide +kernel
theorem dX8_done_157 : decode cX8_done 157 = .ok (.invokevirtual 158, 3) := by decide +kernel
theorem dX8_done_160 : decode cX8_done 160 = .ok (.ireturn, 1) := by decide +kernel
theorem dX8_done_161 : decode cX8_done 161 = .ok (.aload_n 0, 1) := by decide +kernel
theorem dX8_done_162 : decode cX8_done 162 = .ok (.iload 5, 2) := by decide +kernel
theorem dX8_done_164 : decode cX8_done 164 = .ok (.iload 6, 2) := by decide +kernel
theorem dX8_done_166 : decode cX8_done 166 = .ok (.invokevirtual 162, 3) := by decide +kernel
theorem dX8_done_169 : decode cX8_done 169 = .ok (.ireturn, 1) := by decide +kernel
theorem dX8_done_170 : decode cX8_done 170 = .ok (.aload_n 0, 1) := by decide +kernel
theorem dX8_done_171 : decode cX8_done 171 = .ok (.iload 5, 2) := by decide +kernel
theorem dX8_done_173 : decode cX8_done 173 = .ok (.iload 6, 2) := by decide +kernel
theorem dX8_done_175 : decode cX8_done 175 = .ok (.invokevirtual 165, 3) := by decide +kernel
theorem dX8_done_178 : decode cX8_done 178 = .ok (.ireturn, 1) := by decide +kernel
theorem dX8_done_179 : decode cX8_done 179 = .ok (.aload_n 0, 1) := by decide +kernel
theorem dX8_done_180 : decode cX8_done 180 = .ok (.iload 5, 2) := by decide +kernel
theorem dX8_done_182 : decode cX8_done 182 = .ok (.iload 6, 2) := by decide +kernel
theorem dX8_done_184 : decode cX8_done 184 = .ok (.invokevirtual 168, 3) := by decide +kernel
theorem dX8_done_187 : decode cX8_done 187 = .ok (.ireturn, 1) := by decide +kernel
theorem dX8_done_188 : decode cX8_done 188 = .ok (.aload_n 0, 1) := by decide +kernel
theorem dX8_done_189 : decode cX8_done 189 = .ok (.iload 5, 2) := by decide +kernel
theorem dX8_done_191 : decode cX8_done 191 = .ok (.iload 6, 2) := by decide +kernel
theorem dX8_done_193 : decode cX8_done 193 = .ok (.invokevirtual 171, 3) := by decide +kernel
theorem dX8_done_196 : decode cX8_done 196 = .ok (.ireturn, 1) := by decide +kernel
theorem dX8_done_197 : decode cX8_done 197 = .ok (.aload_n 0, 1) := by decide +kernel
theorem dX8_done_198 : decode cX8_done 198 = .ok (.iload 5, 2) := by decide +kernel
theorem dX8_done_200 : decode cX8_done 200 = .ok (.invokevirtual 174, 3) := by decide +kernel
theorem dX8_done_203 : decode cX8_done 203 = .ok (.ireturn, 1) := by decide +kernel
theorem dX8_done_204 : decode cX8_done 204 = .ok (.aload_n 0, 1) := by decide +kernel
theorem dX8_done_205 : decode cX8_done 205 = .ok (.iload 5, 2) := by decide +kernel
theorem dX8_done_207 : decode cX8_done 207 = .ok (.iload 6, 2) := by decide +kernel
theorem dX8_done_209 : decode cX8_done 209 = .ok (.invokevirtual 177, 3) := by decide +kernel
theorem dX8_done_212 : decode cX8_done 212 = .ok (.ireturn, 1) := by decide +kernel
theorem dX8_carried_0 : decode cX8_carried 0 = .ok (.iconst 0, 1) := by decide +kernel
theorem dX8_carried_1 : decode cX8_carried 1 = .ok (.istore 4, 2) := by decide +kernel
theorem dX8_carried_3 : decode cX8_carried 3 = .ok (.iconst 0, 1) := by decide +kernel
theorem dX8_carried_4 : decode cX8_carried 4 = .ok (.istore 5, 2) := by decide +kernel
theorem dX8_carried_6 : decode cX8_carried 6 = .ok (.iload 5, 2) := by decide +kernel
theorem dX8_carried_8 : decode cX8_carried 8 = .ok (.iload_n 1, 1) := by decide +kernel
theorem dX8_carried_9 : decode cX8_carried 9 = .ok (.if_icmp .ge 112, 3) := by decide +kernel
theorem dX8_carried_12 : decode cX8_carried 12 = .ok (.iconst 0, 1) := by decide +kernel
theorem dX8_carried_13 : decode cX8_carried 13 = .ok (.istore 6, 2) := by decide +kernel
theorem dX8_carried_15 : decode cX8_carried 15 = .ok (.iconst 0, 1) := by decide +kernel
theorem dX8_carried_16 : decode cX8_carried 16 = .ok (.istore 7, 2) := by decide +kernel
theorem dX8_carried_18 : decode cX8_carried 18 = .ok (.iload 7, 2) := by decide +kernel
theorem dX8_carried_20 : decode cX8_carried 20 = .ok (.iload_n 3, 1) := by decide +kernel
theorem dX8_carried_21 : decode cX8_carried 21 = .ok (.if_icmp .ge 94, 3) := by decide +kernel
theorem dX8_carried_24 : decode cX8_carried 24 = .ok (.iload 6, 2) := by decide +kernel
theorem dX8_carried_26 : decode cX8_carried 26 = .ok (.ifCond .eq 9, 3) := by decide +kernel
theorem dX8_carried_29 : decode cX8_carried 29 = .ok (.iconst 0, 1) := by decide +kernel
theorem dX8_carried_30 : decode cX8_carried 30 = .ok (.istore 6, 2) := by decide +kernel
theorem dX8_carried_32 : decode cX8_carried 32 = .ok (.goto 77, 3) := by decide +kernel
theorem dX8_carried_35 : decode cX8_carried 35 = .ok (.aload_n 0, 1) := by decide +kernel
theorem dX8_carried_36 : decode cX8_carried 36 = .ok (.aload_n 0, 1) := by decide +kernel
theorem dX8_carried_37 : decode cX8_carried 37 = .ok (.getfield 35, 3) := by decide +kernel
theorem dX8_carried_40 : decode cX8_carried 40 = .ok (.bipush 6, 2) := by decide +kernel
theorem dX8_carried_42 : decode cX8_carried 42 = .ok (.iload_n 2, 1) := by decide +kernel
theorem dX8_carried_43 : decode cX8_carried 43 = .ok (.iload 7, 2) := by decide +kernel
theorem dX8_carried_45 : decode cX8_carried 45 = .ok (.iadd, 1) := by decide +kernel
theorem dX8_carried_46 : decode cX8_carried 46 = .ok (.imul, 1) := by decide +kernel
theorem dX8_carried_47 : decode cX8_carried 47 = .ok (.aload_n 0, 1) := by decide +kernel
theorem dX8_carried_48 : decode cX8_carried 48 = .ok (.getfield 38, 3) := by decide +kernel
theorem dX8_carried_51 : decode cX8_carried 51 = .ok (.iload_n 2, 1) := by decide +kernel
theorem dX8_carried_52 : decode cX8_carried 52 = .ok (.iload 7, 2) := by decide +kernel
theorem dX8_carried_54 : decode cX8_carried 54 = .ok (.iadd, 1) := by decide +kernel
theorem dX8_carried_55 : decode cX8_carried 55 = .ok (.laload, 1) := by decide +kernel
theorem dX8_carried_56 : decode cX8_carried 56 = .ok (.invokevirtual 180, 3) := by decide +kernel
theorem dX8_carried_59 : decode cX8_carried 59 = .ok (.istore 8, 2) := by decide +kernel
theorem dX8_carried_61 : decode cX8_carried 61 = .ok (.aload_n 0, 1) := by decide +kernel
theorem dX8_carried_62 : decode cX8_carried 62 = .ok (.getfield 71, 3) := by decide +kernel
theorem dX8_carried_65 : decode cX8_carried 65 = .ok (.ifCond .le 8, 3) := by decide +kernel
theorem dX8_carried_68 : decode cX8_carried 68 = .ok (.iload 7, 2) := by decide +kernel
theorem dX8_carried_70 : decode cX8_carried 70 = .ok (.iconst 1, 1) := by decide +kernel
theorem dX8_carried_71 : decode cX8_carried 71 = .ok (.iadd, 1) := by decide +kernel
theorem dX8_carried_72 : decode cX8_carried 72 = .ok (.ireturn, 1) := by decide +kernel
theorem dX8_carried_73 : decode cX8_carried 73 = .ok (.aload_n 0, 1) := by decide +kernel
theorem dX8_carried_74 : decode cX8_carried 74 = .ok (.getfield 35, 3) := by decide +kernel
theorem dX8_carried_77 : decode cX8_carried 77 = .ok (.bipush 6, 2) := by decide +kernel
theorem dX8_carried_79 : decode cX8_carried 79 = .ok (.iload_n 2, 1) := by decide +kernel
theorem dX8_carried_80 : decode cX8_carried 80 = .ok (.iload 7, 2) := by decide +kernel
theorem dX8_carried_82 : decode cX8_carried 82 = .ok (.iadd, 1) := by decide +kernel
theorem dX8_carried_83 : decode cX8_carried 83 = .ok (.imul, 1) := by decide +kernel
theorem dX8_carried_84 : decode cX8_carried 84 = .ok (.iaload, 1) := by decide +kernel
theorem dX8_carried_85 : decode cX8_carried 85 = .ok (.bipush 12, 2) := by decide +kernel
theorem dX8_carried_87 : decode cX8_carried 87 = .ok (.if_icmp .ne 12, 3) := by decide +kernel
theorem dX8_carried_90 : decode cX8_carried 90 = .ok (.iload 8, 2) := by decide +kernel
theorem dX8_carried_92 : decode cX8_carried 92 = .ok (.ifCond .ne 7, 3) := by decide +kernel
theorem dX8_carried_95 : decode cX8_carried 95 = .ok (.iconst 1, 1) := by decide +kernel
theorem dX8_carried_96 : decode cX8_carried 96 = .ok (.goto 4, 3) := by decide +kernel
theorem dX8_carried_99 : decode cX8_carried 99 = .ok (.iconst 0, 1) := by decide +kernel
theorem dX8_carried_100 : decode cX8_carried 100 = .ok (.istore 6, 2) := by decide +kernel
theorem dX8_carried_102 : decode cX8_carried 102 = .ok (.iload 4, 2) := by decide +kernel
theorem dX8_carried_104 : decode cX8_carried 104 = .ok (.iload 8, 2) := by decide +kernel
theorem dX8_carried_106 : decode cX8_carried 106 = .ok (.iadd, 1) := by decide +kernel
theorem dX8_carried_107 : decode cX8_carried 107 = .ok (.istore 4, 2) := by decide +kernel
theorem dX8_carried_109 : decode cX8_carried 109 = .ok (.iinc 7 1, 3) := by decide +kernel
theorem dX8_carried_112 : decode cX8_carried 112 = .ok (.goto (-94), 3) := by decide +kernel
theorem dX8_carried_115 : decode cX8_carried 115 = .ok (.iinc 5 1, 3) := by decide +kernel
theorem dX8_carried_118 : decode cX8_carried 118 = .ok (.goto (-112), 3) := by decide +kernel
theorem dX8_carried_121 : decode cX8_carried 121 = .ok (.iload 4, 2) := by decide +kernel
theorem dX8_carried_123 : decode cX8_carried 123 = .ok (.ireturn, 1) := by decide +kernel
theorem dX8_copyInts_0 : decode cX8_copyInts 0 = .ok (.iconst 0, 1) := by decide +kernel
theorem dX8_copyInts_1 : decode cX8_copyInts 1 = .ok (.istore 5, 2) := by decide +kernel
theorem dX8_copyInts_3 : decode cX8_copyInts 3 = .ok (.iload 5, 2) := by decide +kernel
theorem dX8_copyInts_5 : decode cX8_copyInts 5 = .ok (.iload 4, 2) := by decide +kernel
theorem dX8_copyInts_7 : decode cX8_copyInts 7 = .ok (.if_icmp .ge 21, 3) := by decide +kernel
theorem dX8_copyInts_10 : decode cX8_copyInts 10 = .ok (.aload_n 2, 1) := by decide +kernel
theorem dX8_copyInts_11 : decode cX8_copyInts 11 = .ok (.iload_n 3, 1) := by decide +kernel
theorem dX8_copyInts_12 : decode cX8_copyInts 12 = .ok (.iload 5, 2) := by decide +kernel
theorem dX8_copyInts_14 : decode cX8_copyInts 14 = .ok (.iadd, 1) := by decide +kernel
theorem dX8_copyInts_15 : decode cX8_copyInts 15 = .ok (.aload_n 0, 1) := by decide +kernel
theorem dX8_copyInts_16 : decode cX8_copyInts 16 = .ok (.iload_n 1, 1) := by decide +kernel
theorem dX8_copyInts_17 : decode cX8_copyInts 17 = .ok (.iload 5, 2) := by decide +kernel
theorem dX8_copyInts_19 : decode cX8_copyInts 19 = .ok (.iadd, 1) := by decide +kernel
theorem dX8_copyInts_20 : decode cX8_copyInts 20 = .ok (.iaload, 1) := by decide +kernel
theorem dX8_copyInts_21 : decode cX8_copyInts 21 = .ok (.iastore, 1) := by decide +kernel
theorem dX8_copyInts_22 : decode cX8_copyInts 22 = .ok (.iinc 5 1, 3) := by decide +kernel
theorem dX8_copyInts_25 : decode cX8_copyInts 25 = .ok (.goto (-22), 3) := by decide +kernel
theorem dX8_copyInts_28 : decode cX8_copyInts 28 = .ok (.return_, 1) := by decide +kernel
theorem dX8_keepAct_0 : decode cX8_keepAct 0 = .ok (.aload_n 0, 1) := by decide +kernel
theorem dX8_keepAct_1 : decode cX8_keepAct 1 = .ok (.getfield 44, 3) := by decide +kernel
theorem dX8_keepAct_4 : decode cX8_keepAct 4 = .ok (.iconst 0, 1) := by decide +kernel
theorem dX8_keepAct_5 : decode cX8_keepAct 5 = .ok (.aload_n 0, 1) := by decide +kernel
theorem dX8_keepAct_6 : decode cX8_keepAct 6 = .ok (.getfield 29, 3) := by decide +kernel
theorem dX8_keepAct_9 : decode cX8_keepAct 9 = .ok (.bipush 6, 2) := by decide +kernel
theorem dX8_keepAct_11 : decode cX8_keepAct 11 = .ok (.aload_n 0, 1) := by decide +kernel
theorem dX8_keepAct_12 : decode cX8_keepAct 12 = .ok (.getfield 184, 3) := by decide +kernel
theorem dX8_keepAct_15 : decode cX8_keepAct 15 = .ok (.imul, 1) := by decide +kernel
theorem dX8_keepAct_16 : decode cX8_keepAct 16 = .ok (.bipush 6, 2) := by decide +kernel
theorem dX8_keepAct_18 : decode cX8_keepAct 18 = .ok (.invokestatic 187, 3) := by decide +kernel
theorem dX8_keepAct_21 : decode cX8_keepAct 21 = .ok (.aload_n 0, 1) := by decide +kernel
theorem dX8_keepAct_22 : decode cX8_keepAct 22 = .ok (.getfield 32, 3) := by decide +kernel
theorem dX8_keepAct_25 : decode cX8_keepAct 25 = .ok (.aload_n 0, 1) := by decide +kernel
theorem dX8_keepAct_26 : decode cX8_keepAct 26 = .ok (.getfield 184, 3) := by decide +kernel
theorem dX8_keepAct_29 : decode cX8_keepAct 29 = .ok (.lload_n 1, 1) := by decide +kernel
theorem dX8_keepAct_30 : decode cX8_keepAct 30 = .ok (.lastore, 1) := by decide +kernel
theorem dX8_keepAct_31 : decode cX8_keepAct 31 = .ok (.aload_n 0, 1) := by decide +kernel
theorem dX8_keepAct_32 : decode cX8_keepAct 32 = .ok (.dup, 1) := by decide +kernel
theorem dX8_keepAct_33 : decode cX8_keepAct 33 = .ok (.getfield 184, 3) := by decide +kernel
theorem dX8_keepAct_36 : decode cX8_keepAct 36 = .ok (.iconst 1, 1) := by decide +kernel
theorem dX8_keepAct_37 : decode cX8_keepAct 37 = .ok (.iadd, 1) := by decide +kernel
theorem dX8_keepAct_38 : decode cX8_keepAct 38 = .ok (.putfield 184, 3) := by decide +kernel
theorem dX8_keepAct_41 : decode cX8_keepAct 41 = .ok (.return_, 1) := by decide +kernel
theorem dX8_called_0 : decode cX8_called 0 = .ok (.aload_n 0, 1) := by decide +kernel
theorem dX8_called_1 : decode cX8_called 1 = .ok (.getfield 44, 3) := by decide +kernel
theorem dX8_called_4 : decode cX8_called 4 = .ok (.iconst 0, 1) := by decide +kernel
theorem dX8_called_5 : decode cX8_called 5 = .ok (.iload_n 1, 1) := by decide +kernel
theorem dX8_called_6 : decode cX8_called 6 = .ok (.iastore, 1) := by decide +kernel
theorem dX8_called_7 : decode cX8_called 7 = .ok (.aload_n 0, 1) := by decide +kernel
theorem dX8_called_8 : decode cX8_called 8 = .ok (.getfield 44, 3) := by decide +kernel
theorem dX8_called_11 : decode cX8_called 11 = .ok (.iconst 1, 1) := by decide +kernel
theorem dX8_called_12 : decode cX8_called 12 = .ok (.iload_n 2, 1) := by decide +kernel
theorem dX8_called_13 : decode cX8_called 13 = .ok (.iastore, 1) := by decide +kernel
theorem dX8_called_14 : decode cX8_called 14 = .ok (.aload_n 0, 1) := by decide +kernel
theorem dX8_called_15 : decode cX8_called 15 = .ok (.getfield 44, 3) := by decide +kernel
theorem dX8_called_18 : decode cX8_called 18 = .ok (.iconst 2, 1) := by decide +kernel
theorem dX8_called_19 : decode cX8_called 19 = .ok (.iload_n 3, 1) := by decide +kernel
theorem dX8_called_20 : decode cX8_called 20 = .ok (.iastore, 1) := by decide +kernel
theorem dX8_called_21 : decode cX8_called 21 = .ok (.aload_n 0, 1) := by decide +kernel
theorem dX8_called_22 : decode cX8_called 22 = .ok (.getfield 44, 3) := by decide +kernel
theorem dX8_called_25 : decode cX8_called 25 = .ok (.iconst 3, 1) := by decide +kernel
theorem dX8_called_26 : decode cX8_called 26 = .ok (.iload 4, 2) := by decide +kernel
theorem dX8_called_28 : decode cX8_called 28 = .ok (.iastore, 1) := by decide +kernel
theorem dX8_called_29 : decode cX8_called 29 = .ok (.aload_n 0, 1) := by decide +kernel
theorem dX8_called_30 : decode cX8_called 30 = .ok (.getfield 44, 3) := by decide +kernel
theorem dX8_called_33 : decode cX8_called 33 = .ok (.iconst 4, 1) := by decide +kernel
theorem dX8_called_34 : decode cX8_called 34 = .ok (.iload 5, 2) := by decide +kernel
theorem dX8_called_36 : decode cX8_called 36 = .ok (.iastore, 1) := by decide +kernel
theorem dX8_called_37 : decode cX8_called 37 = .ok (.aload_n 0, 1) := by decide +kernel
theorem dX8_called_38 : decode cX8_called 38 = .ok (.getfield 44, 3) := by decide +kernel
theorem dX8_called_41 : decode cX8_called 41 = .ok (.iconst 5, 1) := by decide +kernel
theorem dX8_called_42 : decode cX8_called 42 = .ok (.iload 6, 2) := by decide +kernel
theorem dX8_called_44 : decode cX8_called 44 = .ok (.iastore, 1) := by decide +kernel
theorem dX8_called_45 : decode cX8_called 45 = .ok (.aload_n 0, 1) := by decide +kernel
theorem dX8_called_46 : decode cX8_called 46 = .ok (.getfield 191, 3) := by decide +kernel
theorem dX8_called_49 : decode cX8_called 49 = .ok (.ifCond .eq 10, 3) := by decide +kernel
theorem dX8_called_52 : decode cX8_called 52 = .ok (.aload_n 0, 1) := by decide +kernel
theorem dX8_called_53 : decode cX8_called 53 = .ok (.lload 7, 2) := by decide +kernel
theorem dX8_called_55 : decode cX8_called 55 = .ok (.invokevirtual 195, 3) := by decide +kernel
theorem dX8_called_58 : decode cX8_called 58 = .ok (.ireturn, 1) := by decide +kernel
theorem dX8_called_59 : decode cX8_called 59 = .ok (.aload_n 0, 1) := by decide +kernel
theorem dX8_called_60 : decode cX8_called 60 = .ok (.aload_n 0, 1) := by decide +kernel
theorem dX8_called_61 : decode cX8_called 61 = .ok (.getfield 44, 3) := by decide +kernel
theorem dX8_called_64 : decode cX8_called 64 = .ok (.iconst 0, 1) := by decide +kernel
theorem dX8_called_65 : decode cX8_called 65 = .ok (.lload 7, 2) := by decide +kernel
theorem dX8_called_67 : decode cX8_called 67 = .ok (.invokevirtual 180, 3) := by decide +kernel
theorem dX8_called_70 : decode cX8_called 70 = .ok (.istore 9, 2) := by decide +kernel
theorem dX8_called_72 : decode cX8_called 72 = .ok (.aload_n 0, 1) := by decide +kernel
theorem dX8_called_73 : decode cX8_called 73 = .ok (.getfield 71, 3) := by decide +kernel
theorem dX8_called_76 : decode cX8_called 76 = .ok (.ifCond .eq 16, 3) := by decide +kernel
theorem dX8_called_79 : decode cX8_called 79 = .ok (.aload_n 0, 1) := by decide +kernel
theorem dX8_called_80 : decode cX8_called 80 = .ok (.getfield 71, 3) := by decide +kernel
theorem dX8_called_83 : decode cX8_called 83 = .ok (.iconst 5, 1) := by decide +kernel
theorem dX8_called_84 : decode cX8_called 84 = .ok (.if_icmp .ne 14, 3) := by decide +kernel
theorem dX8_called_87 : decode cX8_called 87 = .ok (.iload_n 1, 1) := by decide +kernel
theorem dX8_called_88 : decode cX8_called 88 = .ok (.iconst 5, 1) := by decide +kernel
theorem dX8_called_89 : decode cX8_called 89 = .ok (.if_icmp .ne 9, 3) := by decide +kernel
theorem dX8_called_92 : decode cX8_called 92 = .ok (.aload_n 0, 1) := by decide +kernel
theorem dX8_called_93 : decode cX8_called 93 = .ok (.lload 7, 2) := by decide +kernel
theorem dX8_called_95 : decode cX8_called 95 = .ok (.invokevirtual 199, 3) := by decide +kernel
theorem dX8_called_98 : decode cX8_called 98 = .ok (.iload 9, 2) := by decide +kernel
theorem dX8_called_100 : decode cX8_called 100 = .ok (.ireturn, 1) := by decide +kernel
theorem dX8_lineMore_0 : decode cX8_lineMore 0 = .ok (.aload_n 0, 1) := by decide +kernel
theorem dX8_lineMore_1 : decode cX8_lineMore 1 = .ok (.getfield 203, 3) := by decide +kernel
theorem dX8_lineMore_4 : decode cX8_lineMore 4 = .ok (.bipush 16, 2) := by decide +kernel
theorem dX8_lineMore_6 : decode cX8_lineMore 6 = .ok (.if_icmp .ne 10, 3) := by decide +kernel
theorem dX8_lineMore_9 : decode cX8_lineMore 9 = .ok (.aload_n 0, 1) := by decide +kernel
theorem dX8_lineMore_10 : decode cX8_lineMore 10 = .ok (.bipush 6, 2) := by decide +kernel
theorem dX8_lineMore_12 : decode cX8_lineMore 12 = .ok (.invokevirtual 101, 3) := by decide +kernel
theorem dX8_lineMore_15 : decode cX8_lineMore 15 = .ok (.ireturn, 1) := by decide +kernel
theorem dX8_lineMore_16 : decode cX8_lineMore 16 = .ok (.aload_n 0, 1) := by decide +kernel
theorem dX8_lineMore_17 : decode cX8_lineMore 17 = .ok (.getfield 44, 3) := by decide +kernel
theorem dX8_lineMore_20 : decode cX8_lineMore 20 = .ok (.iconst 0, 1) := by decide +kernel
theorem dX8_lineMore_21 : decode cX8_lineMore 21 = .ok (.aload_n 0, 1) := by decide +kernel
theorem dX8_lineMore_22 : decode cX8_lineMore 22 = .ok (.getfield 35, 3) := by decide +kernel
theorem dX8_lineMore_25 : decode cX8_lineMore 25 = .ok (.bipush 6, 2) := by decide +kernel
theorem dX8_lineMore_27 : decode cX8_lineMore 27 = .ok (.aload_n 0, 1) := by decide +kernel
theorem dX8_lineMore_28 : decode cX8_lineMore 28 = .ok (.getfield 206, 3) := by decide +kernel
theorem dX8_lineMore_31 : decode cX8_lineMore 31 = .ok (.imul, 1) := by decide +kernel
theorem dX8_lineMore_32 : decode cX8_lineMore 32 = .ok (.bipush 6, 2) := by decide +kernel
theorem dX8_lineMore_34 : decode cX8_lineMore 34 = .ok (.invokestatic 187, 3) := by decide +kernel
theorem dX8_lineMore_37 : decode cX8_lineMore 37 = .ok (.aload_n 0, 1) := by decide +kernel
theorem dX8_lineMore_38 : decode cX8_lineMore 38 = .ok (.getfield 38, 3) := by decide +kernel
theorem dX8_lineMore_41 : decode cX8_lineMore 41 = .ok (.aload_n 0, 1) := by decide +kernel
theorem dX8_lineMore_42 : decode cX8_lineMore 42 = .ok (.getfield 206, 3) := by decide +kernel
theorem dX8_lineMore_45 : decode cX8_lineMore 45 = .ok (.lload_n 1, 1) := by decide +kernel
theorem dX8_lineMore_46 : decode cX8_lineMore 46 = .ok (.lastore, 1) := by decide +kernel
theorem dX8_lineMore_47 : decode cX8_lineMore 47 = .ok (.aload_n 0, 1) := by decide +kernel
theorem dX8_lineMore_48 : decode cX8_lineMore 48 = .ok (.dup, 1) := by decide +kernel
theorem dX8_lineMore_49 : decode cX8_lineMore 49 = .ok (.getfield 206, 3) := by decide +kernel
theorem dX8_lineMore_52 : decode cX8_lineMore 52 = .ok (.iconst 1, 1) := by decide +kernel
theorem dX8_lineMore_53 : decode cX8_lineMore 53 = .ok (.iadd, 1) := by decide +kernel
theorem dX8_lineMore_54 : decode cX8_lineMore 54 = .ok (.putfield 206, 3) := by decide +kernel
theorem dX8_lineMore_57 : decode cX8_lineMore 57 = .ok (.aload_n 0, 1) := by decide +kernel
theorem dX8_lineMore_58 : decode cX8_lineMore 58 = .ok (.dup, 1) := by decide +kernel
theorem dX8_lineMore_59 : decode cX8_lineMore 59 = .ok (.getfield 203, 3) := by decide +kernel
theorem dX8_lineMore_62 : decode cX8_lineMore 62 = .ok (.iconst 1, 1) := by decide +kernel
theorem dX8_lineMore_63 : decode cX8_lineMore 63 = .ok (.iadd, 1) := by decide +kernel
theorem dX8_lineMore_64 : decode cX8_lineMore 64 = .ok (.putfield 203, 3) := by decide +kernel
theorem dX8_lineMore_67 : decode cX8_lineMore 67 = .ok (.aload_n 0, 1) := by decide +kernel
theorem dX8_lineMore_68 : decode cX8_lineMore 68 = .ok (.iconst 0, 1) := by decide +kernel
theorem dX8_lineMore_69 : decode cX8_lineMore 69 = .ok (.putfield 71, 3) := by decide +kernel
theorem dX8_lineMore_72 : decode cX8_lineMore 72 = .ok (.aload_n 0, 1) := by decide +kernel
theorem dX8_lineMore_73 : decode cX8_lineMore 73 = .ok (.getfield 203, 3) := by decide +kernel
theorem dX8_lineMore_76 : decode cX8_lineMore 76 = .ok (.ireturn, 1) := by decide +kernel
theorem dX8_make_0 : decode cX8_make 0 = .ok (.aload_n 0, 1) := by decide +kernel
theorem dX8_make_1 : decode cX8_make 1 = .ok (.iconst 1, 1) := by decide +kernel
theorem dX8_make_2 : decode cX8_make 2 = .ok (.iload_n 1, 1) := by decide +kernel
theorem dX8_make_3 : decode cX8_make 3 = .ok (.iload_n 2, 1) := by decide +kernel
theorem dX8_make_4 : decode cX8_make 4 = .ok (.iload_n 3, 1) := by decide +kernel
theorem dX8_make_5 : decode cX8_make 5 = .ok (.iconst 0, 1) := by decide +kernel
theorem dX8_make_6 : decode cX8_make 6 = .ok (.iconst 0, 1) := by decide +kernel
theorem dX8_make_7 : decode cX8_make 7 = .ok (.lconst 0, 1) := by decide +kernel
theorem dX8_make_8 : decode cX8_make 8 = .ok (.invokevirtual 209, 3) := by decide +kernel
theorem dX8_make_11 : decode cX8_make 11 = .ok (.ireturn, 1) := by decide +kernel
theorem dX8_lay_0 : decode cX8_lay 0 = .ok (.aload_n 0, 1) := by decide +kernel
theorem dX8_lay_1 : decode cX8_lay 1 = .ok (.iconst 2, 1) := by decide +kernel
theorem dX8_lay_2 : decode cX8_lay 2 = .ok (.iload_n 1, 1) := by decide +kernel
theorem dX8_lay_3 : decode cX8_lay 3 = .ok (.iload_n 2, 1) := by decide +kernel
theorem dX8_lay_4 : decode cX8_lay 4 = .ok (.iconst 0, 1) := by decide +kernel
theorem dX8_lay_5 : decode cX8_lay 5 = .ok (.iconst 0, 1) := by decide +kernel
theorem dX8_lay_6 : decode cX8_lay 6 = .ok (.iconst 0, 1) := by decide +kernel
theorem dX8_lay_7 : decode cX8_lay 7 = .ok (.lconst 0, 1) := by decide +kernel
theorem dX8_lay_8 : decode cX8_lay 8 = .ok (.invokevirtual 209, 3) := by decide +kernel
theorem dX8_lay_11 : decode cX8_lay 11 = .ok (.ireturn, 1) := by decide +kernel
theorem dX8_plug_0 : decode cX8_plug 0 = .ok (.aload_n 0, 1) := by decide +kernel
theorem dX8_plug_1 : decode cX8_plug 1 = .ok (.iconst 3, 1) := by decide +kernel
theorem dX8_plug_2 : decode cX8_plug 2 = .ok (.iload_n 1, 1) := by decide +kernel
theorem dX8_plug_3 : decode cX8_plug 3 = .ok (.iload_n 2, 1) := by decide +kernel
theorem dX8_plug_4 : decode cX8_plug 4 = .ok (.iload_n 3, 1) := by decide +kernel
theorem dX8_plug_5 : decode cX8_plug 5 = .ok (.iconst 0, 1) := by decide +kernel
theorem dX8_plug_6 : decode cX8_plug 6 = .ok (.iconst 0, 1) := by decide +kernel
theorem dX8_plug_7 : decode cX8_plug 7 = .ok (.lconst 0, 1) := by decide +kernel
theorem dX8_plug_8 : decode cX8_plug 8 = .ok (.invokevirtual 209, 3) := by decide +kernel
theorem dX8_plug_11 : decode cX8_plug 11 = .ok (.ireturn, 1) := by decide +kernel
theorem dX8_pull_0 : decode cX8_pull 0 = .ok (.aload_n 0, 1) := by decide +kernel
theorem dX8_pull_1 : decode cX8_pull 1 = .ok (.iconst 4, 1) := by decide +kernel
theorem dX8_pull_2 : decode cX8_pull 2 = .ok (.iload_n 1, 1) := by decide +kernel
theorem dX8_pull_3 : decode cX8_pull 3 = .ok (.iload_n 2, 1) := by decide +kernel
theorem dX8_pull_4 : decode cX8_pull 4 = .ok (.iload_n 3, 1) := by decide +kernel
theorem dX8_pull_5 : decode cX8_pull 5 = .ok (.iconst 0, 1) := by decide +kernel
theorem dX8_pull_6 : decode cX8_pull 6 = .ok (.iconst 0, 1) := by decide +kernel
theorem dX8_pull_7 : decode cX8_pull 7 = .ok (.lconst 0, 1) := by decide +kernel
theorem dX8_pull_8 : decode cX8_pull 8 = .ok (.invokevirtual 209, 3) := by decide +kernel
theorem dX8_pull_11 : decode cX8_pull 11 = .ok (.ireturn, 1) := by decide +kernel
theorem dX8_copy_0 : decode cX8_copy 0 = .ok (.aload_n 0, 1) := by decide +kernel
theorem dX8_copy_1 : decode cX8_copy 1 = .ok (.iconst 5, 1) := by decide +kernel
theorem dX8_copy_2 : decode cX8_copy 2 = .ok (.iload_n 1, 1) := by decide +kernel
theorem dX8_copy_3 : decode cX8_copy 3 = .ok (.iload_n 2, 1) := by decide +kernel
theorem dX8_copy_4 : decode cX8_copy 4 = .ok (.iload_n 3, 1) := by decide +kernel
theorem dX8_copy_5 : decode cX8_copy 5 = .ok (.iload 4, 2) := by decide +kernel
theorem dX8_copy_7 : decode cX8_copy 7 = .ok (.iload 5, 2) := by decide +kernel
theorem dX8_copy_9 : decode cX8_copy 9 = .ok (.lconst 0, 1) := by decide +kernel
theorem dX8_copy_10 : decode cX8_copy 10 = .ok (.invokevirtual 209, 3) := by decide +kernel
theorem dX8_copy_13 : decode cX8_copy 13 = .ok (.ireturn, 1) := by decide +kernel
theorem dX8_write_0 : decode cX8_write 0 = .ok (.aload_n 0, 1) := by decide +kernel
theorem dX8_write_1 : decode cX8_write 1 = .ok (.bipush 6, 2) := by decide +kernel
theorem dX8_write_3 : decode cX8_write 3 = .ok (.iload_n 1, 1) := by decide +kernel
theorem dX8_write_4 : decode cX8_write 4 = .ok (.iload_n 2, 1) := by decide +kernel
theorem dX8_write_5 : decode cX8_write 5 = .ok (.iconst 0, 1) := by decide +kernel
theorem dX8_write_6 : decode cX8_write 6 = .ok (.iconst 0, 1) := by decide +kernel
theorem dX8_write_7 : decode cX8_write 7 = .ok (.iconst 0, 1) := by decide +kernel
theorem dX8_write_8 : decode cX8_write 8 = .ok (.lload_n 3, 1) := by decide +kernel
theorem dX8_write_9 : decode cX8_write 9 = .ok (.invokevirtual 209, 3) := by decide +kernel
theorem dX8_write_12 : decode cX8_write 12 = .ok (.ireturn, 1) := by decide +kernel
theorem dX8_knob_0 : decode cX8_knob 0 = .ok (.aload_n 0, 1) := by decide +kernel
theorem dX8_knob_1 : decode cX8_knob 1 = .ok (.bipush 7, 2) := by decide +kernel
theorem dX8_knob_3 : decode cX8_knob 3 = .ok (.iload_n 1, 1) := by decide +kernel
theorem dX8_knob_4 : decode cX8_knob 4 = .ok (.iload_n 2, 1) := by decide +kernel
theorem dX8_knob_5 : decode cX8_knob 5 = .ok (.iconst 0, 1) := by decide +kernel
theorem dX8_knob_6 : decode cX8_knob 6 = .ok (.iconst 0, 1) := by decide +kernel
theorem dX8_knob_7 : decode cX8_knob 7 = .ok (.iconst 0, 1) := by decide +kernel
theorem dX8_knob_8 : decode cX8_knob 8 = .ok (.lconst 0, 1) := by decide +kernel
theorem dX8_knob_9 : decode cX8_knob 9 = .ok (.invokevirtual 209, 3) := by decide +kernel
theorem dX8_knob_12 : decode cX8_knob 12 = .ok (.ireturn, 1) := by decide +kernel
theorem dX8_play_0 : decode cX8_play 0 = .ok (.aload_n 0, 1) := by decide +kernel
theorem dX8_play_1 : decode cX8_play 1 = .ok (.bipush 8, 2) := by decide +kernel
theorem dX8_play_3 : decode cX8_play 3 = .ok (.iload_n 1, 1) := by decide +kernel
theorem dX8_play_4 : decode cX8_play 4 = .ok (.iload_n 2, 1) := by decide +kernel
theorem dX8_play_5 : decode cX8_play 5 = .ok (.iconst 0, 1) := by decide +kernel
theorem dX8_play_6 : decode cX8_play 6 = .ok (.iconst 0, 1) := by decide +kernel
theorem dX8_play_7 : decode cX8_play 7 = .ok (.iconst 0, 1) := by decide +kernel
theorem dX8_play_8 : decode cX8_play 8 = .ok (.lconst 0, 1) := by decide +kernel
theorem dX8_play_9 : decode cX8_play 9 = .ok (.invokevirtual 209, 3) := by decide +kernel
theorem dX8_play_12 : decode cX8_play 12 = .ok (.ireturn, 1) := by decide +kernel
theorem dX8_run_0 : decode cX8_run 0 = .ok (.aload_n 0, 1) := by decide +kernel
theorem dX8_run_1 : decode cX8_run 1 = .ok (.bipush 9, 2) := by decide +kernel
theorem dX8_run_3 : decode cX8_run 3 = .ok (.iload_n 1, 1) := by decide +kernel
theorem dX8_run_4 : decode cX8_run 4 = .ok (.iload_n 2, 1) := by decide +kernel
theorem dX8_run_5 : decode cX8_run 5 = .ok (.iconst 0, 1) := by decide +kernel
theorem dX8_run_6 : decode cX8_run 6 = .ok (.iconst 0, 1) := by decide +kernel
theorem dX8_run_7 : decode cX8_run 7 = .ok (.iconst 0, 1) := by decide +kernel
theorem dX8_run_8 : decode cX8_run 8 = .ok (.lconst 0, 1) := by decide +kernel
theorem dX8_run_9 : decode cX8_run 9 = .ok (.invokevirtual 209, 3) := by decide +kernel
theorem dX8_run_12 : decode cX8_run 12 = .ok (.ireturn, 1) := by decide +kernel
theorem dX8_ticks_0 : decode cX8_ticks 0 = .ok (.aload_n 0, 1) := by decide +kernel
theorem dX8_ticks_1 : decode cX8_ticks 1 = .ok (.bipush 10, 2) := by decide +kernel
theorem dX8_ticks_3 : decode cX8_ticks 3 = .ok (.iload_n 1, 1) := by decide +kernel
theorem dX8_ticks_4 : decode cX8_ticks 4 = .ok (.iload_n 2, 1) := by decide +kernel
theorem dX8_ticks_5 : decode cX8_ticks 5 = .ok (.iconst 0, 1) := by decide +kernel
theorem dX8_ticks_6 : decode cX8_ticks 6 = .ok (.iconst 0, 1) := by decide +kernel
theorem dX8_ticks_7 : decode cX8_ticks 7 = .ok (.iconst 0, 1) := by decide +kernel
theorem dX8_ticks_8 : decode cX8_ticks 8 = .ok (.lconst 0, 1) := by decide +kernel
theorem dX8_ticks_9 : decode cX8_ticks 9 = .ok (.invokevirtual 209, 3) := by decide +kernel
theorem dX8_ticks_12 : decode cX8_ticks 12 = .ok (.ireturn, 1) := by decide +kernel
theorem dX8_rest_0 : decode cX8_rest 0 = .ok (.aload_n 0, 1) := by decide +kernel
theorem dX8_rest_1 : decode cX8_rest 1 = .ok (.bipush 11, 2) := by decide +kernel
theorem dX8_rest_3 : decode cX8_rest 3 = .ok (.iload_n 1, 1) := by decide +kernel
theorem dX8_rest_4 : decode cX8_rest 4 = .ok (.iconst 0, 1) := by decide +kernel
theorem dX8_rest_5 : decode cX8_rest 5 = .ok (.iconst 0, 1) := by decide +kernel
theorem dX8_rest_6 : decode cX8_rest 6 = .ok (.iconst 0, 1) := by decide +kernel
theorem dX8_rest_7 : decode cX8_rest 7 = .ok (.iconst 0, 1) := by decide +kernel
theorem dX8_rest_8 : decode cX8_rest 8 = .ok (.lconst 0, 1) := by decide +kernel
theorem dX8_rest_9 : decode cX8_rest 9 = .ok (.invokevirtual 209, 3) := by decide +kernel
theorem dX8_rest_12 : decode cX8_rest 12 = .ok (.ireturn, 1) := by decide +kernel
theorem dX8_when_0 : decode cX8_when 0 = .ok (.aload_n 0, 1) := by decide +kernel
theorem dX8_when_1 : decode cX8_when 1 = .ok (.getfield 191, 3) := by decide +kernel
theorem dX8_when_4 : decode cX8_when 4 = .ok (.ifCond .ne 10, 3) := by decide +kernel
theorem dX8_when_7 : decode cX8_when 7 = .ok (.aload_n 0, 1) := by decide +kernel
theorem dX8_when_8 : decode cX8_when 8 = .ok (.bipush 7, 2) := by decide +kernel
theorem dX8_when_10 : decode cX8_when 10 = .ok (.invokevirtual 101, 3) := by decide +kernel
theorem dX8_when_13 : decode cX8_when 13 = .ok (.ireturn, 1) := by decide +kernel
theorem dX8_when_14 : decode cX8_when 14 = .ok (.aload_n 0, 1) := by decide +kernel
theorem dX8_when_15 : decode cX8_when 15 = .ok (.bipush 12, 2) := by decide +kernel
theorem dX8_when_17 : decode cX8_when 17 = .ok (.iload_n 1, 1) := by decide +kernel
theorem dX8_when_18 : decode cX8_when 18 = .ok (.iload_n 2, 1) := by decide +kernel
theorem dX8_when_19 : decode cX8_when 19 = .ok (.iconst 0, 1) := by decide +kernel
theorem dX8_when_20 : decode cX8_when 20 = .ok (.iconst 0, 1) := by decide +kernel
theorem dX8_when_21 : decode cX8_when 21 = .ok (.iconst 0, 1) := by decide +kernel
theorem dX8_when_22 : decode cX8_when 22 = .ok (.lconst 0, 1) := by decide +kernel
theorem dX8_when_23 : decode cX8_when 23 = .ok (.invokevirtual 209, 3) := by decide +kernel
theorem dX8_when_26 : decode cX8_when 26 = .ok (.ireturn, 1) := by decide +kernel
theorem dX8_begin_0 : decode cX8_begin 0 = .ok (.aload_n 0, 1) := by decide +kernel
theorem dX8_begin_1 : decode cX8_begin 1 = .ok (.getfield 191, 3) := by decide +kernel
theorem dX8_begin_4 : decode cX8_begin 4 = .ok (.ifCond .eq 10, 3) := by decide +kernel
theorem dX8_begin_7 : decode cX8_begin 7 = .ok (.aload_n 0, 1) := by decide +kernel
theorem dX8_begin_8 : decode cX8_begin 8 = .ok (.bipush 7, 2) := by decide +kernel
theorem dX8_begin_10 : decode cX8_begin 10 = .ok (.invokevirtual 101, 3) := by decide +kernel
theorem dX8_begin_13 : decode cX8_begin 13 = .ok (.ireturn, 1) := by decide +kernel
theorem dX8_begin_14 : decode cX8_begin 14 = .ok (.aload_n 0, 1) := by decide +kernel
theorem dX8_begin_15 : decode cX8_begin 15 = .ok (.iconst 1, 1) := by decide +kernel
theorem dX8_begin_16 : decode cX8_begin 16 = .ok (.putfield 191, 3) := by decide +kernel
theorem dX8_begin_19 : decode cX8_begin 19 = .ok (.aload_n 0, 1) := by decide +kernel
theorem dX8_begin_20 : decode cX8_begin 20 = .ok (.aload_n 0, 1) := by decide +kernel
theorem dX8_begin_21 : decode cX8_begin 21 = .ok (.getfield 206, 3) := by decide +kernel
theorem dX8_begin_24 : decode cX8_begin 24 = .ok (.putfield 213, 3) := by decide +kernel
theorem dX8_begin_27 : decode cX8_begin 27 = .ok (.aload_n 0, 1) := by decide +kernel
theorem dX8_begin_28 : decode cX8_begin 28 = .ok (.iconst 0, 1) := by decide +kernel
theorem dX8_begin_29 : decode cX8_begin 29 = .ok (.putfield 203, 3) := by decide +kernel
theorem dX8_begin_32 : decode cX8_begin 32 = .ok (.aload_n 0, 1) := by decide +kernel
theorem dX8_begin_33 : decode cX8_begin 33 = .ok (.iconst 0, 1) := by decide +kernel
theorem dX8_begin_34 : decode cX8_begin 34 = .ok (.putfield 71, 3) := by decide +kernel
theorem dX8_begin_37 : decode cX8_begin 37 = .ok (.iconst 1, 1) := by decide +kernel
theorem dX8_begin_38 : decode cX8_begin 38 = .ok (.ireturn, 1) := by decide +kernel
theorem dX8_end_0 : decode cX8_end 0 = .ok (.aload_n 0, 1) := by decide +kernel
theorem dX8_end_1 : decode cX8_end 1 = .ok (.getfield 191, 3) := by decide +kernel
theorem dX8_end_4 : decode cX8_end 4 = .ok (.ifCond .ne 10, 3) := by decide +kernel
theorem dX8_end_7 : decode cX8_end 7 = .ok (.aload_n 0, 1) := by decide +kernel
theorem dX8_end_8 : decode cX8_end 8 = .ok (.bipush 7, 2) := by decide +kernel
theorem dX8_end_10 : decode cX8_end 10 = .ok (.invokevirtual 101, 3) := by decide +kernel
theorem dX8_end_13 : decode cX8_end 13 = .ok (.ireturn, 1) := by decide +kernel
theorem dX8_end_14 : decode cX8_end 14 = .ok (.aload_n 0, 1) := by decide +kernel
theorem dX8_end_15 : decode cX8_end 15 = .ok (.iconst 0, 1) := by decide +kernel
theorem dX8_end_16 : decode cX8_end 16 = .ok (.putfield 191, 3) := by decide +kernel
theorem dX8_end_19 : decode cX8_end 19 = .ok (.aload_n 0, 1) := by decide +kernel
theorem dX8_end_20 : decode cX8_end 20 = .ok (.iconst 0, 1) := by decide +kernel
theorem dX8_end_21 : decode cX8_end 21 = .ok (.putfield 71, 3) := by decide +kernel
theorem dX8_end_24 : decode cX8_end 24 = .ok (.aload_n 0, 1) := by decide +kernel
theorem dX8_end_25 : decode cX8_end 25 = .ok (.getfield 203, 3) := by decide +kernel
theorem dX8_end_28 : decode cX8_end 28 = .ok (.ireturn, 1) := by decide +kernel
theorem dX8_keepState_0 : decode cX8_keepState 0 = .ok (.aload_n 0, 1) := by decide +kernel
theorem dX8_keepState_1 : decode cX8_keepState 1 = .ok (.getfield 16, 3) := by decide +kernel
theorem dX8_keepState_4 : decode cX8_keepState 4 = .ok (.iconst 0, 1) := by decide +kernel
theorem dX8_keepState_5 : decode cX8_keepState 5 = .ok (.aload_n 0, 1) := by decide +kernel
theorem dX8_keepState_6 : decode cX8_keepState 6 = .ok (.getfield 23, 3) := by decide +kernel
theorem dX8_keepState_9 : decode cX8_keepState 9 = .ok (.iconst 0, 1) := by decide +kernel
theorem dX8_keepState_10 : decode cX8_keepState 10 = .ok (.sipush 557, 3) := by decide +kernel
theorem dX8_keepState_13 : decode cX8_keepState 13 = .ok (.invokestatic 187, 3) := by decide +kernel
theorem dX8_keepState_16 : decode cX8_keepState 16 = .ok (.iconst 0, 1) := by decide +kernel
theorem dX8_keepState_17 : decode cX8_keepState 17 = .ok (.istore_n 1, 1) := by decide +kernel
theorem dX8_keepState_18 : decode cX8_keepState 18 = .ok (.iload_n 1, 1) := by decide +kernel
theorem dX8_keepState_19 : decode cX8_keepState 19 = .ok (.sipush 720, 3) := by decide +kernel
theorem dX8_keepState_22 : decode cX8_keepState 22 = .ok (.if_icmp .ge 21, 3) := by decide +kernel
theorem dX8_keepState_25 : decode cX8_keepState 25 = .ok (.aload_n 0, 1) := by decide +kernel
theorem dX8_keepState_26 : decode cX8_keepState 26 = .ok (.getfield 26, 3) := by decide +kernel
theorem dX8_keepState_29 : decode cX8_keepState 29 = .ok (.iload_n 1, 1) := by decide +kernel
theorem dX8_keepState_30 : decode cX8_keepState 30 = .ok (.aload_n 0, 1) := by decide +kernel
theorem dX8_keepState_31 : decode cX8_keepState 31 = .ok (.getfield 19, 3) := by decide +kernel
theorem dX8_keepState_34 : decode cX8_keepState 34 = .ok (.iload_n 1, 1) := by decide +kernel
theorem dX8_keepState_35 : decode cX8_keepState 35 = .ok (.laload, 1) := by decide +kernel
theorem dX8_keepState_36 : decode cX8_keepState 36 = .ok (.lastore, 1) := by decide +kernel
theorem dX8_keepState_37 : decode cX8_keepState 37 = .ok (.iinc 1 1, 3) := by decide +kernel
theorem dX8_keepState_40 : decode cX8_keepState 40 = .ok (.goto (-22), 3) := by decide +kernel
theorem dX8_keepState_43 : decode cX8_keepState 43 = .ok (.return_, 1) := by decide +kernel
theorem dX8_putBack_0 : decode cX8_putBack 0 = .ok (.aload_n 0, 1) := by decide +kernel
theorem dX8_putBack_1 : decode cX8_putBack 1 = .ok (.getfield 23, 3) := by decide +kernel
theorem dX8_putBack_4 : decode cX8_putBack 4 = .ok (.iconst 0, 1) := by decide +kernel
theorem dX8_putBack_5 : decode cX8_putBack 5 = .ok (.aload_n 0, 1) := by decide +kernel
theorem dX8_putBack_6 : decode cX8_putBack 6 = .ok (.getfield 16, 3) := by decide +kernel
theorem dX8_putBack_9 : decode cX8_putBack 9 = .ok (.iconst 0, 1) := by decide +kernel
theorem dX8_putBack_10 : decode cX8_putBack 10 = .ok (.sipush 557, 3) := by decide +kernel
theorem dX8_putBack_13 : decode cX8_putBack 13 = .ok (.invokestatic 187, 3) := by decide +kernel
theorem dX8_putBack_16 : decode cX8_putBack 16 = .ok (.iconst 0, 1) := by decide +kernel
theorem dX8_putBack_17 : decode cX8_putBack 17 = .ok (.istore_n 1, 1) := by decide +kernel
theorem dX8_putBack_18 : decode cX8_putBack 18 = .ok (.iload_n 1, 1) := by decide +kernel
theorem dX8_putBack_19 : decode cX8_putBack 19 = .ok (.sipush 720, 3) := by decide +kernel
theorem dX8_putBack_22 : decode cX8_putBack 22 = .ok (.if_icmp .ge 21, 3) := by decide +kernel
theorem dX8_putBack_25 : decode cX8_putBack 25 = .ok (.aload_n 0, 1) := by decide +kernel
theorem dX8_putBack_26 : decode cX8_putBack 26 = .ok (.getfield 19, 3) := by decide +kernel
theorem dX8_putBack_29 : decode cX8_putBack 29 = .ok (.iload_n 1, 1) := by decide +kernel
theorem dX8_putBack_30 : decode cX8_putBack 30 = .ok (.aload_n 0, 1) := by decide +kernel
theorem dX8_putBack_31 : decode cX8_putBack 31 = .ok (.getfield 26, 3) := by decide +kernel
theorem dX8_putBack_34 : decode cX8_putBack 34 = .ok (.iload_n 1, 1) := by decide +kernel
theorem dX8_putBack_35 : decode cX8_putBack 35 = .ok (.laload, 1) := by decide +kernel
theorem dX8_putBack_36 : decode cX8_putBack 36 = .ok (.lastore, 1) := by decide +kernel
theorem dX8_putBack_37 : decode cX8_putBack 37 = .ok (.iinc 1 1, 3) := by decide +kernel
theorem dX8_putBack_40 : decode cX8_putBack 40 = .ok (.goto (-22), 3) := by decide +kernel
theorem dX8_putBack_43 : decode cX8_putBack 43 = .ok (.return_, 1) := by decide +kernel
theorem dX8_carry_0 : decode cX8_carry 0 = .ok (.iload_n 1, 1) := by decide +kernel
theorem dX8_carry_1 : decode cX8_carry 1 = .ok (.iconst 1, 1) := by decide +kernel
theorem dX8_carry_2 : decode cX8_carry 2 = .ok (.if_icmp .lt 8, 3) := by decide +kernel
theorem dX8_carry_5 : decode cX8_carry 5 = .ok (.iload_n 1, 1) := by decide +kernel
theorem dX8_carry_6 : decode cX8_carry 6 = .ok (.iconst 4, 1) := by decide +kernel
theorem dX8_carry_7 : decode cX8_carry 7 = .ok (.if_icmp .le 9, 3) := by decide +kernel
theorem dX8_carry_10 : decode cX8_carry 10 = .ok (.aload_n 0, 1) := by decide +kernel
theorem dX8_carry_11 : decode cX8_carry 11 = .ok (.iconst 1, 1) := by decide +kernel
theorem dX8_carry_12 : decode cX8_carry 12 = .ok (.invokevirtual 101, 3) := by decide +kernel
theorem dX8_carry_15 : decode cX8_carry 15 = .ok (.ireturn, 1) := by decide +kernel
theorem dX8_carry_16 : decode cX8_carry 16 = .ok (.aload_n 0, 1) := by decide +kernel
theorem dX8_carry_17 : decode cX8_carry 17 = .ok (.getfield 191, 3) := by decide +kernel
theorem dX8_carry_20 : decode cX8_carry 20 = .ok (.ifCond .eq 10, 3) := by decide +kernel
theorem dX8_carry_23 : decode cX8_carry 23 = .ok (.aload_n 0, 1) := by decide +kernel
theorem dX8_carry_24 : decode cX8_carry 24 = .ok (.bipush 7, 2) := by decide +kernel
theorem dX8_carry_26 : decode cX8_carry 26 = .ok (.invokevirtual 101, 3) := by decide +kernel
theorem dX8_carry_29 : decode cX8_carry 29 = .ok (.ireturn, 1) := by decide +kernel
theorem dX8_carry_30 : decode cX8_carry 30 = .ok (.aload_n 0, 1) := by decide +kernel
theorem dX8_carry_31 : decode cX8_carry 31 = .ok (.invokevirtual 216, 3) := by decide +kernel
theorem dX8_carry_34 : decode cX8_carry 34 = .ok (.aload_n 0, 1) := by decide +kernel
theorem dX8_carry_35 : decode cX8_carry 35 = .ok (.iconst 0, 1) := by decide +kernel
theorem dX8_carry_36 : decode cX8_carry 36 = .ok (.putfield 71, 3) := by decide +kernel
theorem dX8_carry_39 : decode cX8_carry 39 = .ok (.aload_n 0, 1) := by decide +kernel
theorem dX8_carry_40 : decode cX8_carry 40 = .ok (.iload_n 1, 1) := by decide +kernel
theorem dX8_carry_41 : decode cX8_carry 41 = .ok (.aload_n 0, 1) := by decide +kernel
theorem dX8_carry_42 : decode cX8_carry 42 = .ok (.getfield 213, 3) := by decide +kernel
theorem dX8_carry_45 : decode cX8_carry 45 = .ok (.aload_n 0, 1) := by decide +kernel
theorem dX8_carry_46 : decode cX8_carry 46 = .ok (.getfield 203, 3) := by decide +kernel
theorem dX8_carry_49 : decode cX8_carry 49 = .ok (.invokevirtual 219, 3) := by decide +kernel
theorem dX8_carry_52 : decode cX8_carry 52 = .ok (.istore_n 2, 1) := by decide +kernel
theorem dX8_carry_53 : decode cX8_carry 53 = .ok (.aload_n 0, 1) := by decide +kernel
theorem dX8_carry_54 : decode cX8_carry 54 = .ok (.getfield 71, 3) := by decide +kernel
theorem dX8_carry_57 : decode cX8_carry 57 = .ok (.ifCond .le 9, 3) := by decide +kernel
theorem dX8_carry_60 : decode cX8_carry 60 = .ok (.aload_n 0, 1) := by decide +kernel
theorem dX8_carry_61 : decode cX8_carry 61 = .ok (.invokevirtual 222, 3) := by decide +kernel
theorem dX8_carry_64 : decode cX8_carry 64 = .ok (.iload_n 2, 1) := by decide +kernel
theorem dX8_carry_65 : decode cX8_carry 65 = .ok (.ireturn, 1) := by decide +kernel
theorem dX8_carry_66 : decode cX8_carry 66 = .ok (.aload_n 0, 1) := by decide +kernel
theorem dX8_carry_67 : decode cX8_carry 67 = .ok (.getfield 44, 3) := by decide +kernel
theorem dX8_carry_70 : decode cX8_carry 70 = .ok (.iconst 0, 1) := by decide +kernel
theorem dX8_carry_71 : decode cX8_carry 71 = .ok (.bipush 13, 2) := by decide +kernel
theorem dX8_carry_73 : decode cX8_carry 73 = .ok (.iastore, 1) := by decide +kernel
theorem dX8_carry_74 : decode cX8_carry 74 = .ok (.aload_n 0, 1) := by decide +kernel
theorem dX8_carry_75 : decode cX8_carry 75 = .ok (.getfield 44, 3) := by decide +kernel
theorem dX8_carry_78 : decode cX8_carry 78 = .ok (.iconst 1, 1) := by decide +kernel
theorem dX8_carry_79 : decode cX8_carry 79 = .ok (.iload_n 1, 1) := by decide +kernel
theorem dX8_carry_80 : decode cX8_carry 80 = .ok (.iastore, 1) := by decide +kernel
theorem dX8_carry_81 : decode cX8_carry 81 = .ok (.aload_n 0, 1) := by decide +kernel
theorem dX8_carry_82 : decode cX8_carry 82 = .ok (.getfield 44, 3) := by decide +kernel
theorem dX8_carry_85 : decode cX8_carry 85 = .ok (.iconst 2, 1) := by decide +kernel
theorem dX8_carry_86 : decode cX8_carry 86 = .ok (.aload_n 0, 1) := by decide +kernel
theorem dX8_carry_87 : decode cX8_carry 87 = .ok (.getfield 213, 3) := by decide +kernel
theorem dX8_carry_90 : decode cX8_carry 90 = .ok (.iastore, 1) := by decide +kernel
theorem dX8_carry_91 : decode cX8_carry 91 = .ok (.aload_n 0, 1) := by decide +kernel
theorem dX8_carry_92 : decode cX8_carry 92 = .ok (.getfield 44, 3) := by decide +kernel
theorem dX8_carry_95 : decode cX8_carry 95 = .ok (.iconst 3, 1) := by decide +kernel
theorem dX8_carry_96 : decode cX8_carry 96 = .ok (.aload_n 0, 1) := by decide +kernel
theorem dX8_carry_97 : decode cX8_carry 97 = .ok (.getfield 203, 3) := by decide +kernel
theorem dX8_carry_100 : decode cX8_carry 100 = .ok (.iastore, 1) := by decide +kernel
theorem dX8_carry_101 : decode cX8_carry 101 = .ok (.aload_n 0, 1) := by decide +kernel
theorem dX8_carry_102 : decode cX8_carry 102 = .ok (.lconst 0, 1) := by decide +kernel
theorem dX8_carry_103 : decode cX8_carry 103 = .ok (.invokevirtual 199, 3) := by decide +kernel
theorem dX8_carry_106 : decode cX8_carry 106 = .ok (.iload_n 2, 1) := by decide +kernel
theorem dX8_carry_107 : decode cX8_carry 107 = .ok (.ireturn, 1) := by decide +kernel
theorem dX8_undo_0 : decode cX8_undo 0 = .ok (.aload_n 0, 1) := by decide +kernel
theorem dX8_undo_1 : decode cX8_undo 1 = .ok (.getfield 191, 3) := by decide +kernel
theorem dX8_undo_4 : decode cX8_undo 4 = .ok (.ifCond .ne 10, 3) := by decide +kernel
theorem dX8_undo_7 : decode cX8_undo 7 = .ok (.aload_n 0, 1) := by decide +kernel
theorem dX8_undo_8 : decode cX8_undo 8 = .ok (.getfield 184, 3) := by decide +kernel
theorem dX8_undo_11 : decode cX8_undo 11 = .ok (.ifCond .ne 10, 3) := by decide +kernel
theorem dX8_undo_14 : decode cX8_undo 14 = .ok (.aload_n 0, 1) := by decide +kernel
theorem dX8_undo_15 : decode cX8_undo 15 = .ok (.bipush 7, 2) := by decide +kernel
theorem dX8_undo_17 : decode cX8_undo 17 = .ok (.invokevirtual 101, 3) := by decide +kernel
theorem dX8_undo_20 : decode cX8_undo 20 = .ok (.ireturn, 1) := by decide +kernel
theorem dX8_undo_21 : decode cX8_undo 21 = .ok (.aload_n 0, 1) := by decide +kernel
theorem dX8_undo_22 : decode cX8_undo 22 = .ok (.dup, 1) := by decide +kernel
theorem dX8_undo_23 : decode cX8_undo 23 = .ok (.getfield 184, 3) := by decide +kernel
theorem dX8_undo_26 : decode cX8_undo 26 = .ok (.iconst 1, 1) := by decide +kernel
theorem dX8_undo_27 : decode cX8_undo 27 = .ok (.isub, 1) := by decide +kernel
theorem dX8_undo_28 : decode cX8_undo 28 = .ok (.putfield 184, 3) := by decide +kernel
theorem dX8_undo_31 : decode cX8_undo 31 = .ok (.iconst 0, 1) := by decide +kernel
theorem dX8_undo_32 : decode cX8_undo 32 = .ok (.istore_n 1, 1) := by decide +kernel
theorem dX8_undo_33 : decode cX8_undo 33 = .ok (.iload_n 1, 1) := by decide +kernel
theorem dX8_undo_34 : decode cX8_undo 34 = .ok (.sipush 557, 3) := by decide +kernel
theorem dX8_undo_37 : decode cX8_undo 37 = .ok (.if_icmp .ge 16, 3) := by decide +kernel
theorem dX8_undo_40 : decode cX8_undo 40 = .ok (.aload_n 0, 1) := by decide +kernel
theorem dX8_undo_41 : decode cX8_undo 41 = .ok (.getfield 16, 3) := by decide +kernel
theorem dX8_undo_44 : decode cX8_undo 44 = .ok (.iload_n 1, 1) := by decide +kernel
theorem dX8_undo_45 : decode cX8_undo 45 = .ok (.iconst 0, 1) := by decide +kernel
theorem dX8_undo_46 : decode cX8_undo 46 = .ok (.iastore, 1) := by decide +kernel
theorem dX8_undo_47 : decode cX8_undo 47 = .ok (.iinc 1 1, 3) := by decide +kernel
theorem dX8_undo_50 : decode cX8_undo 50 = .ok (.goto (-17), 3) := by decide +kernel
theorem dX8_undo_53 : decode cX8_undo 53 = .ok (.iconst 0, 1) := by decide +kernel
theorem dX8_undo_54 : decode cX8_undo 54 = .ok (.istore_n 1, 1) := by decide +kernel
theorem dX8_undo_55 : decode cX8_undo 55 = .ok (.iload_n 1, 1) := by decide +kernel
theorem dX8_undo_56 : decode cX8_undo 56 = .ok (.sipush 720, 3) := by decide +kernel
theorem dX8_undo_59 : decode cX8_undo 59 = .ok (.if_icmp .ge 16, 3) := by decide +kernel
theorem dX8_undo_62 : decode cX8_undo 62 = .ok (.aload_n 0, 1) := by decide +kernel
theorem dX8_undo_63 : decode cX8_undo 63 = .ok (.getfield 19, 3) := by decide +kernel
theorem dX8_undo_66 : decode cX8_undo 66 = .ok (.iload_n 1, 1) := by decide +kernel
theorem dX8_undo_67 : decode cX8_undo 67 = .ok (.lconst 0, 1) := by decide +kernel
theorem dX8_undo_68 : decode cX8_undo 68 = .ok (.lastore, 1) := by decide +kernel
theorem dX8_undo_69 : decode cX8_undo 69 = .ok (.iinc 1 1, 3) := by decide +kernel
theorem dX8_undo_72 : decode cX8_undo 72 = .ok (.goto (-17), 3) := by decide +kernel
theorem dX8_undo_75 : decode cX8_undo 75 = .ok (.iconst 0, 1) := by decide +kernel
theorem dX8_undo_76 : decode cX8_undo 76 = .ok (.istore_n 1, 1) := by decide +kernel
theorem dX8_undo_77 : decode cX8_undo 77 = .ok (.iconst 0, 1) := by decide +kernel
theorem dX8_undo_78 : decode cX8_undo 78 = .ok (.istore_n 2, 1) := by decide +kernel
theorem dX8_undo_79 : decode cX8_undo 79 = .ok (.iload_n 2, 1) := by decide +kernel
theorem dX8_undo_80 : decode cX8_undo 80 = .ok (.aload_n 0, 1) := by decide +kernel
theorem dX8_undo_81 : decode cX8_undo 81 = .ok (.getfield 184, 3) := by decide +kernel
theorem dX8_undo_84 : decode cX8_undo 84 = .ok (.if_icmp .ge 72, 3) := by decide +kernel
theorem dX8_undo_87 : decode cX8_undo 87 = .ok (.bipush 6, 2) := by decide +kernel
theorem dX8_undo_89 : decode cX8_undo 89 = .ok (.iload_n 2, 1) := by decide +kernel
theorem dX8_undo_90 : decode cX8_undo 90 = .ok (.imul, 1) := by decide +kernel
theorem dX8_undo_91 : decode cX8_undo 91 = .ok (.istore_n 3, 1) := by decide +kernel
theorem dX8_undo_92 : decode cX8_undo 92 = .ok (.aload_n 0, 1) := by decide +kernel
theorem dX8_undo_93 : decode cX8_undo 93 = .ok (.getfield 29, 3) := by decide +kernel
theorem dX8_undo_96 : decode cX8_undo 96 = .ok (.iload_n 3, 1) := by decide +kernel
theorem dX8_undo_97 : decode cX8_undo 97 = .ok (.iaload, 1) := by decide +kernel
theorem dX8_undo_98 : decode cX8_undo 98 = .ok (.bipush 13, 2) := by decide +kernel
theorem dX8_undo_100 : decode cX8_undo 100 = .ok (.if_icmp .ne 34, 3) := by decide +kernel
theorem dX8_undo_103 : decode cX8_undo 103 = .ok (.aload_n 0, 1) := by decide +kernel
theorem dX8_undo_104 : decode cX8_undo 104 = .ok (.aload_n 0, 1) := by decide +kernel
theorem dX8_undo_105 : decode cX8_undo 105 = .ok (.getfield 29, 3) := by decide +kernel
theorem dX8_undo_108 : decode cX8_undo 108 = .ok (.iload_n 3, 1) := by decide +kernel
theorem dX8_undo_109 : decode cX8_undo 109 = .ok (.iconst 1, 1) := by decide +kernel
theorem dX8_undo_110 : decode cX8_undo 110 = .ok (.iadd, 1) := by decide +kernel
theorem dX8_undo_111 : decode cX8_undo 111 = .ok (.iaload, 1) := by decide +kernel
theorem dX8_undo_112 : decode cX8_undo 112 = .ok (.aload_n 0, 1) := by decide +kernel
theorem dX8_undo_113 : decode cX8_undo 113 = .ok (.getfield 29, 3) := by decide +kernel
theorem dX8_undo_116 : decode cX8_undo 116 = .ok (.iload_n 3, 1) := by decide +kernel
theorem dX8_undo_117 : decode cX8_undo 117 = .ok (.iconst 2, 1) := by decide +kernel
theorem dX8_undo_118 : decode cX8_undo 118 = .ok (.iadd, 1) := by decide +kernel
theorem dX8_undo_119 : decode cX8_undo 119 = .ok (.iaload, 1) := by decide +kernel
theorem dX8_undo_120 : decode cX8_undo 120 = .ok (.aload_n 0, 1) := by decide +kernel
theorem dX8_undo_121 : decode cX8_undo 121 = .ok (.getfield 29, 3) := by decide +kernel
theorem dX8_undo_124 : decode cX8_undo 124 = .ok (.iload_n 3, 1) := by decide +kernel
theorem dX8_undo_125 : decode cX8_undo 125 = .ok (.iconst 3, 1) := by decide +kernel
theorem dX8_undo_126 : decode cX8_undo 126 = .ok (.iadd, 1) := by decide +kernel
theorem dX8_undo_127 : decode cX8_undo 127 = .ok (.iaload, 1) := by decide +kernel
theorem dX8_undo_128 : decode cX8_undo 128 = .ok (.invokevirtual 219, 3) := by decide +kernel
theorem dX8_undo_131 : decode cX8_undo 131 = .ok (.goto 18, 3) := by decide +kernel
theorem dX8_undo_134 : decode cX8_undo 134 = .ok (.aload_n 0, 1) := by decide +kernel
theorem dX8_undo_135 : decode cX8_undo 135 = .ok (.aload_n 0, 1) := by decide +kernel
theorem dX8_undo_136 : decode cX8_undo 136 = .ok (.getfield 29, 3) := by decide +kernel
theorem dX8_undo_139 : decode cX8_undo 139 = .ok (.iload_n 3, 1) := by decide +kernel
theorem dX8_undo_140 : decode cX8_undo 140 = .ok (.aload_n 0, 1) := by decide +kernel
theorem dX8_undo_141 : decode cX8_undo 141 = .ok (.getfield 32, 3) := by decide +kernel
theorem dX8_undo_144 : decode cX8_undo 144 = .ok (.iload_n 2, 1) := by decide +kernel
theorem dX8_undo_145 : decode cX8_undo 145 = .ok (.laload, 1) := by decide +kernel
theorem dX8_undo_146 : decode cX8_undo 146 = .ok (.invokevirtual 180, 3) := by decide +kernel
theorem dX8_undo_149 : decode cX8_undo 149 = .ok (.istore_n 1, 1) := by decide +kernel
theorem dX8_undo_150 : decode cX8_undo 150 = .ok (.iinc 2 1, 3) := by decide +kernel
theorem dX8_undo_153 : decode cX8_undo 153 = .ok (.goto (-74), 3) := by decide +kernel
theorem dX8_undo_156 : decode cX8_undo 156 = .ok (.aload_n 0, 1) := by decide +kernel
theorem dX8_undo_157 : decode cX8_undo 157 = .ok (.iconst 0, 1) := by decide +kernel
theorem dX8_undo_158 : decode cX8_undo 158 = .ok (.putfield 71, 3) := by decide +kernel
theorem dX8_undo_161 : decode cX8_undo 161 = .ok (.aload_n 0, 1) := by decide +kernel
theorem dX8_undo_162 : decode cX8_undo 162 = .ok (.getfield 184, 3) := by decide +kernel
theorem dX8_undo_165 : decode cX8_undo 165 = .ok (.ireturn, 1) := by decide +kernel
theorem dX8_acts_0 : decode cX8_acts 0 = .ok (.aload_n 0, 1) := by decide +kernel
theorem dX8_acts_1 : decode cX8_acts 1 = .ok (.iconst 0, 1) := by decide +kernel
theorem dX8_acts_2 : decode cX8_acts 2 = .ok (.putfield 71, 3) := by decide +kernel
theorem dX8_acts_5 : decode cX8_acts 5 = .ok (.aload_n 0, 1) := by decide +kernel
theorem dX8_acts_6 : decode cX8_acts 6 = .ok (.getfield 184, 3) := by decide +kernel
theorem dX8_acts_9 : decode cX8_acts 9 = .ok (.ireturn, 1) := by decide +kernel
theorem dX8_ask_0 : decode cX8_ask 0 = .ok (.aload_n 0, 1) := by decide +kernel
theorem dX8_ask_1 : decode cX8_ask 1 = .ok (.iconst 0, 1) := by decide +kernel
theorem dX8_ask_2 : decode cX8_ask 2 = .ok (.putfield 71, 3) := by decide +kernel
theorem dX8_ask_5 : decode cX8_ask 5 = .ok (.aload_n 0, 1) := by decide +kernel
theorem dX8_ask_6 : decode cX8_ask 6 = .ok (.iload_n 1, 1) := by decide +kernel
theorem dX8_ask_7 : decode cX8_ask 7 = .ok (.iload_n 2, 1) := by decide +kernel
theorem dX8_ask_8 : decode cX8_ask 8 = .ok (.invokevirtual 177, 3) := by decide +kernel
theorem dX8_ask_11 : decode cX8_ask 11 = .ok (.ireturn, 1) := by decide +kernel
theorem dX8_toldAs_0 : decode cX8_toldAs 0 = .ok (.iload_n 2, 1) := by decide +kernel
theorem dX8_toldAs_1 : decode cX8_toldAs 1 = .ok (.tableswitch 227 0 24 #[115, 127, 134, 148, 148, 160, 160, 160, 160, 172, 172, 184, 196, 203, 203, 203, 215, 227, 227, 227, 227, 227, 227, 215, 215], 115) := by decide +kernel
theorem dX8_toldAs_116 : decode cX8_toldAs 116 = .ok (.aload_n 0, 1) := by decide +kernel
theorem dX8_toldAs_117 : decode cX8_toldAs 117 = .ok (.getfield 16, 3) := by decide +kernel
theorem dX8_toldAs_120 : decode cX8_toldAs 120 = .ok (.sipush 180, 3) := by decide +kernel
theorem dX8_toldAs_123 : decode cX8_toldAs 123 = .ok (.iload_n 1, 1) := by decide +kernel
theorem dX8_toldAs_124 : decode cX8_toldAs 124 = .ok (.iadd, 1) := by decide +kernel
theorem dX8_toldAs_125 : decode cX8_toldAs 125 = .ok (.iaload, 1) := by decide +kernel
theorem dX8_toldAs_126 : decode cX8_toldAs 126 = .ok (.i2l, 1) := by decide +kernel
theorem dX8_toldAs_127 : decode cX8_toldAs 127 = .ok (.lreturn, 1) := by decide +kernel
theorem dX8_toldAs_128 : decode cX8_toldAs 128 = .ok (.aload_n 0, 1) := by decide +kernel
theorem dX8_toldAs_129 : decode cX8_toldAs 129 = .ok (.iload_n 1, 1) := by decide +kernel
theorem dX8_toldAs_130 : decode cX8_toldAs 130 = .ok (.invokevirtual 225, 3) := by decide +kernel
theorem dX8_toldAs_133 : decode cX8_toldAs 133 = .ok (.i2l, 1) := by decide +kernel
theorem dX8_toldAs_134 : decode cX8_toldAs 134 = .ok (.lreturn, 1) := by decide +kernel
theorem dX8_toldAs_135 : decode cX8_toldAs 135 = .ok (.aload_n 0, 1) := by decide +kernel
theorem dX8_toldAs_136 : decode cX8_toldAs 136 = .ok (.getfield 16, 3) := by decide +kernel
theorem dX8_toldAs_139 : decode cX8_toldAs 139 = .ok (.bipush 120, 2) := by decide +kernel
theorem dX8_toldAs_141 : decode cX8_toldAs 141 = .ok (.iload_n 1, 1) := by decide +kernel
theorem dX8_toldAs_142 : decode cX8_toldAs 142 = .ok (.iadd, 1) := by decide +kernel
theorem dX8_toldAs_143 : decode cX8_toldAs 143 = .ok (.iaload, 1) := by decide +kernel
theorem dX8_toldAs_144 : decode cX8_toldAs 144 = .ok (.invokestatic 75, 3) := by decide +kernel
theorem dX8_toldAs_147 : decode cX8_toldAs 147 = .ok (.i2l, 1) := by decide +kernel
theorem dX8_toldAs_148 : decode cX8_toldAs 148 = .ok (.lreturn, 1) := by decide +kernel
theorem dX8_toldAs_149 : decode cX8_toldAs 149 = .ok (.aload_n 0, 1) := by decide +kernel
theorem dX8_toldAs_150 : decode cX8_toldAs 150 = .ok (.getfield 16, 3) := by decide +kernel
theorem dX8_toldAs_153 : decode cX8_toldAs 153 = .ok (.sipush 240, 3) := by decide +kernel
theorem dX8_toldAs_156 : decode cX8_toldAs 156 = .ok (.iload_n 1, 1) := by decide +kernel
theorem dX8_toldAs_157 : decode cX8_toldAs 157 = .ok (.iadd, 1) := by decide +kernel
theorem dX8_toldAs_158 : decode cX8_toldAs 158 = .ok (.iaload, 1) := by decide +kernel
theorem dX8_toldAs_159 : decode cX8_toldAs 159 = .ok (.i2l, 1) := by decide +kernel
theorem dX8_toldAs_160 : decode cX8_toldAs 160 = .ok (.lreturn, 1) := by decide +kernel
theorem dX8_toldAs_161 : decode cX8_toldAs 161 = .ok (.aload_n 0, 1) := by decide +kernel
theorem dX8_toldAs_162 : decode cX8_toldAs 162 = .ok (.getfield 16, 3) := by decide +kernel
theorem dX8_toldAs_165 : decode cX8_toldAs 165 = .ok (.sipush 300, 3) := by decide +kernel
theorem dX8_toldAs_168 : decode cX8_toldAs 168 = .ok (.iload_n 1, 1) := by decide +kernel
theorem dX8_toldAs_169 : decode cX8_toldAs 169 = .ok (.iadd, 1) := by decide +kernel
theorem dX8_toldAs_170 : decode cX8_toldAs 170 = .ok (.iaload, 1) := by decide +kernel
theorem dX8_toldAs_171 : decode cX8_toldAs 171 = .ok (.i2l, 1) := by decide +kernel
theorem dX8_toldAs_172 : decode cX8_toldAs 172 = .ok (.lreturn, 1) := by decide +kernel
theorem dX8_toldAs_173 : decode cX8_toldAs 173 = .ok (.aload_n 0, 1) := by decide +kernel
theorem dX8_toldAs_174 : decode cX8_toldAs 174 = .ok (.getfield 16, 3) := by decide +kernel
theorem dX8_toldAs_177 : decode cX8_toldAs 177 = .ok (.sipush 360, 3) := by decide +kernel
theorem dX8_toldAs_180 : decode cX8_toldAs 180 = .ok (.iload_n 1, 1) := by decide +kernel
theorem dX8_toldAs_181 : decode cX8_toldAs 181 = .ok (.iadd, 1) := by decide +kernel
theorem dX8_toldAs_182 : decode cX8_toldAs 182 = .ok (.iaload, 1) := by decide +kernel
theorem dX8_toldAs_183 : decode cX8_toldAs 183 = .ok (.i2l, 1) := by decide +kernel
theorem dX8_toldAs_184 : decode cX8_toldAs 184 = .ok (.lreturn, 1) := by decide +kernel
theorem dX8_toldAs_185 : decode cX8_toldAs 185 = .ok (.aload_n 0, 1) := by decide +kernel
theorem dX8_toldAs_186 : decode cX8_toldAs 186 = .ok (.getfield 16, 3) := by decide +kernel
theorem dX8_toldAs_189 : decode cX8_toldAs 189 = .ok (.sipush 480, 3) := by decide +kernel
theorem dX8_toldAs_192 : decode cX8_toldAs 192 = .ok (.iload_n 1, 1) := by decide +kernel
theorem dX8_toldAs_193 : decode cX8_toldAs 193 = .ok (.iadd, 1) := by decide +kernel
theorem dX8_toldAs_194 : decode cX8_toldAs 194 = .ok (.iaload, 1) := by decide +kernel
theorem dX8_toldAs_195 : decode cX8_toldAs 195 = .ok (.i2l, 1) := by decide +kernel
theorem dX8_toldAs_196 : decode cX8_toldAs 196 = .ok (.lreturn, 1) := by decide +kernel
theorem dX8_toldAs_197 : decode cX8_toldAs 197 = .ok (.aload_n 0, 1) := by decide +kernel
theorem dX8_toldAs_198 : decode cX8_toldAs 198 = .ok (.iload_n 1, 1) := by decide +kernel
theorem dX8_toldAs_199 : decode cX8_toldAs 199 = .ok (.invokevirtual 78, 3) := by decide +kernel
theorem dX8_toldAs_202 : decode cX8_toldAs 202 = .ok (.i2l, 1) := by decide +kernel
theorem dX8_toldAs_203 : decode cX8_toldAs 203 = .ok (.lreturn, 1) := by decide +kernel
theorem dX8_toldAs_204 : decode cX8_toldAs 204 = .ok (.aload_n 0, 1) := by decide +kernel
theorem dX8_toldAs_205 : decode cX8_toldAs 205 = .ok (.getfield 19, 3) := by decide +kernel
theorem dX8_toldAs_208 : decode cX8_toldAs 208 = .ok (.bipush 12, 2) := by decide +kernel
theorem dX8_toldAs_210 : decode cX8_toldAs 210 = .ok (.iload_n 1, 1) := by decide +kernel
theorem dX8_toldAs_211 : decode cX8_toldAs 211 = .ok (.imul, 1) := by decide +kernel
theorem dX8_toldAs_212 : decode cX8_toldAs 212 = .ok (.iload_n 3, 1) := by decide +kernel
theorem dX8_toldAs_213 : decode cX8_toldAs 213 = .ok (.iadd, 1) := by decide +kernel
theorem dX8_toldAs_214 : decode cX8_toldAs 214 = .ok (.laload, 1) := by decide +kernel
theorem dX8_toldAs_215 : decode cX8_toldAs 215 = .ok (.lreturn, 1) := by decide +kernel
theorem dX8_toldAs_216 : decode cX8_toldAs 216 = .ok (.aload_n 0, 1) := by decide +kernel
theorem dX8_toldAs_217 : decode cX8_toldAs 217 = .ok (.aload_n 0, 1) := by decide +kernel
theorem dX8_toldAs_218 : decode cX8_toldAs 218 = .ok (.iload_n 1, 1) := by decide +kernel
theorem dX8_toldAs_219 : decode cX8_toldAs 219 = .ok (.iload_n 3, 1) := by decide +kernel
theorem dX8_toldAs_220 : decode cX8_toldAs 220 = .ok (.invokevirtual 85, 3) := by decide +kernel
theorem dX8_toldAs_223 : decode cX8_toldAs 223 = .ok (.invokevirtual 68, 3) := by decide +kernel
theorem dX8_toldAs_226 : decode cX8_toldAs 226 = .ok (.i2l, 1) := by decide +kernel
theorem dX8_toldAs_227 : decode cX8_toldAs 227 = .ok (.lreturn, 1) := by decide +kernel
theorem dX8_toldAs_228 : decode cX8_toldAs 228 = .ok (.aload_n 0, 1) := by decide +kernel
theorem dX8_toldAs_229 : decode cX8_toldAs 229 = .ok (.iload_n 1, 1) := by decide +kernel
theorem dX8_toldAs_230 : decode cX8_toldAs 230 = .ok (.iload_n 3, 1) := by decide +kernel
theorem dX8_toldAs_231 : decode cX8_toldAs 231 = .ok (.invokevirtual 85, 3) := by decide +kernel
theorem dX8_toldAs_234 : decode cX8_toldAs 234 = .ok (.i2l, 1) := by decide +kernel
theorem dX8_toldAs_235 : decode cX8_toldAs 235 = .ok (.lreturn, 1) := by decide +kernel
theorem dX8_take_0 : decode cX8_take 0 = .ok (.aload_n 0, 1) := by decide +kernel
theorem dX8_take_1 : decode cX8_take 1 = .ok (.iconst 0, 1) := by decide +kernel
theorem dX8_take_2 : decode cX8_take 2 = .ok (.putfield 71, 3) := by decide +kernel
theorem dX8_take_5 : decode cX8_take 5 = .ok (.iload_n 1, 1) := by decide +kernel
theorem dX8_take_6 : decode cX8_take 6 = .ok (.invokestatic 98, 3) := by decide +kernel
theorem dX8_take_9 : decode cX8_take 9 = .ok (.ifCond .eq 13, 3) := by decide +kernel
theorem dX8_take_12 : decode cX8_take 12 = .ok (.iload_n 2, 1) := by decide +kernel
theorem dX8_take_13 : decode cX8_take 13 = .ok (.ifCond .lt 9, 3) := by decide +kernel
theorem dX8_take_16 : decode cX8_take 16 = .ok (.iload_n 2, 1) := by decide +kernel
theorem dX8_take_17 : decode cX8_take 17 = .ok (.bipush 24, 2) := by decide +kernel
theorem dX8_take_19 : decode cX8_take 19 = .ok (.if_icmp .le 10, 3) := by decide +kernel
theorem dX8_take_22 : decode cX8_take 22 = .ok (.aload_n 0, 1) := by decide +kernel
theorem dX8_take_23 : decode cX8_take 23 = .ok (.iconst 1, 1) := by decide +kernel
theorem dX8_take_24 : decode cX8_take 24 = .ok (.invokevirtual 101, 3) := by decide +kernel
theorem dX8_take_27 : decode cX8_take 27 = .ok (.i2l, 1) := by decide +kernel
theorem dX8_take_28 : decode cX8_take 28 = .ok (.lreturn, 1) := by decide +kernel
theorem dX8_take_29 : decode cX8_take 29 = .ok (.aload_n 0, 1) := by decide +kernel
theorem dX8_take_30 : decode cX8_take 30 = .ok (.iload_n 1, 1) := by decide +kernel
theorem dX8_take_31 : decode cX8_take 31 = .ok (.invokevirtual 104, 3) := by decide +kernel
theorem dX8_take_34 : decode cX8_take 34 = .ok (.istore 4, 2) := by decide +kernel
theorem dX8_take_36 : decode cX8_take 36 = .ok (.iload 4, 2) := by decide +kernel
theorem dX8_take_38 : decode cX8_take 38 = .ok (.ifCond .lt 24, 3) := by decide +kernel
theorem dX8_take_41 : decode cX8_take 41 = .ok (.aload_n 0, 1) := by decide +kernel
theorem dX8_take_42 : decode cX8_take 42 = .ok (.aload_n 0, 1) := by decide +kernel
theorem dX8_take_43 : decode cX8_take 43 = .ok (.iload 4, 2) := by decide +kernel
theorem dX8_take_45 : decode cX8_take 45 = .ok (.invokevirtual 78, 3) := by decide +kernel
theorem dX8_take_48 : decode cX8_take 48 = .ok (.iload_n 2, 1) := by decide +kernel
theorem dX8_take_49 : decode cX8_take 49 = .ok (.invokevirtual 62, 3) := by decide +kernel
theorem dX8_take_52 : decode cX8_take 52 = .ok (.ifCond .ne 10, 3) := by decide +kernel
theorem dX8_take_55 : decode cX8_take 55 = .ok (.aload_n 0, 1) := by decide +kernel
theorem dX8_take_56 : decode cX8_take 56 = .ok (.iconst 3, 1) := by decide +kernel
theorem dX8_take_57 : decode cX8_take 57 = .ok (.invokevirtual 101, 3) := by decide +kernel
theorem dX8_take_60 : decode cX8_take 60 = .ok (.i2l, 1) := by decide +kernel
theorem dX8_take_61 : decode cX8_take 61 = .ok (.lreturn, 1) := by decide +kernel
theorem dX8_take_62 : decode cX8_take 62 = .ok (.iload 4, 2) := by decide +kernel
theorem dX8_take_64 : decode cX8_take 64 = .ok (.ifCond .ge 10, 3) := by decide +kernel
theorem dX8_take_67 : decode cX8_take 67 = .ok (.aload_n 0, 1) := by decide +kernel
theorem dX8_take_68 : decode cX8_take 68 = .ok (.iconst 2, 1) := by decide +kernel
theorem dX8_take_69 : decode cX8_take 69 = .ok (.invokevirtual 101, 3) := by decide +kernel
theorem dX8_take_72 : decode cX8_take 72 = .ok (.i2l, 1) := by decide +kernel
theorem dX8_take_73 : decode cX8_take 73 = .ok (.lreturn, 1) := by decide +kernel
theorem dX8_take_74 : decode cX8_take 74 = .ok (.iload_n 2, 1) := by decide +kernel
theorem dX8_take_75 : decode cX8_take 75 = .ok (.bipush 13, 2) := by decide +kernel
theorem dX8_take_77 : decode cX8_take 77 = .ok (.if_icmp .lt 20, 3) := by decide +kernel
theorem dX8_take_80 : decode cX8_take 80 = .ok (.aload_n 0, 1) := by decide +kernel
theorem dX8_take_81 : decode cX8_take 81 = .ok (.iload 4, 2) := by decide +kernel
theorem dX8_take_83 : decode cX8_take 83 = .ok (.iload_n 3, 1) := by decide +kernel
theorem dX8_take_84 : decode cX8_take 84 = .ok (.invokevirtual 110, 3) := by decide +kernel
theorem dX8_take_87 : decode cX8_take 87 = .ok (.ifCond .ne 10, 3) := by decide +kernel
theorem dX8_take_90 : decode cX8_take 90 = .ok (.aload_n 0, 1) := by decide +kernel
theorem dX8_take_91 : decode cX8_take 91 = .ok (.iconst 4, 1) := by decide +kernel
theorem dX8_take_92 : decode cX8_take 92 = .ok (.invokevirtual 101, 3) := by decide +kernel
theorem dX8_take_95 : decode cX8_take 95 = .ok (.i2l, 1) := by decide +kernel
theorem dX8_take_96 : decode cX8_take 96 = .ok (.lreturn, 1) := by decide +kernel
theorem dX8_take_97 : decode cX8_take 97 = .ok (.iload_n 2, 1) := by decide +kernel
theorem dX8_take_98 : decode cX8_take 98 = .ok (.bipush 16, 2) := by decide +kernel
theorem dX8_take_100 : decode cX8_take 100 = .ok (.if_icmp .lt 20, 3) := by decide +kernel
theorem dX8_take_103 : decode cX8_take 103 = .ok (.aload_n 0, 1) := by decide +kernel
theorem dX8_take_104 : decode cX8_take 104 = .ok (.iload 4, 2) := by decide +kernel
theorem dX8_take_106 : decode cX8_take 106 = .ok (.iload_n 3, 1) := by decide +kernel
theorem dX8_take_107 : decode cX8_take 107 = .ok (.invokevirtual 85, 3) := by decide +kernel
theorem dX8_take_110 : decode cX8_take 110 = .ok (.ifCond .ge 10, 3) := by decide +kernel
theorem dX8_take_113 : decode cX8_take 113 = .ok (.aload_n 0, 1) := by decide +kernel
theorem dX8_take_114 : decode cX8_take 114 = .ok (.iconst 2, 1) := by decide +kernel
theorem dX8_take_115 : decode cX8_take 115 = .ok (.invokevirtual 101, 3) := by decide +kernel
theorem dX8_take_118 : decode cX8_take 118 = .ok (.i2l, 1) := by decide +kernel
theorem dX8_take_119 : decode cX8_take 119 = .ok (.lreturn, 1) := by decide +kernel
theorem dX8_take_120 : decode cX8_take 120 = .ok (.aload_n 0, 1) := by decide +kernel
theorem dX8_take_121 : decode cX8_take 121 = .ok (.iload 4, 2) := by decide +kernel
theorem dX8_take_123 : decode cX8_take 123 = .ok (.iload_n 2, 1) := by decide +kernel
theorem dX8_take_124 : decode cX8_take 124 = .ok (.iload_n 3, 1) := by decide +kernel
theorem dX8_take_125 : decode cX8_take 125 = .ok (.invokevirtual 228, 3) := by decide +kernel
theorem dX8_take_128 : decode cX8_take 128 = .ok (.lreturn, 1) := by decide +kernel
theorem dX8_size_0 : decode cX8_size 0 = .ok (.aload_n 0, 1) := by decide +kernel
theorem dX8_size_1 : decode cX8_size 1 = .ok (.iconst 0, 1) := by decide +kernel
theorem dX8_size_2 : decode cX8_size 2 = .ok (.putfield 71, 3) := by decide +kernel
theorem dX8_size_5 : decode cX8_size 5 = .ok (.iload_n 1, 1) := by decide +kernel
theorem dX8_size_6 : decode cX8_size 6 = .ok (.invokestatic 98, 3) := by decide +kernel
theorem dX8_size_9 : decode cX8_size 9 = .ok (.ifCond .ne 9, 3) := by decide +kernel
theorem dX8_size_12 : decode cX8_size 12 = .ok (.aload_n 0, 1) := by decide +kernel
theorem dX8_size_13 : decode cX8_size 13 = .ok (.iconst 1, 1) := by decide +kernel
theorem dX8_size_14 : decode cX8_size 14 = .ok (.invokevirtual 101, 3) := by decide +kernel
theorem dX8_size_17 : decode cX8_size 17 = .ok (.ireturn, 1) := by decide +kernel
theorem dX8_size_18 : decode cX8_size 18 = .ok (.aload_n 0, 1) := by decide +kernel
theorem dX8_size_19 : decode cX8_size 19 = .ok (.iload_n 1, 1) := by decide +kernel
theorem dX8_size_20 : decode cX8_size 20 = .ok (.invokevirtual 104, 3) := by decide +kernel
theorem dX8_size_23 : decode cX8_size 23 = .ok (.ifCond .ge 9, 3) := by decide +kernel
theorem dX8_size_26 : decode cX8_size 26 = .ok (.aload_n 0, 1) := by decide +kernel
theorem dX8_size_27 : decode cX8_size 27 = .ok (.iconst 2, 1) := by decide +kernel
theorem dX8_size_28 : decode cX8_size 28 = .ok (.invokevirtual 101, 3) := by decide +kernel
theorem dX8_size_31 : decode cX8_size 31 = .ok (.ireturn, 1) := by decide +kernel
theorem dX8_size_32 : decode cX8_size 32 = .ok (.aload_n 0, 1) := by decide +kernel
theorem dX8_size_33 : decode cX8_size 33 = .ok (.aload_n 0, 1) := by decide +kernel
theorem dX8_size_34 : decode cX8_size 34 = .ok (.iload_n 1, 1) := by decide +kernel
theorem dX8_size_35 : decode cX8_size 35 = .ok (.invokevirtual 104, 3) := by decide +kernel
theorem dX8_size_38 : decode cX8_size 38 = .ok (.invokevirtual 78, 3) := by decide +kernel
theorem dX8_size_41 : decode cX8_size 41 = .ok (.bipush 13, 2) := by decide +kernel
theorem dX8_size_43 : decode cX8_size 43 = .ok (.if_icmp .ge 9, 3) := by decide +kernel
theorem dX8_size_46 : decode cX8_size 46 = .ok (.aload_n 0, 1) := by decide +kernel
theorem dX8_size_47 : decode cX8_size 47 = .ok (.iconst 3, 1) := by decide +kernel
theorem dX8_size_48 : decode cX8_size 48 = .ok (.invokevirtual 101, 3) := by decide +kernel
theorem dX8_size_51 : decode cX8_size 51 = .ok (.ireturn, 1) := by decide +kernel
theorem dX8_size_52 : decode cX8_size 52 = .ok (.aload_n 0, 1) := by decide +kernel
theorem dX8_size_53 : decode cX8_size 53 = .ok (.aload_n 0, 1) := by decide +kernel
theorem dX8_size_54 : decode cX8_size 54 = .ok (.iload_n 1, 1) := by decide +kernel
theorem dX8_size_55 : decode cX8_size 55 = .ok (.invokevirtual 104, 3) := by decide +kernel
theorem dX8_size_58 : decode cX8_size 58 = .ok (.invokevirtual 68, 3) := by decide +kernel
theorem dX8_size_61 : decode cX8_size 61 = .ok (.ireturn, 1) := by decide +kernel
theorem dX8_read_0 : decode cX8_read 0 = .ok (.aload_n 0, 1) := by decide +kernel
theorem dX8_read_1 : decode cX8_read 1 = .ok (.iconst 0, 1) := by decide +kernel
theorem dX8_read_2 : decode cX8_read 2 = .ok (.putfield 71, 3) := by decide +kernel
theorem dX8_read_5 : decode cX8_read 5 = .ok (.iload_n 1, 1) := by decide +kernel
theorem dX8_read_6 : decode cX8_read 6 = .ok (.invokestatic 98, 3) := by decide +kernel
theorem dX8_read_9 : decode cX8_read 9 = .ok (.ifCond .ne 10, 3) := by decide +kernel
theorem dX8_read_12 : decode cX8_read 12 = .ok (.aload_n 0, 1) := by decide +kernel
theorem dX8_read_13 : decode cX8_read 13 = .ok (.iconst 1, 1) := by decide +kernel
theorem dX8_read_14 : decode cX8_read 14 = .ok (.invokevirtual 101, 3) := by decide +kernel
theorem dX8_read_17 : decode cX8_read 17 = .ok (.i2l, 1) := by decide +kernel
theorem dX8_read_18 : decode cX8_read 18 = .ok (.lreturn, 1) := by decide +kernel
theorem dX8_read_19 : decode cX8_read 19 = .ok (.aload_n 0, 1) := by decide +kernel
theorem dX8_read_20 : decode cX8_read 20 = .ok (.iload_n 1, 1) := by decide +kernel
theorem dX8_read_21 : decode cX8_read 21 = .ok (.invokevirtual 104, 3) := by decide +kernel
theorem dX8_read_24 : decode cX8_read 24 = .ok (.ifCond .ge 10, 3) := by decide +kernel
theorem dX8_read_27 : decode cX8_read 27 = .ok (.aload_n 0, 1) := by decide +kernel
theorem dX8_read_28 : decode cX8_read 28 = .ok (.iconst 2, 1) := by decide +kernel
theorem dX8_read_29 : decode cX8_read 29 = .ok (.invokevirtual 101, 3) := by decide +kernel
theorem dX8_read_32 : decode cX8_read 32 = .ok (.i2l, 1) := by decide +kernel
theorem dX8_read_33 : decode cX8_read 33 = .ok (.lreturn, 1) := by decide +kernel
theorem dX8_read_34 : decode cX8_read 34 = .ok (.aload_n 0, 1) := by decide +kernel
theorem dX8_read_35 : decode cX8_read 35 = .ok (.aload_n 0, 1) := by decide +kernel
theorem dX8_read_36 : decode cX8_read 36 = .ok (.iload_n 1, 1) := by decide +kernel
theorem dX8_read_37 : decode cX8_read 37 = .ok (.invokevirtual 104, 3) := by decide +kernel
theorem dX8_read_40 : decode cX8_read 40 = .ok (.invokevirtual 78, 3) := by decide +kernel
theorem dX8_read_43 : decode cX8_read 43 = .ok (.invokestatic 120, 3) := by decide +kernel
theorem dX8_read_46 : decode cX8_read 46 = .ok (.ifCond .ne 10, 3) := by decide +kernel
theorem dX8_read_49 : decode cX8_read 49 = .ok (.aload_n 0, 1) := by decide +kernel
theorem dX8_read_50 : decode cX8_read 50 = .ok (.iconst 3, 1) := by decide +kernel
theorem dX8_read_51 : decode cX8_read 51 = .ok (.invokevirtual 101, 3) := by decide +kernel
theorem dX8_read_54 : decode cX8_read 54 = .ok (.i2l, 1) := by decide +kernel
theorem dX8_read_55 : decode cX8_read 55 = .ok (.lreturn, 1) := by decide +kernel
theorem dX8_read_56 : decode cX8_read 56 = .ok (.aload_n 0, 1) := by decide +kernel
theorem dX8_read_57 : decode cX8_read 57 = .ok (.aload_n 0, 1) := by decide +kernel
theorem dX8_read_58 : decode cX8_read 58 = .ok (.iload_n 1, 1) := by decide +kernel
theorem dX8_read_59 : decode cX8_read 59 = .ok (.invokevirtual 104, 3) := by decide +kernel
theorem dX8_read_62 : decode cX8_read 62 = .ok (.iload_n 2, 1) := by decide +kernel
theorem dX8_read_63 : decode cX8_read 63 = .ok (.invokevirtual 110, 3) := by decide +kernel
theorem dX8_read_66 : decode cX8_read 66 = .ok (.ifCond .ne 10, 3) := by decide +kernel
theorem dX8_read_69 : decode cX8_read 69 = .ok (.aload_n 0, 1) := by decide +kernel
theorem dX8_read_70 : decode cX8_read 70 = .ok (.iconst 4, 1) := by decide +kernel
theorem dX8_read_71 : decode cX8_read 71 = .ok (.invokevirtual 101, 3) := by decide +kernel
theorem dX8_read_74 : decode cX8_read 74 = .ok (.i2l, 1) := by decide +kernel
theorem dX8_read_75 : decode cX8_read 75 = .ok (.lreturn, 1) := by decide +kernel
theorem dX8_read_76 : decode cX8_read 76 = .ok (.aload_n 0, 1) := by decide +kernel
theorem dX8_read_77 : decode cX8_read 77 = .ok (.getfield 19, 3) := by decide +kernel
theorem dX8_read_80 : decode cX8_read 80 = .ok (.bipush 12, 2) := by decide +kernel
theorem dX8_read_82 : decode cX8_read 82 = .ok (.aload_n 0, 1) := by decide +kernel
theorem dX8_read_83 : decode cX8_read 83 = .ok (.iload_n 1, 1) := by decide +kernel
theorem dX8_read_84 : decode cX8_read 84 = .ok (.invokevirtual 104, 3) := by decide +kernel
theorem dX8_read_87 : decode cX8_read 87 = .ok (.imul, 1) := by decide +kernel
theorem dX8_read_88 : decode cX8_read 88 = .ok (.iload_n 2, 1) := by decide +kernel
theorem dX8_read_89 : decode cX8_read 89 = .ok (.iadd, 1) := by decide +kernel
theorem dX8_read_90 : decode cX8_read 90 = .ok (.laload, 1) := by decide +kernel
theorem dX8_read_91 : decode cX8_read 91 = .ok (.lreturn, 1) := by decide +kernel
theorem dX8_at_0 : decode cX8_at 0 = .ok (.aload_n 0, 1) := by decide +kernel
theorem dX8_at_1 : decode cX8_at 1 = .ok (.iconst 0, 1) := by decide +kernel
theorem dX8_at_2 : decode cX8_at 2 = .ok (.putfield 71, 3) := by decide +kernel
theorem dX8_at_5 : decode cX8_at 5 = .ok (.iload_n 1, 1) := by decide +kernel
theorem dX8_at_6 : decode cX8_at 6 = .ok (.invokestatic 98, 3) := by decide +kernel
theorem dX8_at_9 : decode cX8_at 9 = .ok (.ifCond .ne 9, 3) := by decide +kernel
theorem dX8_at_12 : decode cX8_at 12 = .ok (.aload_n 0, 1) := by decide +kernel
theorem dX8_at_13 : decode cX8_at 13 = .ok (.iconst 1, 1) := by decide +kernel
theorem dX8_at_14 : decode cX8_at 14 = .ok (.invokevirtual 101, 3) := by decide +kernel
theorem dX8_at_17 : decode cX8_at 17 = .ok (.ireturn, 1) := by decide +kernel
theorem dX8_at_18 : decode cX8_at 18 = .ok (.aload_n 0, 1) := by decide +kernel
theorem dX8_at_19 : decode cX8_at 19 = .ok (.iload_n 1, 1) := by decide +kernel
theorem dX8_at_20 : decode cX8_at 20 = .ok (.invokevirtual 104, 3) := by decide +kernel
theorem dX8_at_23 : decode cX8_at 23 = .ok (.ifCond .ge 9, 3) := by decide +kernel
theorem dX8_at_26 : decode cX8_at 26 = .ok (.aload_n 0, 1) := by decide +kernel
theorem dX8_at_27 : decode cX8_at 27 = .ok (.iconst 2, 1) := by decide +kernel
theorem dX8_at_28 : decode cX8_at 28 = .ok (.invokevirtual 101, 3) := by decide +kernel
theorem dX8_at_31 : decode cX8_at 31 = .ok (.ireturn, 1) := by decide +kernel
theorem dX8_at_32 : decode cX8_at 32 = .ok (.aload_n 0, 1) := by decide +kernel
theorem dX8_at_33 : decode cX8_at 33 = .ok (.aload_n 0, 1) := by decide +kernel
theorem dX8_at_34 : decode cX8_at 34 = .ok (.iload_n 1, 1) := by decide +kernel
theorem dX8_at_35 : decode cX8_at 35 = .ok (.invokevirtual 104, 3) := by decide +kernel
theorem dX8_at_38 : decode cX8_at 38 = .ok (.invokevirtual 78, 3) := by decide +kernel
theorem dX8_at_41 : decode cX8_at 41 = .ok (.istore 4, 2) := by decide +kernel
theorem dX8_at_43 : decode cX8_at 43 = .ok (.iload 4, 2) := by decide +kernel
theorem dX8_at_45 : decode cX8_at 45 = .ok (.bipush 16, 2) := by decide +kernel
theorem dX8_at_47 : decode cX8_at 47 = .ok (.if_icmp .eq 17, 3) := by decide +kernel
theorem dX8_at_50 : decode cX8_at 50 = .ok (.iload 4, 2) := by decide +kernel
theorem dX8_at_52 : decode cX8_at 52 = .ok (.invokestatic 55, 3) := by decide +kernel
theorem dX8_at_55 : decode cX8_at 55 = .ok (.ifCond .ne 9, 3) := by decide +kernel
theorem dX8_at_58 : decode cX8_at 58 = .ok (.aload_n 0, 1) := by decide +kernel
theorem dX8_at_59 : decode cX8_at 59 = .ok (.iconst 3, 1) := by decide +kernel
theorem dX8_at_60 : decode cX8_at 60 = .ok (.invokevirtual 101, 3) := by decide +kernel
theorem dX8_at_63 : decode cX8_at 63 = .ok (.ireturn, 1) := by decide +kernel
theorem dX8_at_64 : decode cX8_at 64 = .ok (.aload_n 0, 1) := by decide +kernel
theorem dX8_at_65 : decode cX8_at 65 = .ok (.aload_n 0, 1) := by decide +kernel
theorem dX8_at_66 : decode cX8_at 66 = .ok (.iload_n 1, 1) := by decide +kernel
theorem dX8_at_67 : decode cX8_at 67 = .ok (.invokevirtual 104, 3) := by decide +kernel
theorem dX8_at_70 : decode cX8_at 70 = .ok (.iload_n 2, 1) := by decide +kernel
theorem dX8_at_71 : decode cX8_at 71 = .ok (.invokevirtual 110, 3) := by decide +kernel
theorem dX8_at_74 : decode cX8_at 74 = .ok (.ifCond .ne 9, 3) := by decide +kernel
theorem dX8_at_77 : decode cX8_at 77 = .ok (.aload_n 0, 1) := by decide +kernel
theorem dX8_at_78 : decode cX8_at 78 = .ok (.iconst 4, 1) := by decide +kernel
theorem dX8_at_79 : decode cX8_at 79 = .ok (.invokevirtual 101, 3) := by decide +kernel
theorem dX8_at_82 : decode cX8_at 82 = .ok (.ireturn, 1) := by decide +kernel
theorem dX8_at_83 : decode cX8_at 83 = .ok (.aload_n 0, 1) := by decide +kernel
theorem dX8_at_84 : decode cX8_at 84 = .ok (.aload_n 0, 1) := by decide +kernel
theorem dX8_at_85 : decode cX8_at 85 = .ok (.iload_n 1, 1) := by decide +kernel
theorem dX8_at_86 : decode cX8_at 86 = .ok (.invokevirtual 104, 3) := by decide +kernel
theorem dX8_at_89 : decode cX8_at 89 = .ok (.iload_n 2, 1) := by decide +kernel
theorem dX8_at_90 : decode cX8_at 90 = .ok (.invokevirtual 85, 3) := by decide +kernel
theorem dX8_at_93 : decode cX8_at 93 = .ok (.istore 5, 2) := by decide +kernel
theorem dX8_at_95 : decode cX8_at 95 = .ok (.iload 5, 2) := by decide +kernel
theorem dX8_at_97 : decode cX8_at 97 = .ok (.ifCond .ge 9, 3) := by decide +kernel
theorem dX8_at_100 : decode cX8_at 100 = .ok (.aload_n 0, 1) := by decide +kernel
theorem dX8_at_101 : decode cX8_at 101 = .ok (.iconst 2, 1) := by decide +kernel
theorem dX8_at_102 : decode cX8_at 102 = .ok (.invokevirtual 101, 3) := by decide +kernel
theorem dX8_at_105 : decode cX8_at 105 = .ok (.ireturn, 1) := by decide +kernel
theorem dX8_at_106 : decode cX8_at 106 = .ok (.aload_n 0, 1) := by decide +kernel
theorem dX8_at_107 : decode cX8_at 107 = .ok (.iload 5, 2) := by decide +kernel
theorem dX8_at_109 : decode cX8_at 109 = .ok (.iload_n 3, 1) := by decide +kernel
theorem dX8_at_110 : decode cX8_at 110 = .ok (.invokevirtual 110, 3) := by decide +kernel
theorem dX8_at_113 : decode cX8_at 113 = .ok (.ifCond .ne 9, 3) := by decide +kernel
theorem dX8_at_116 : decode cX8_at 116 = .ok (.aload_n 0, 1) := by decide +kernel
theorem dX8_at_117 : decode cX8_at 117 = .ok (.iconst 4, 1) := by decide +kernel
theorem dX8_at_118 : decode cX8_at 118 = .ok (.invokevirtual 101, 3) := by decide +kernel
theorem dX8_at_121 : decode cX8_at 121 = .ok (.ireturn, 1) := by decide +kernel
theorem dX8_at_122 : decode cX8_at 122 = .ok (.iload 4, 2) := by decide +kernel
theorem dX8_at_124 : decode cX8_at 124 = .ok (.bipush 16, 2) := by decide +kernel
theorem dX8_at_126 : decode cX8_at 126 = .ok (.if_icmp .ne 17, 3) := by decide +kernel
theorem dX8_at_129 : decode cX8_at 129 = .ok (.aload_n 0, 1) := by decide +kernel
theorem dX8_at_130 : decode cX8_at 130 = .ok (.getfield 19, 3) := by decide +kernel
theorem dX8_at_133 : decode cX8_at 133 = .ok (.bipush 12, 2) := by decide +kernel
theorem dX8_at_135 : decode cX8_at 135 = .ok (.iload 5, 2) := by decide +kernel
theorem dX8_at_137 : decode cX8_at 137 = .ok (.imul, 1) := by decide +kernel
theorem dX8_at_138 : decode cX8_at 138 = .ok (.iload_n 3, 1) := by decide +kernel
theorem dX8_at_139 : decode cX8_at 139 = .ok (.iadd, 1) := by decide +kernel
theorem dX8_at_140 : decode cX8_at 140 = .ok (.laload, 1) := by decide +kernel
theorem dX8_at_141 : decode cX8_at 141 = .ok (.l2i, 1) := by decide +kernel
theorem dX8_at_142 : decode cX8_at 142 = .ok (.ireturn, 1) := by decide +kernel
theorem dX8_at_143 : decode cX8_at 143 = .ok (.aload_n 0, 1) := by decide +kernel
theorem dX8_at_144 : decode cX8_at 144 = .ok (.iload 5, 2) := by decide +kernel
theorem dX8_at_146 : decode cX8_at 146 = .ok (.iload_n 3, 1) := by decide +kernel
theorem dX8_at_147 : decode cX8_at 147 = .ok (.invokevirtual 85, 3) := by decide +kernel
theorem dX8_at_150 : decode cX8_at 150 = .ok (.ifCond .ge 11, 3) := by decide +kernel
theorem dX8_at_153 : decode cX8_at 153 = .ok (.aload_n 0, 1) := by decide +kernel
theorem dX8_at_154 : decode cX8_at 154 = .ok (.iconst 2, 1) := by decide +kernel
theorem dX8_at_155 : decode cX8_at 155 = .ok (.invokevirtual 101, 3) := by decide +kernel
theorem dX8_at_158 : decode cX8_at 158 = .ok (.goto 10, 3) := by decide +kernel
theorem dX8_at_161 : decode cX8_at 161 = .ok (.aload_n 0, 1) := by decide +kernel
theorem dX8_at_162 : decode cX8_at 162 = .ok (.iload 5, 2) := by decide +kernel
theorem dX8_at_164 : decode cX8_at 164 = .ok (.iload_n 3, 1) := by decide +kernel
theorem dX8_at_165 : decode cX8_at 165 = .ok (.invokevirtual 85, 3) := by decide +kernel
theorem dX8_at_168 : decode cX8_at 168 = .ok (.ireturn, 1) := by decide +kernel
theorem dX8_tell_0 : decode cX8_tell 0 = .ok (.aload_n 0, 1) := by decide +kernel
theorem dX8_tell_1 : decode cX8_tell 1 = .ok (.iconst 0, 1) := by decide +kernel
theorem dX8_tell_2 : decode cX8_tell 2 = .ok (.putfield 71, 3) := by decide +kernel
theorem dX8_tell_5 : decode cX8_tell 5 = .ok (.iload_n 1, 1) := by decide +kernel
theorem dX8_tell_6 : decode cX8_tell 6 = .ok (.invokestatic 98, 3) := by decide +kernel
theorem dX8_tell_9 : decode cX8_tell 9 = .ok (.ifCond .eq 13, 3) := by decide +kernel
theorem dX8_tell_12 : decode cX8_tell 12 = .ok (.iload_n 2, 1) := by decide +kernel
theorem dX8_tell_13 : decode cX8_tell 13 = .ok (.ifCond .lt 9, 3) := by decide +kernel
theorem dX8_tell_16 : decode cX8_tell 16 = .ok (.iload_n 2, 1) := by decide +kernel
theorem dX8_tell_17 : decode cX8_tell 17 = .ok (.bipush 9, 2) := by decide +kernel
theorem dX8_tell_19 : decode cX8_tell 19 = .ok (.if_icmp .le 9, 3) := by decide +kernel
theorem dX8_tell_22 : decode cX8_tell 22 = .ok (.aload_n 0, 1) := by decide +kernel
theorem dX8_tell_23 : decode cX8_tell 23 = .ok (.iconst 1, 1) := by decide +kernel
theorem dX8_tell_24 : decode cX8_tell 24 = .ok (.invokevirtual 101, 3) := by decide +kernel
theorem dX8_tell_27 : decode cX8_tell 27 = .ok (.ireturn, 1) := by decide +kernel
theorem dX8_tell_28 : decode cX8_tell 28 = .ok (.aload_n 0, 1) := by decide +kernel
theorem dX8_tell_29 : decode cX8_tell 29 = .ok (.iload_n 1, 1) := by decide +kernel
theorem dX8_tell_30 : decode cX8_tell 30 = .ok (.invokevirtual 104, 3) := by decide +kernel
theorem dX8_tell_33 : decode cX8_tell 33 = .ok (.istore_n 3, 1) := by decide +kernel
theorem dX8_tell_34 : decode cX8_tell 34 = .ok (.iload_n 3, 1) := by decide +kernel
theorem dX8_tell_35 : decode cX8_tell 35 = .ok (.ifCond .ge 9, 3) := by decide +kernel
theorem dX8_tell_38 : decode cX8_tell 38 = .ok (.aload_n 0, 1) := by decide +kernel
theorem dX8_tell_39 : decode cX8_tell 39 = .ok (.iconst 2, 1) := by decide +kernel
theorem dX8_tell_40 : decode cX8_tell 40 = .ok (.invokevirtual 101, 3) := by decide +kernel
theorem dX8_tell_43 : decode cX8_tell 43 = .ok (.ireturn, 1) := by decide +kernel
theorem dX8_tell_44 : decode cX8_tell 44 = .ok (.iload_n 2, 1) := by decide +kernel
theorem dX8_tell_45 : decode cX8_tell 45 = .ok (.tableswitch 146 0 8 #[51, 57, 59, 69, 80, 91, 102, 113, 135], 51) := by decide +kernel
theorem dX8_tell_96 : decode cX8_tell 96 = .ok (.aload_n 0, 1) := by decide +kernel
theorem dX8_tell_97 : decode cX8_tell 97 = .ok (.iload_n 3, 1) := by decide +kernel
theorem dX8_tell_98 : decode cX8_tell 98 = .ok (.invokevirtual 78, 3) := by decide +kernel
theorem dX8_tell_101 : decode cX8_tell 101 = .ok (.ireturn, 1) := by decide +kernel
theorem dX8_tell_102 : decode cX8_tell 102 = .ok (.iload_n 3, 1) := by decide +kernel
theorem dX8_tell_103 : decode cX8_tell 103 = .ok (.ireturn, 1) := by decide +kernel
theorem dX8_tell_104 : decode cX8_tell 104 = .ok (.aload_n 0, 1) := by decide +kernel
theorem dX8_tell_105 : decode cX8_tell 105 = .ok (.getfield 16, 3) := by decide +kernel
theorem dX8_tell_108 : decode cX8_tell 108 = .ok (.bipush 120, 2) := by decide +kernel
theorem dX8_tell_110 : decode cX8_tell 110 = .ok (.iload_n 3, 1) := by decide +kernel
theorem dX8_tell_111 : decode cX8_tell 111 = .ok (.iadd, 1) := by decide +kernel
theorem dX8_tell_112 : decode cX8_tell 112 = .ok (.iaload, 1) := by decide +kernel
theorem dX8_tell_113 : decode cX8_tell 113 = .ok (.ireturn, 1) := by decide +kernel
theorem dX8_tell_114 : decode cX8_tell 114 = .ok (.aload_n 0, 1) := by decide +kernel
theorem dX8_tell_115 : decode cX8_tell 115 = .ok (.getfield 16, 3) := by decide +kernel
theorem dX8_tell_118 : decode cX8_tell 118 = .ok (.sipush 180, 3) := by decide +kernel
theorem dX8_tell_121 : decode cX8_tell 121 = .ok (.iload_n 3, 1) := by decide +kernel
theorem dX8_tell_122 : decode cX8_tell 122 = .ok (.iadd, 1) := by decide +kernel
theorem dX8_tell_123 : decode cX8_tell 123 = .ok (.iaload, 1) := by decide +kernel
theorem dX8_tell_124 : decode cX8_tell 124 = .ok (.ireturn, 1) := by decide +kernel
theorem dX8_tell_125 : decode cX8_tell 125 = .ok (.aload_n 0, 1) := by decide +kernel
theorem dX8_tell_126 : decode cX8_tell 126 = .ok (.getfield 16, 3) := by decide +kernel
theorem dX8_tell_129 : decode cX8_tell 129 = .ok (.sipush 240, 3) := by decide +kernel
theorem dX8_tell_132 : decode cX8_tell 132 = .ok (.iload_n 3, 1) := by decide +kernel
theorem dX8_tell_133 : decode cX8_tell 133 = .ok (.iadd, 1) := by decide +kernel
theorem dX8_tell_134 : decode cX8_tell 134 = .ok (.iaload, 1) := by decide +kernel
theorem dX8_tell_135 : decode cX8_tell 135 = .ok (.ireturn, 1) := by decide +kernel
theorem dX8_tell_136 : decode cX8_tell 136 = .ok (.aload_n 0, 1) := by decide +kernel
theorem dX8_tell_137 : decode cX8_tell 137 = .ok (.getfield 16, 3) := by decide +kernel
theorem dX8_tell_140 : decode cX8_tell 140 = .ok (.sipush 300, 3) := by decide +kernel
theorem dX8_tell_143 : decode cX8_tell 143 = .ok (.iload_n 3, 1) := by decide +kernel
theorem dX8_tell_144 : decode cX8_tell 144 = .ok (.iadd, 1) := by decide +kernel
theorem dX8_tell_145 : decode cX8_tell 145 = .ok (.iaload, 1) := by decide +kernel
theorem dX8_tell_146 : decode cX8_tell 146 = .ok (.ireturn, 1) := by decide +kernel
theorem dX8_tell_147 : decode cX8_tell 147 = .ok (.aload_n 0, 1) := by decide +kernel
theorem dX8_tell_148 : decode cX8_tell 148 = .ok (.getfield 16, 3) := by decide +kernel
theorem dX8_tell_151 : decode cX8_tell 151 = .ok (.sipush 360, 3) := by decide +kernel
theorem dX8_tell_154 : decode cX8_tell 154 = .ok (.iload_n 3, 1) := by decide +kernel
theorem dX8_tell_155 : decode cX8_tell 155 = .ok (.iadd, 1) := by decide +kernel
theorem dX8_tell_156 : decode cX8_tell 156 = .ok (.iaload, 1) := by decide +kernel
theorem dX8_tell_157 : decode cX8_tell 157 = .ok (.ireturn, 1) := by decide +kernel
theorem dX8_tell_158 : decode cX8_tell 158 = .ok (.aload_n 0, 1) := by decide +kernel
theorem dX8_tell_159 : decode cX8_tell 159 = .ok (.aload_n 0, 1) := by decide +kernel
theorem dX8_tell_160 : decode cX8_tell 160 = .ok (.iload_n 3, 1) := by decide +kernel
theorem dX8_tell_161 : decode cX8_tell 161 = .ok (.invokevirtual 78, 3) := by decide +kernel
theorem dX8_tell_164 : decode cX8_tell 164 = .ok (.invokevirtual 65, 3) := by decide +kernel
theorem dX8_tell_167 : decode cX8_tell 167 = .ok (.ifCond .eq 11, 3) := by decide +kernel
theorem dX8_tell_170 : decode cX8_tell 170 = .ok (.aload_n 0, 1) := by decide +kernel
theorem dX8_tell_171 : decode cX8_tell 171 = .ok (.iload_n 3, 1) := by decide +kernel
theorem dX8_tell_172 : decode cX8_tell 172 = .ok (.invokevirtual 225, 3) := by decide +kernel
theorem dX8_tell_175 : decode cX8_tell 175 = .ok (.goto 4, 3) := by decide +kernel
theorem dX8_tell_178 : decode cX8_tell 178 = .ok (.iconst 0, 1) := by decide +kernel
theorem dX8_tell_179 : decode cX8_tell 179 = .ok (.ireturn, 1) := by decide +kernel
theorem dX8_tell_180 : decode cX8_tell 180 = .ok (.aload_n 0, 1) := by decide +kernel
theorem dX8_tell_181 : decode cX8_tell 181 = .ok (.getfield 16, 3) := by decide +kernel
theorem dX8_tell_184 : decode cX8_tell 184 = .ok (.sipush 420, 3) := by decide +kernel
theorem dX8_tell_187 : decode cX8_tell 187 = .ok (.iload_n 3, 1) := by decide +kernel
theorem dX8_tell_188 : decode cX8_tell 188 = .ok (.iadd, 1) := by decide +kernel
theorem dX8_tell_189 : decode cX8_tell 189 = .ok (.iaload, 1) := by decide +kernel
theorem dX8_tell_190 : decode cX8_tell 190 = .ok (.ireturn, 1) := by decide +kernel
theorem dX8_tell_191 : decode cX8_tell 191 = .ok (.aload_n 0, 1) := by decide +kernel
theorem dX8_tell_192 : decode cX8_tell 192 = .ok (.getfield 16, 3) := by decide +kernel
theorem dX8_tell_195 : decode cX8_tell 195 = .ok (.sipush 480, 3) := by decide +kernel
theorem dX8_tell_198 : decode cX8_tell 198 = .ok (.iload_n 3, 1) := by decide +kernel
theorem dX8_tell_199 : decode cX8_tell 199 = .ok (.iadd, 1) := by decide +kernel
theorem dX8_tell_200 : decode cX8_tell 200 = .ok (.iaload, 1) := by decide +kernel
theorem dX8_tell_201 : decode cX8_tell 201 = .ok (.ireturn, 1) := by decide +kernel
theorem dX8_why_0 : decode cX8_why 0 = .ok (.aload_n 0, 1) := by decide +kernel
theorem dX8_why_1 : decode cX8_why 1 = .ok (.getfield 71, 3) := by decide +kernel
theorem dX8_why_4 : decode cX8_why 4 = .ok (.ireturn, 1) := by decide +kernel
end
section
theorem dJ9_abs_0f7a4_0 : decode cJ9_abs_0f7a4 0 = .ok (.iload_n 0, 1) := by decide +kernel
theorem dJ9_abs_0f7a4_1 : decode cJ9_abs_0f7a4 1 = .ok (.ifCond .ge 8, 3) := by decide +kernel
theorem dJ9_abs_0f7a4_4 : decode cJ9_abs_0f7a4 4 = .ok (.iload_n 0, 1) := by decide +kernel
theorem dJ9_abs_0f7a4_5 : decode cJ9_abs_0f7a4 5 = .ok (.ineg, 1) := by decide +kernel
theorem dJ9_abs_0f7a4_6 : decode cJ9_abs_0f7a4 6 = .ok (.goto 4, 3) := by decide +kernel
theorem dJ9_abs_0f7a4_9 : decode cJ9_abs_0f7a4 9 = .ok (.iload_n 0, 1) := by decide +kernel
theorem dJ9_abs_0f7a4_10 : decode cJ9_abs_0f7a4 10 = .ok (.ireturn, 1) := by decide +kernel
theorem dJ9_max_7cf53_0 : decode cJ9_max_7cf53 0 = .ok (.iload_n 0, 1) := by decide +kernel
theorem dJ9_max_7cf53_1 : decode cJ9_max_7cf53 1 = .ok (.iload_n 1, 1) := by decide +kernel
theorem dJ9_max_7cf53_2 : decode cJ9_max_7cf53 2 = .ok (.if_icmp .lt 7, 3) := by decide +kernel
theorem dJ9_max_7cf53_5 : decode cJ9_max_7cf53 5 = .ok (.iload_n 0, 1) := by decide +kernel
theorem dJ9_max_7cf53_6 : decode cJ9_max_7cf53 6 = .ok (.goto 4, 3) := by decide +kernel
theorem dJ9_max_7cf53_9 : decode cJ9_max_7cf53 9 = .ok (.iload_n 1, 1) := by decide +kernel
theorem dJ9_max_7cf53_10 : decode cJ9_max_7cf53 10 = .ok (.ireturn, 1) := by decide +kernel
theorem dJ9_min_7cf53_0 : decode cJ9_min_7cf53 0 = .ok (.iload_n 0, 1) := by decide +kernel
theorem dJ9_min_7cf53_1 : decode cJ9_min_7cf53 1 = .ok (.iload_n 1, 1) := by decide +kernel
theorem dJ9_min_7cf53_2 : decode cJ9_min_7cf53 2 = .ok (.if_icmp .gt 7, 3) := by decide +kernel
theorem dJ9_min_7cf53_5 : decode cJ9_min_7cf53 5 = .ok (.iload_n 0, 1) := by decide +kernel
theorem dJ9_min_7cf53_6 : decode cJ9_min_7cf53 6 = .ok (.goto 4, 3) := by decide +kernel
theorem dJ9_min_7cf53_9 : decode cJ9_min_7cf53 9 = .ok (.iload_n 1, 1) := by decide +kernel
theorem dJ9_min_7cf53_10 : decode cJ9_min_7cf53 10 = .ok (.ireturn, 1) := by decide +kernel
theorem dX0_init_0 : decode cX0_init 0 = .ok (.aload_n 0, 1) := by decide +kernel
theorem dX0_init_1 : decode cX0_init 1 = .ok (.invokespecial 3, 3) := by decide +kernel
theorem dX0_init_4 : decode cX0_init 4 = .ok (.aload_n 0, 1) := by decide +kernel
theorem dX0_init_5 : decode cX0_init 5 = .ok (.sipush 144, 3) := by decide +kernel
theorem dX0_init_8 : decode cX0_init 8 = .ok (.newarray .int, 2) := by decide +kernel
theorem dX0_init_10 : decode cX0_init 10 = .ok (.putfield 9, 3) := by decide +kernel
theorem dX0_init_13 : decode cX0_init 13 = .ok (.aload_n 0, 1) := by decide +kernel
theorem dX0_init_14 : decode cX0_init 14 = .ok (.iconst 0, 1) := by decide +kernel
theorem dX0_init_15 : decode cX0_init 15 = .ok (.putfield 15, 3) := by decide +kernel
theorem dX0_init_18 : decode cX0_init 18 = .ok (.return_, 1) := by decide +kernel
theorem dX0_partAt_0 : decode cX0_partAt 0 = .ok (.iload_n 1, 1) := by decide +kernel
theorem dX0_partAt_1 : decode cX0_partAt 1 = .ok (.ifCond .lt 29, 3) := by decide +kernel
theorem dX0_partAt_4 : decode cX0_partAt 4 = .ok (.iload_n 1, 1) := by decide +kernel
theorem dX0_partAt_5 : decode cX0_partAt 5 = .ok (.aload_n 0, 1) := by decide +kernel
theorem dX0_partAt_6 : decode cX0_partAt 6 = .ok (.getfield 15, 3) := by decide +kernel
theorem dX0_partAt_9 : decode cX0_partAt 9 = .ok (.if_icmp .ge 21, 3) := by decide +kernel
theorem dX0_partAt_12 : decode cX0_partAt 12 = .ok (.iload_n 1, 1) := by decide +kernel
theorem dX0_partAt_13 : decode cX0_partAt 13 = .ok (.aload_n 0, 1) := by decide +kernel
theorem dX0_partAt_14 : decode cX0_partAt 14 = .ok (.getfield 9, 3) := by decide +kernel
theorem dX0_partAt_17 : decode cX0_partAt 17 = .ok (.arraylength, 1) := by decide +kernel
theorem dX0_partAt_18 : decode cX0_partAt 18 = .ok (.if_icmp .ge 12, 3) := by decide +kernel
theorem dX0_partAt_21 : decode cX0_partAt 21 = .ok (.aload_n 0, 1) := by decide +kernel
theorem dX0_partAt_22 : decode cX0_partAt 22 = .ok (.getfield 9, 3) := by decide +kernel
theorem dX0_partAt_25 : decode cX0_partAt 25 = .ok (.iload_n 1, 1) := by decide +kernel
theorem dX0_partAt_26 : decode cX0_partAt 26 = .ok (.iaload, 1) := by decide +kernel
theorem dX0_partAt_27 : decode cX0_partAt 27 = .ok (.goto 4, 3) := by decide +kernel
theorem dX0_partAt_30 : decode cX0_partAt 30 = .ok (.iconst (-1), 1) := by decide +kernel
theorem dX0_partAt_31 : decode cX0_partAt 31 = .ok (.ireturn, 1) := by decide +kernel
theorem dX0_lineUp_0 : decode cX0_lineUp 0 = .ok (.aload_n 0, 1) := by decide +kernel
theorem dX0_lineUp_1 : decode cX0_lineUp 1 = .ok (.iconst 0, 1) := by decide +kernel
theorem dX0_lineUp_2 : decode cX0_lineUp 2 = .ok (.putfield 15, 3) := by decide +kernel
theorem dX0_lineUp_5 : decode cX0_lineUp 5 = .ok (.aload_n 1, 1) := by decide +kernel
theorem dX0_lineUp_6 : decode cX0_lineUp 6 = .ok (.iload_n 2, 1) := by decide +kernel
theorem dX0_lineUp_7 : decode cX0_lineUp 7 = .ok (.ldc 19, 2) := by decide +kernel
theorem dX0_lineUp_9 : decode cX0_lineUp 9 = .ok (.invokevirtual 20, 3) := by decide +kernel
theorem dX0_lineUp_12 : decode cX0_lineUp 12 = .ok (.ifCond .ne 10, 3) := by decide +kernel
theorem dX0_lineUp_15 : decode cX0_lineUp 15 = .ok (.aload_n 0, 1) := by decide +kernel
theorem dX0_lineUp_16 : decode cX0_lineUp 16 = .ok (.aload_n 1, 1) := by decide +kernel
theorem dX0_lineUp_17 : decode cX0_lineUp 17 = .ok (.iload_n 2, 1) := by decide +kernel
theorem dX0_lineUp_18 : decode cX0_lineUp 18 = .ok (.invokevirtual 26, 3) := by decide +kernel
theorem dX0_lineUp_21 : decode cX0_lineUp 21 = .ok (.return_, 1) := by decide +kernel
theorem dX0_lineUp_22 : decode cX0_lineUp 22 = .ok (.iconst 0, 1) := by decide +kernel
theorem dX0_lineUp_23 : decode cX0_lineUp 23 = .ok (.istore_n 3, 1) := by decide +kernel
theorem dX0_lineUp_24 : decode cX0_lineUp 24 = .ok (.iload_n 3, 1) := by decide +kernel
theorem dX0_lineUp_25 : decode cX0_lineUp 25 = .ok (.aload_n 1, 1) := by decide +kernel
theorem dX0_lineUp_26 : decode cX0_lineUp 26 = .ok (.iload_n 2, 1) := by decide +kernel
theorem dX0_lineUp_27 : decode cX0_lineUp 27 = .ok (.invokevirtual 30, 3) := by decide +kernel
theorem dX0_lineUp_30 : decode cX0_lineUp 30 = .ok (.if_icmp .ge 21, 3) := by decide +kernel
theorem dX0_lineUp_33 : decode cX0_lineUp 33 = .ok (.aload_n 0, 1) := by decide +kernel
theorem dX0_lineUp_34 : decode cX0_lineUp 34 = .ok (.aload_n 1, 1) := by decide +kernel
theorem dX0_lineUp_35 : decode cX0_lineUp 35 = .ok (.aload_n 1, 1) := by decide +kernel
theorem dX0_lineUp_36 : decode cX0_lineUp 36 = .ok (.iload_n 2, 1) := by decide +kernel
theorem dX0_lineUp_37 : decode cX0_lineUp 37 = .ok (.iload_n 3, 1) := by decide +kernel
theorem dX0_lineUp_38 : decode cX0_lineUp 38 = .ok (.invokevirtual 34, 3) := by decide +kernel
theorem dX0_lineUp_41 : decode cX0_lineUp 41 = .ok (.l2i, 1) := by decide +kernel
theorem dX0_lineUp_42 : decode cX0_lineUp 42 = .ok (.invokevirtual 26, 3) := by decide +kernel
theorem dX0_lineUp_45 : decode cX0_lineUp 45 = .ok (.iinc 3 1, 3) := by decide +kernel
theorem dX0_lineUp_48 : decode cX0_lineUp 48 = .ok (.goto (-24), 3) := by decide +kernel
theorem dX0_lineUp_51 : decode cX0_lineUp 51 = .ok (.return_, 1) := by decide +kernel
theorem dX0_addPartsOf_0 : decode cX0_addPartsOf 0 = .ok (.aload_n 1, 1) := by decide +kernel
theorem dX0_addPartsOf_1 : decode cX0_addPartsOf 1 = .ok (.iload_n 2, 1) := by decide +kernel
theorem dX0_addPartsOf_2 : decode cX0_addPartsOf 2 = .ok (.iconst 1, 1) := by decide +kernel
theorem dX0_addPartsOf_3 : decode cX0_addPartsOf 3 = .ok (.invokevirtual 20, 3) := by decide +kernel
theorem dX0_addPartsOf_6 : decode cX0_addPartsOf 6 = .ok (.ifCond .eq 9, 3) := by decide +kernel
theorem dX0_addPartsOf_9 : decode cX0_addPartsOf 9 = .ok (.aload_n 0, 1) := by decide +kernel
theorem dX0_addPartsOf_10 : decode cX0_addPartsOf 10 = .ok (.iload_n 2, 1) := by decide +kernel
theorem dX0_addPartsOf_11 : decode cX0_addPartsOf 11 = .ok (.invokevirtual 38, 3) := by decide +kernel
theorem dX0_addPartsOf_14 : decode cX0_addPartsOf 14 = .ok (.return_, 1) := by decide +kernel
theorem dX0_addPartsOf_15 : decode cX0_addPartsOf 15 = .ok (.iconst 0, 1) := by decide +kernel
theorem dX0_addPartsOf_16 : decode cX0_addPartsOf 16 = .ok (.istore_n 3, 1) := by decide +kernel
theorem dX0_addPartsOf_17 : decode cX0_addPartsOf 17 = .ok (.iload_n 3, 1) := by decide +kernel
theorem dX0_addPartsOf_18 : decode cX0_addPartsOf 18 = .ok (.aload_n 1, 1) := by decide +kernel
theorem dX0_addPartsOf_19 : decode cX0_addPartsOf 19 = .ok (.iload_n 2, 1) := by decide +kernel
theorem dX0_addPartsOf_20 : decode cX0_addPartsOf 20 = .ok (.invokevirtual 30, 3) := by decide +kernel
theorem dX0_addPartsOf_23 : decode cX0_addPartsOf 23 = .ok (.if_icmp .ge 20, 3) := by decide +kernel
theorem dX0_addPartsOf_26 : decode cX0_addPartsOf 26 = .ok (.aload_n 0, 1) := by decide +kernel
theorem dX0_addPartsOf_27 : decode cX0_addPartsOf 27 = .ok (.aload_n 1, 1) := by decide +kernel
theorem dX0_addPartsOf_28 : decode cX0_addPartsOf 28 = .ok (.iload_n 2, 1) := by decide +kernel
theorem dX0_addPartsOf_29 : decode cX0_addPartsOf 29 = .ok (.iload_n 3, 1) := by decide +kernel
theorem dX0_addPartsOf_30 : decode cX0_addPartsOf 30 = .ok (.invokevirtual 34, 3) := by decide +kernel
theorem dX0_addPartsOf_33 : decode cX0_addPartsOf 33 = .ok (.l2i, 1) := by decide +kernel
theorem dX0_addPartsOf_34 : decode cX0_addPartsOf 34 = .ok (.invokevirtual 38, 3) := by decide +kernel
theorem dX0_addPartsOf_37 : decode cX0_addPartsOf 37 = .ok (.iinc 3 1, 3) := by decide +kernel
theorem dX0_addPartsOf_40 : decode cX0_addPartsOf 40 = .ok (.goto (-23), 3) := by decide +kernel
theorem dX0_addPartsOf_43 : decode cX0_addPartsOf 43 = .ok (.return_, 1) := by decide +kernel
theorem dX0_add_0 : decode cX0_add 0 = .ok (.iload_n 1, 1) := by decide +kernel
theorem dX0_add_1 : decode cX0_add 1 = .ok (.iconst (-1), 1) := by decide +kernel
theorem dX0_add_2 : decode cX0_add 2 = .ok (.if_icmp .eq 35, 3) := by decide +kernel
theorem dX0_add_5 : decode cX0_add 5 = .ok (.aload_n 0, 1) := by decide +kernel
theorem dX0_add_6 : decode cX0_add 6 = .ok (.getfield 15, 3) := by decide +kernel
theorem dX0_add_9 : decode cX0_add 9 = .ok (.aload_n 0, 1) := by decide +kernel
theorem dX0_add_10 : decode cX0_add 10 = .ok (.getfield 9, 3) := by decide +kernel
theorem dX0_add_13 : decode cX0_add 13 = .ok (.arraylength, 1) := by decide +kernel
theorem dX0_add_14 : decode cX0_add 14 = .ok (.if_icmp .ge 23, 3) := by decide +kernel
theorem dX0_add_17 : decode cX0_add 17 = .ok (.aload_n 0, 1) := by decide +kernel
theorem dX0_add_18 : decode cX0_add 18 = .ok (.getfield 9, 3) := by decide +kernel
theorem dX0_add_21 : decode cX0_add 21 = .ok (.aload_n 0, 1) := by decide +kernel
theorem dX0_add_22 : decode cX0_add 22 = .ok (.getfield 15, 3) := by decide +kernel
theorem dX0_add_25 : decode cX0_add 25 = .ok (.iload_n 1, 1) := by decide +kernel
theorem dX0_add_26 : decode cX0_add 26 = .ok (.iastore, 1) := by decide +kernel
theorem dX0_add_27 : decode cX0_add 27 = .ok (.aload_n 0, 1) := by decide +kernel
theorem dX0_add_28 : decode cX0_add 28 = .ok (.dup, 1) := by decide +kernel
theorem dX0_add_29 : decode cX0_add 29 = .ok (.getfield 15, 3) := by decide +kernel
theorem dX0_add_32 : decode cX0_add 32 = .ok (.iconst 1, 1) := by decide +kernel
theorem dX0_add_33 : decode cX0_add 33 = .ok (.iadd, 1) := by decide +kernel
theorem dX0_add_34 : decode cX0_add 34 = .ok (.putfield 15, 3) := by decide +kernel
theorem dX0_add_37 : decode cX0_add 37 = .ok (.return_, 1) := by decide +kernel
theorem dX1_init_0 : decode cX1_init 0 = .ok (.aload_n 0, 1) := by decide +kernel
theorem dX1_init_1 : decode cX1_init 1 = .ok (.invokespecial 1, 3) := by decide +kernel
theorem dX1_init_4 : decode cX1_init 4 = .ok (.aload_n 0, 1) := by decide +kernel
theorem dX1_init_5 : decode cX1_init 5 = .ok (.iload_n 1, 1) := by decide +kernel
theorem dX1_init_6 : decode cX1_init 6 = .ok (.iconst 0, 1) := by decide +kernel
theorem dX1_init_7 : decode cX1_init 7 = .ok (.invokestatic 7, 3) := by decide +kernel
theorem dX1_init_10 : decode cX1_init 10 = .ok (.putfield 13, 3) := by decide +kernel
theorem dX1_init_13 : decode cX1_init 13 = .ok (.aload_n 0, 1) := by decide +kernel
theorem dX1_init_14 : decode cX1_init 14 = .ok (.aload_n 0, 1) := by decide +kernel
theorem dX1_init_15 : decode cX1_init 15 = .ok (.getfield 13, 3) := by decide +kernel
theorem dX1_init_18 : decode cX1_init 18 = .ok (.newarray .int, 2) := by decide +kernel
theorem dX1_init_20 : decode cX1_init 20 = .ok (.putfield 19, 3) := by decide +kernel
theorem dX1_init_23 : decode cX1_init 23 = .ok (.aload_n 0, 1) := by decide +kernel
theorem dX1_init_24 : decode cX1_init 24 = .ok (.aload_n 0, 1) := by decide +kernel
theorem dX1_init_25 : decode cX1_init 25 = .ok (.getfield 13, 3) := by decide +kernel
theorem dX1_init_28 : decode cX1_init 28 = .ok (.newarray .long, 2) := by decide +kernel
theorem dX1_init_30 : decode cX1_init 30 = .ok (.putfield 23, 3) := by decide +kernel
theorem dX1_init_33 : decode cX1_init 33 = .ok (.aload_n 0, 1) := by decide +kernel
theorem dX1_init_34 : decode cX1_init 34 = .ok (.aload_n 2, 1) := by decide +kernel
theorem dX1_init_35 : decode cX1_init 35 = .ok (.putfield 27, 3) := by decide +kernel
theorem dX1_init_38 : decode cX1_init 38 = .ok (.return_, 1) := by decide +kernel
theorem dX2_isKind_0 : decode cX2_isKind 0 = .ok (.iload_n 0, 1) := by decide +kernel
theorem dX2_isKind_1 : decode cX2_isKind 1 = .ok (.ifCond .lt 15, 3) := by decide +kernel
theorem dX2_isKind_4 : decode cX2_isKind 4 = .ok (.iload_n 0, 1) := by decide +kernel
theorem dX2_isKind_5 : decode cX2_isKind 5 = .ok (.getstatic 9, 3) := by decide +kernel
theorem dX2_isKind_8 : decode cX2_isKind 8 = .ok (.arraylength, 1) := by decide +kernel
theorem dX2_isKind_9 : decode cX2_isKind 9 = .ok (.if_icmp .ge 7, 3) := by decide +kernel
theorem dX2_isKind_12 : decode cX2_isKind 12 = .ok (.iconst 1, 1) := by decide +kernel
theorem dX2_isKind_13 : decode cX2_isKind 13 = .ok (.goto 4, 3) := by decide +kernel
theorem dX2_isKind_16 : decode cX2_isKind 16 = .ok (.iconst 0, 1) := by decide +kernel
theorem dX2_isKind_17 : decode cX2_isKind 17 = .ok (.ireturn, 1) := by decide +kernel
theorem dX2_isMade_0 : decode cX2_isMade 0 = .ok (.iload_n 0, 1) := by decide +kernel
theorem dX2_isMade_1 : decode cX2_isMade 1 = .ok (.invokestatic 15, 3) := by decide +kernel
theorem dX2_isMade_4 : decode cX2_isMade 4 = .ok (.ifCond .eq 13, 3) := by decide +kernel
theorem dX2_isMade_7 : decode cX2_isMade 7 = .ok (.iload_n 0, 1) := by decide +kernel
theorem dX2_isMade_8 : decode cX2_isMade 8 = .ok (.bipush 12, 2) := by decide +kernel
theorem dX2_isMade_10 : decode cX2_isMade 10 = .ok (.if_icmp .eq 7, 3) := by decide +kernel
theorem dX2_isMade_13 : decode cX2_isMade 13 = .ok (.iconst 1, 1) := by decide +kernel
theorem dX2_isMade_14 : decode cX2_isMade 14 = .ok (.goto 4, 3) := by decide +kernel
theorem dX2_isMade_17 : decode cX2_isMade 17 = .ok (.iconst 0, 1) := by decide +kernel
theorem dX2_isMade_18 : decode cX2_isMade 18 = .ok (.ireturn, 1) := by decide +kernel
theorem dX2_isUnderAny_0 : decode cX2_isUnderAny 0 = .ok (.iload_n 0, 1) := by decide +kernel
theorem dX2_isUnderAny_1 : decode cX2_isUnderAny 1 = .ok (.ifCond .lt 25, 3) := by decide +kernel
theorem dX2_isUnderAny_4 : decode cX2_isUnderAny 4 = .ok (.iload_n 0, 1) := by decide +kernel
theorem dX2_isUnderAny_5 : decode cX2_isUnderAny 5 = .ok (.getstatic 9, 3) := by decide +kernel
theorem dX2_isUnderAny_8 : decode cX2_isUnderAny 8 = .ok (.arraylength, 1) := by decide +kernel
theorem dX2_isUnderAny_9 : decode cX2_isUnderAny 9 = .ok (.if_icmp .ge 17, 3) := by decide +kernel
theorem dX2_isUnderAny_12 : decode cX2_isUnderAny 12 = .ok (.getstatic 9, 3) := by decide +kernel
theorem dX2_isUnderAny_15 : decode cX2_isUnderAny 15 = .ok (.iload_n 0, 1) := by decide +kernel
theorem dX2_isUnderAny_16 : decode cX2_isUnderAny 16 = .ok (.iaload, 1) := by decide +kernel
theorem dX2_isUnderAny_17 : decode cX2_isUnderAny 17 = .ok (.iload_n 1, 1) := by decide +kernel
theorem dX2_isUnderAny_18 : decode cX2_isUnderAny 18 = .ok (.iand, 1) := by decide +kernel
theorem dX2_isUnderAny_19 : decode cX2_isUnderAny 19 = .ok (.ifCond .eq 7, 3) := by decide +kernel
theorem dX2_isUnderAny_22 : decode cX2_isUnderAny 22 = .ok (.iconst 1, 1) := by decide +kernel
theorem dX2_isUnderAny_23 : decode cX2_isUnderAny 23 = .ok (.goto 4, 3) := by decide +kernel
theorem dX2_isUnderAny_26 : decode cX2_isUnderAny 26 = .ok (.iconst 0, 1) := by decide +kernel
theorem dX2_isUnderAny_27 : decode cX2_isUnderAny 27 = .ok (.ireturn, 1) := by decide +kernel
theorem dX2_fittingIn_0 : decode cX2_fittingIn 0 = .ok (.iload_n 0, 1) := by decide +kernel
theorem dX2_fittingIn_1 : decode cX2_fittingIn 1 = .ok (.bipush 16, 2) := by decide +kernel
theorem dX2_fittingIn_3 : decode cX2_fittingIn 3 = .ok (.if_icmp .lt 27, 3) := by decide +kernel
theorem dX2_fittingIn_6 : decode cX2_fittingIn 6 = .ok (.iload_n 0, 1) := by decide +kernel
theorem dX2_fittingIn_7 : decode cX2_fittingIn 7 = .ok (.bipush 16, 2) := by decide +kernel
theorem dX2_fittingIn_9 : decode cX2_fittingIn 9 = .ok (.isub, 1) := by decide +kernel
theorem dX2_fittingIn_10 : decode cX2_fittingIn 10 = .ok (.getstatic 19, 3) := by decide +kernel
theorem dX2_fittingIn_13 : decode cX2_fittingIn 13 = .ok (.arraylength, 1) := by decide +kernel
theorem dX2_fittingIn_14 : decode cX2_fittingIn 14 = .ok (.if_icmp .ge 16, 3) := by decide +kernel
theorem dX2_fittingIn_17 : decode cX2_fittingIn 17 = .ok (.iconst 1, 1) := by decide +kernel
theorem dX2_fittingIn_18 : decode cX2_fittingIn 18 = .ok (.getstatic 19, 3) := by decide +kernel
theorem dX2_fittingIn_21 : decode cX2_fittingIn 21 = .ok (.iload_n 0, 1) := by decide +kernel
theorem dX2_fittingIn_22 : decode cX2_fittingIn 22 = .ok (.bipush 16, 2) := by decide +kernel
theorem dX2_fittingIn_24 : decode cX2_fittingIn 24 = .ok (.isub, 1) := by decide +kernel
theorem dX2_fittingIn_25 : decode cX2_fittingIn 25 = .ok (.iaload, 1) := by decide +kernel
theorem dX2_fittingIn_26 : decode cX2_fittingIn 26 = .ok (.ishl, 1) := by decide +kernel
theorem dX2_fittingIn_27 : decode cX2_fittingIn 27 = .ok (.goto 4, 3) := by decide +kernel
theorem dX2_fittingIn_30 : decode cX2_fittingIn 30 = .ok (.iconst 0, 1) := by decide +kernel
theorem dX2_fittingIn_31 : decode cX2_fittingIn 31 = .ok (.ireturn, 1) := by decide +kernel
theorem dX2_isCopied_0 : decode cX2_isCopied 0 = .ok (.iload_n 0, 1) := by decide +kernel
theorem dX2_isCopied_1 : decode cX2_isCopied 1 = .ok (.ldc 22, 2) := by decide +kernel
theorem dX2_isCopied_3 : decode cX2_isCopied 3 = .ok (.invokestatic 23, 3) := by decide +kernel
theorem dX2_isCopied_6 : decode cX2_isCopied 6 = .ok (.ifCond .eq 14, 3) := by decide +kernel
theorem dX2_isCopied_9 : decode cX2_isCopied 9 = .ok (.iload_n 0, 1) := by decide +kernel
theorem dX2_isCopied_10 : decode cX2_isCopied 10 = .ok (.iload_n 1, 1) := by decide +kernel
theorem dX2_isCopied_11 : decode cX2_isCopied 11 = .ok (.if_icmp .ne 7, 3) := by decide +kernel
theorem dX2_isCopied_14 : decode cX2_isCopied 14 = .ok (.iconst 1, 1) := by decide +kernel
theorem dX2_isCopied_15 : decode cX2_isCopied 15 = .ok (.goto 4, 3) := by decide +kernel
theorem dX2_isCopied_18 : decode cX2_isCopied 18 = .ok (.iconst 0, 1) := by decide +kernel
theorem dX2_isCopied_19 : decode cX2_isCopied 19 = .ok (.ireturn, 1) := by decide +kernel
theorem dX2_isCopied_20 : decode cX2_isCopied 20 = .ok (.iload_n 0, 1) := by decide +kernel
theorem dX2_isCopied_21 : decode cX2_isCopied 21 = .ok (.ldc 27, 2) := by decide +kernel
theorem dX2_isCopied_23 : decode cX2_isCopied 23 = .ok (.invokestatic 23, 3) := by decide +kernel
theorem dX2_isCopied_26 : decode cX2_isCopied 26 = .ok (.ifCond .eq 16, 3) := by decide +kernel
theorem dX2_isCopied_29 : decode cX2_isCopied 29 = .ok (.iload_n 1, 1) := by decide +kernel
theorem dX2_isCopied_30 : decode cX2_isCopied 30 = .ok (.ldc 27, 2) := by decide +kernel
theorem dX2_isCopied_32 : decode cX2_isCopied 32 = .ok (.invokestatic 23, 3) := by decide +kernel
theorem dX2_isCopied_35 : decode cX2_isCopied 35 = .ok (.ifCond .eq 7, 3) := by decide +kernel
theorem dX2_isCopied_38 : decode cX2_isCopied 38 = .ok (.iconst 1, 1) := by decide +kernel
theorem dX2_isCopied_39 : decode cX2_isCopied 39 = .ok (.goto 4, 3) := by decide +kernel
theorem dX2_isCopied_42 : decode cX2_isCopied 42 = .ok (.iconst 0, 1) := by decide +kernel
theorem dX2_isCopied_43 : decode cX2_isCopied 43 = .ok (.ireturn, 1) := by decide +kernel
theorem dX2_asHeldIn_0 : decode cX2_asHeldIn 0 = .ok (.iload_n 0, 1) := by decide +kernel
theorem dX2_asHeldIn_1 : decode cX2_asHeldIn 1 = .ok (.lookupswitch 36 #[(13, 27), (14, 31)], 27) := by decide +kernel
theorem dX2_asHeldIn_28 : decode cX2_asHeldIn 28 = .ok (.lload_n 1, 1) := by decide +kernel
theorem dX2_asHeldIn_29 : decode cX2_asHeldIn 29 = .ok (.l2i, 1) := by decide +kernel
theorem dX2_asHeldIn_30 : decode cX2_asHeldIn 30 = .ok (.i2l, 1) := by decide +kernel
theorem dX2_asHeldIn_31 : decode cX2_asHeldIn 31 = .ok (.lreturn, 1) := by decide +kernel
theorem dX2_asHeldIn_32 : decode cX2_asHeldIn 32 = .ok (.lload_n 1, 1) := by decide +kernel
theorem dX2_asHeldIn_33 : decode cX2_asHeldIn 33 = .ok (.l2i, 1) := by decide +kernel
theorem dX2_asHeldIn_34 : decode cX2_asHeldIn 34 = .ok (.i2b, 1) := by decide +kernel
theorem dX2_asHeldIn_35 : decode cX2_asHeldIn 35 = .ok (.i2l, 1) := by decide +kernel
theorem dX2_asHeldIn_36 : decode cX2_asHeldIn 36 = .ok (.lreturn, 1) := by decide +kernel
theorem dX2_asHeldIn_37 : decode cX2_asHeldIn 37 = .ok (.lload_n 1, 1) := by decide +kernel
theorem dX2_asHeldIn_38 : decode cX2_asHeldIn 38 = .ok (.lreturn, 1) := by decide +kernel
theorem dX3_init_0 : decode cX3_init 0 = .ok (.aload_n 0, 1) := by decide +kernel
theorem dX3_init_1 : decode cX3_init 1 = .ok (.invokespecial 1, 3) := by decide +kernel
theorem dX3_init_4 : decode cX3_init 4 = .ok (.aload_n 0, 1) := by decide +kernel
theorem dX3_init_5 : decode cX3_init 5 = .ok (.iload_n 1, 1) := by decide +kernel
theorem dX3_init_6 : decode cX3_init 6 = .ok (.putfield 7, 3) := by decide +kernel
theorem dX3_init_9 : decode cX3_init 9 = .ok (.aload_n 0, 1) := by decide +kernel
theorem dX3_init_10 : decode cX3_init 10 = .ok (.iload_n 2, 1) := by decide +kernel
theorem dX3_init_11 : decode cX3_init 11 = .ok (.putfield 13, 3) := by decide +kernel
theorem dX3_init_14 : decode cX3_init 14 = .ok (.aload_n 0, 1) := by decide +kernel
theorem dX3_init_15 : decode cX3_init 15 = .ok (.iload_n 3, 1) := by decide +kernel
theorem dX3_init_16 : decode cX3_init 16 = .ok (.putfield 16, 3) := by decide +kernel
theorem dX3_init_19 : decode cX3_init 19 = .ok (.aload_n 0, 1) := by decide +kernel
theorem dX3_init_20 : decode cX3_init 20 = .ok (.lload 4, 2) := by decide +kernel
theorem dX3_init_22 : decode cX3_init 22 = .ok (.putfield 19, 3) := by decide +kernel
theorem dX3_init_25 : decode cX3_init 25 = .ok (.aload_n 0, 1) := by decide +kernel
theorem dX3_init_26 : decode cX3_init 26 = .ok (.iload 6, 2) := by decide +kernel
theorem dX3_init_28 : decode cX3_init 28 = .ok (.putfield 23, 3) := by decide +kernel
theorem dX3_init_31 : decode cX3_init 31 = .ok (.aload_n 0, 1) := by decide +kernel
theorem dX3_init_32 : decode cX3_init 32 = .ok (.iload 7, 2) := by decide +kernel
theorem dX3_init_34 : decode cX3_init 34 = .ok (.putfield 26, 3) := by decide +kernel
theorem dX3_init_37 : decode cX3_init 37 = .ok (.return_, 1) := by decide +kernel
theorem dX4_turn_0 : decode cX4_turn 0 = .ok (.aload_n 0, 1) := by decide +kernel
theorem dX4_turn_1 : decode cX4_turn 1 = .ok (.iload_n 1, 1) := by decide +kernel
theorem dX4_turn_2 : decode cX4_turn 2 = .ok (.iconst 3, 1) := by decide +kernel
theorem dX4_turn_3 : decode cX4_turn 3 = .ok (.iconst 1, 1) := by decide +kernel
theorem dX4_turn_4 : decode cX4_turn 4 = .ok (.invokevirtual 9, 3) := by decide +kernel
theorem dX4_turn_7 : decode cX4_turn 7 = .ok (.aload_n 0, 1) := by decide +kernel
theorem dX4_turn_8 : decode cX4_turn 8 = .ok (.iload_n 1, 1) := by decide +kernel
theorem dX4_turn_9 : decode cX4_turn 9 = .ok (.iconst 0, 1) := by decide +kernel
theorem dX4_turn_10 : decode cX4_turn 10 = .ok (.invokevirtual 15, 3) := by decide +kernel
theorem dX4_turn_13 : decode cX4_turn 13 = .ok (.tableswitch 97 2 10 #[51, 51, 58, 97, 97, 71, 78, 90, 90], 51) := by decide +kernel
theorem dX4_turn_64 : decode cX4_turn 64 = .ok (.aload_n 0, 1) := by decide +kernel
theorem dX4_turn_65 : decode cX4_turn 65 = .ok (.iload_n 1, 1) := by decide +kernel
theorem dX4_turn_66 : decode cX4_turn 66 = .ok (.iload_n 2, 1) := by decide +kernel
theorem dX4_turn_67 : decode cX4_turn 67 = .ok (.invokestatic 19, 3) := by decide +kernel
theorem dX4_turn_70 : decode cX4_turn 70 = .ok (.ireturn, 1) := by decide +kernel
theorem dX4_turn_71 : decode cX4_turn 71 = .ok (.aload_n 0, 1) := by decide +kernel
theorem dX4_turn_72 : decode cX4_turn 72 = .ok (.iload_n 1, 1) := by decide +kernel
theorem dX4_turn_73 : decode cX4_turn 73 = .ok (.iload_n 2, 1) := by decide +kernel
theorem dX4_turn_74 : decode cX4_turn 74 = .ok (.aload_n 0, 1) := by decide +kernel
theorem dX4_turn_75 : decode cX4_turn 75 = .ok (.iload_n 1, 1) := by decide +kernel
theorem dX4_turn_76 : decode cX4_turn 76 = .ok (.iload_n 2, 1) := by decide +kernel
theorem dX4_turn_77 : decode cX4_turn 77 = .ok (.invokestatic 19, 3) := by decide +kernel
theorem dX4_turn_80 : decode cX4_turn 80 = .ok (.invokestatic 25, 3) := by decide +kernel
theorem dX4_turn_83 : decode cX4_turn 83 = .ok (.ireturn, 1) := by decide +kernel
theorem dX4_turn_84 : decode cX4_turn 84 = .ok (.aload_n 0, 1) := by decide +kernel
theorem dX4_turn_85 : decode cX4_turn 85 = .ok (.iload_n 1, 1) := by decide +kernel
theorem dX4_turn_86 : decode cX4_turn 86 = .ok (.iload_n 2, 1) := by decide +kernel
theorem dX4_turn_87 : decode cX4_turn 87 = .ok (.invokestatic 29, 3) := by decide +kernel
theorem dX4_turn_90 : decode cX4_turn 90 = .ok (.ireturn, 1) := by decide +kernel
theorem dX4_turn_91 : decode cX4_turn 91 = .ok (.aload_n 0, 1) := by decide +kernel
theorem dX4_turn_92 : decode cX4_turn 92 = .ok (.iload_n 1, 1) := by decide +kernel
theorem dX4_turn_93 : decode cX4_turn 93 = .ok (.aload_n 0, 1) := by decide +kernel
theorem dX4_turn_94 : decode cX4_turn 94 = .ok (.iload_n 1, 1) := by decide +kernel
theorem dX4_turn_95 : decode cX4_turn 95 = .ok (.iload_n 2, 1) := by decide +kernel
theorem dX4_turn_96 : decode cX4_turn 96 = .ok (.invokestatic 29, 3) := by decide +kernel
theorem dX4_turn_99 : decode cX4_turn 99 = .ok (.invokestatic 32, 3) := by decide +kernel
theorem dX4_turn_102 : decode cX4_turn 102 = .ok (.ireturn, 1) := by decide +kernel
theorem dX4_turn_103 : decode cX4_turn 103 = .ok (.aload_n 0, 1) := by decide +kernel
theorem dX4_turn_104 : decode cX4_turn 104 = .ok (.iload_n 1, 1) := by decide +kernel
theorem dX4_turn_105 : decode cX4_turn 105 = .ok (.iload_n 2, 1) := by decide +kernel
theorem dX4_turn_106 : decode cX4_turn 106 = .ok (.invokestatic 35, 3) := by decide +kernel
theorem dX4_turn_109 : decode cX4_turn 109 = .ok (.ireturn, 1) := by decide +kernel
theorem dX4_turn_110 : decode cX4_turn 110 = .ok (.iload_n 2, 1) := by decide +kernel
theorem dX4_turn_111 : decode cX4_turn 111 = .ok (.ireturn, 1) := by decide +kernel
theorem dX4_clip_0 : decode cX4_clip 0 = .ok (.aload_n 0, 1) := by decide +kernel
theorem dX4_clip_1 : decode cX4_clip 1 = .ok (.iload_n 1, 1) := by decide +kernel
theorem dX4_clip_2 : decode cX4_clip 2 = .ok (.iconst 2, 1) := by decide +kernel
theorem dX4_clip_3 : decode cX4_clip 3 = .ok (.invokevirtual 15, 3) := by decide +kernel
theorem dX4_clip_6 : decode cX4_clip 6 = .ok (.invokestatic 38, 3) := by decide +kernel
theorem dX4_clip_9 : decode cX4_clip 9 = .ok (.istore_n 3, 1) := by decide +kernel
theorem dX4_clip_10 : decode cX4_clip 10 = .ok (.iload_n 3, 1) := by decide +kernel
theorem dX4_clip_11 : decode cX4_clip 11 = .ok (.ineg, 1) := by decide +kernel
theorem dX4_clip_12 : decode cX4_clip 12 = .ok (.iload_n 3, 1) := by decide +kernel
theorem dX4_clip_13 : decode cX4_clip 13 = .ok (.iload_n 2, 1) := by decide +kernel
theorem dX4_clip_14 : decode cX4_clip 14 = .ok (.invokestatic 44, 3) := by decide +kernel
theorem dX4_clip_17 : decode cX4_clip 17 = .ok (.invokestatic 47, 3) := by decide +kernel
theorem dX4_clip_20 : decode cX4_clip 20 = .ok (.ireturn, 1) := by decide +kernel
theorem dX4_bend_0 : decode cX4_bend 0 = .ok (.iload_n 3, 1) := by decide +kernel
theorem dX4_bend_1 : decode cX4_bend 1 = .ok (.iload_n 2, 1) := by decide +kernel
theorem dX4_bend_2 : decode cX4_bend 2 = .ok (.if_icmp .eq 10, 3) := by decide +kernel
theorem dX4_bend_5 : decode cX4_bend 5 = .ok (.aload_n 0, 1) := by decide +kernel
theorem dX4_bend_6 : decode cX4_bend 6 = .ok (.iload_n 1, 1) := by decide +kernel
theorem dX4_bend_7 : decode cX4_bend 7 = .ok (.iconst 4, 1) := by decide +kernel
theorem dX4_bend_8 : decode cX4_bend 8 = .ok (.iconst 1, 1) := by decide +kernel
theorem dX4_bend_9 : decode cX4_bend 9 = .ok (.invokevirtual 9, 3) := by decide +kernel
theorem dX4_bend_12 : decode cX4_bend 12 = .ok (.iload_n 3, 1) := by decide +kernel
theorem dX4_bend_13 : decode cX4_bend 13 = .ok (.iload_n 2, 1) := by decide +kernel
theorem dX4_bend_14 : decode cX4_bend 14 = .ok (.iload_n 3, 1) := by decide +kernel
theorem dX4_bend_15 : decode cX4_bend 15 = .ok (.isub, 1) := by decide +kernel
theorem dX4_bend_16 : decode cX4_bend 16 = .ok (.iconst 2, 1) := by decide +kernel
theorem dX4_bend_17 : decode cX4_bend 17 = .ok (.ishr, 1) := by decide +kernel
theorem dX4_bend_18 : decode cX4_bend 18 = .ok (.iadd, 1) := by decide +kernel
theorem dX4_bend_19 : decode cX4_bend 19 = .ok (.ireturn, 1) := by decide +kernel
theorem dX4_echo_0 : decode cX4_echo 0 = .ok (.aload_n 0, 1) := by decide +kernel
theorem dX4_echo_1 : decode cX4_echo 1 = .ok (.iload_n 1, 1) := by decide +kernel
theorem dX4_echo_2 : decode cX4_echo 2 = .ok (.iconst 5, 1) := by decide +kernel
theorem dX4_echo_3 : decode cX4_echo 3 = .ok (.invokevirtual 15, 3) := by decide +kernel
theorem dX4_echo_6 : decode cX4_echo 6 = .ok (.istore_n 3, 1) := by decide +kernel
theorem dX4_echo_7 : decode cX4_echo 7 = .ok (.aload_n 0, 1) := by decide +kernel
theorem dX4_echo_8 : decode cX4_echo 8 = .ok (.iload_n 1, 1) := by decide +kernel
theorem dX4_echo_9 : decode cX4_echo 9 = .ok (.iconst 5, 1) := by decide +kernel
theorem dX4_echo_10 : decode cX4_echo 10 = .ok (.iload_n 2, 1) := by decide +kernel
theorem dX4_echo_11 : decode cX4_echo 11 = .ok (.invokevirtual 50, 3) := by decide +kernel
theorem dX4_echo_14 : decode cX4_echo 14 = .ok (.iload_n 2, 1) := by decide +kernel
theorem dX4_echo_15 : decode cX4_echo 15 = .ok (.iload_n 3, 1) := by decide +kernel
theorem dX4_echo_16 : decode cX4_echo 16 = .ok (.aload_n 0, 1) := by decide +kernel
theorem dX4_echo_17 : decode cX4_echo 17 = .ok (.iload_n 1, 1) := by decide +kernel
theorem dX4_echo_18 : decode cX4_echo 18 = .ok (.iconst 2, 1) := by decide +kernel
theorem dX4_echo_19 : decode cX4_echo 19 = .ok (.invokevirtual 15, 3) := by decide +kernel
theorem dX4_echo_22 : decode cX4_echo 22 = .ok (.imul, 1) := by decide +kernel
theorem dX4_echo_23 : decode cX4_echo 23 = .ok (.iconst 4, 1) := by decide +kernel
theorem dX4_echo_24 : decode cX4_echo 24 = .ok (.ishr, 1) := by decide +kernel
theorem dX4_echo_25 : decode cX4_echo 25 = .ok (.iadd, 1) := by decide +kernel
theorem dX4_echo_26 : decode cX4_echo 26 = .ok (.ireturn, 1) := by decide +kernel
theorem dX4_resound_0 : decode cX4_resound 0 = .ok (.aload_n 0, 1) := by decide +kernel
theorem dX4_resound_1 : decode cX4_resound 1 = .ok (.iload_n 1, 1) := by decide +kernel
theorem dX4_resound_2 : decode cX4_resound 2 = .ok (.iconst 5, 1) := by decide +kernel
theorem dX4_resound_3 : decode cX4_resound 3 = .ok (.iload_n 2, 1) := by decide +kernel
theorem dX4_resound_4 : decode cX4_resound 4 = .ok (.iconst 3, 1) := by decide +kernel
theorem dX4_resound_5 : decode cX4_resound 5 = .ok (.ishr, 1) := by decide +kernel
theorem dX4_resound_6 : decode cX4_resound 6 = .ok (.invokevirtual 9, 3) := by decide +kernel
theorem dX4_resound_9 : decode cX4_resound 9 = .ok (.iload_n 2, 1) := by decide +kernel
theorem dX4_resound_10 : decode cX4_resound 10 = .ok (.aload_n 0, 1) := by decide +kernel
theorem dX4_resound_11 : decode cX4_resound 11 = .ok (.iload_n 1, 1) := by decide +kernel
theorem dX4_resound_12 : decode cX4_resound 12 = .ok (.bipush 8, 2) := by decide +kernel
theorem dX4_resound_14 : decode cX4_resound 14 = .ok (.invokevirtual 15, 3) := by decide +kernel
theorem dX4_resound_17 : decode cX4_resound 17 = .ok (.if_icmp .le 11, 3) := by decide +kernel
theorem dX4_resound_20 : decode cX4_resound 20 = .ok (.aload_n 0, 1) := by decide +kernel
theorem dX4_resound_21 : decode cX4_resound 21 = .ok (.iload_n 1, 1) := by decide +kernel
theorem dX4_resound_22 : decode cX4_resound 22 = .ok (.bipush 8, 2) := by decide +kernel
theorem dX4_resound_24 : decode cX4_resound 24 = .ok (.iload_n 2, 1) := by decide +kernel
theorem dX4_resound_25 : decode cX4_resound 25 = .ok (.invokevirtual 50, 3) := by decide +kernel
theorem dX4_resound_28 : decode cX4_resound 28 = .ok (.iload_n 2, 1) := by decide +kernel
theorem dX4_resound_29 : decode cX4_resound 29 = .ok (.ireturn, 1) := by decide +kernel
theorem dX4_countIn_0 : decode cX4_countIn 0 = .ok (.aload_n 0, 1) := by decide +kernel
theorem dX4_countIn_1 : decode cX4_countIn 1 = .ok (.iload_n 1, 1) := by decide +kernel
theorem dX4_countIn_2 : decode cX4_countIn 2 = .ok (.bipush 6, 2) := by decide +kernel
theorem dX4_countIn_4 : decode cX4_countIn 4 = .ok (.iconst 1, 1) := by decide +kernel
theorem dX4_countIn_5 : decode cX4_countIn 5 = .ok (.invokevirtual 9, 3) := by decide +kernel
theorem dX4_countIn_8 : decode cX4_countIn 8 = .ok (.iload_n 2, 1) := by decide +kernel
theorem dX4_countIn_9 : decode cX4_countIn 9 = .ok (.aload_n 0, 1) := by decide +kernel
theorem dX4_countIn_10 : decode cX4_countIn 10 = .ok (.iload_n 1, 1) := by decide +kernel
theorem dX4_countIn_11 : decode cX4_countIn 11 = .ok (.bipush 6, 2) := by decide +kernel
theorem dX4_countIn_13 : decode cX4_countIn 13 = .ok (.invokevirtual 15, 3) := by decide +kernel
theorem dX4_countIn_16 : decode cX4_countIn 16 = .ok (.iadd, 1) := by decide +kernel
theorem dX4_countIn_17 : decode cX4_countIn 17 = .ok (.ireturn, 1) := by decide +kernel
theorem dX4_load_0 : decode cX4_load 0 = .ok (.aload_n 0, 1) := by decide +kernel
theorem dX4_load_1 : decode cX4_load 1 = .ok (.iload_n 1, 1) := by decide +kernel
theorem dX4_load_2 : decode cX4_load 2 = .ok (.iconst 1, 1) := by decide +kernel
theorem dX4_load_3 : decode cX4_load 3 = .ok (.invokevirtual 53, 3) := by decide +kernel
theorem dX4_load_6 : decode cX4_load 6 = .ok (.ifCond .ne 5, 3) := by decide +kernel
theorem dX4_load_9 : decode cX4_load 9 = .ok (.iconst 0, 1) := by decide +kernel
theorem dX4_load_10 : decode cX4_load 10 = .ok (.ireturn, 1) := by decide +kernel
theorem dX4_load_11 : decode cX4_load 11 = .ok (.iconst 2, 1) := by decide +kernel
theorem dX4_load_12 : decode cX4_load 12 = .ok (.istore_n 2, 1) := by decide +kernel
theorem dX4_load_13 : decode cX4_load 13 = .ok (.aload_n 0, 1) := by decide +kernel
theorem dX4_load_14 : decode cX4_load 14 = .ok (.iload_n 1, 1) := by decide +kernel
theorem dX4_load_15 : decode cX4_load 15 = .ok (.iconst 2, 1) := by decide +kernel
theorem dX4_load_16 : decode cX4_load 16 = .ok (.invokevirtual 53, 3) := by decide +kernel
theorem dX4_load_19 : decode cX4_load 19 = .ok (.ifCond .eq 6, 3) := by decide +kernel
theorem dX4_load_22 : decode cX4_load 22 = .ok (.iinc 2 3, 3) := by decide +kernel
theorem dX4_load_25 : decode cX4_load 25 = .ok (.aload_n 0, 1) := by decide +kernel
theorem dX4_load_26 : decode cX4_load 26 = .ok (.iload_n 1, 1) := by decide +kernel
theorem dX4_load_27 : decode cX4_load 27 = .ok (.iconst 4, 1) := by decide +kernel
theorem dX4_load_28 : decode cX4_load 28 = .ok (.invokevirtual 53, 3) := by decide +kernel
theorem dX4_load_31 : decode cX4_load 31 = .ok (.ifCond .eq 15, 3) := by decide +kernel
theorem dX4_load_34 : decode cX4_load 34 = .ok (.iload_n 2, 1) := by decide +kernel
theorem dX4_load_35 : decode cX4_load 35 = .ok (.aload_n 0, 1) := by decide +kernel
theorem dX4_load_36 : decode cX4_load 36 = .ok (.iload_n 1, 1) := by decide +kernel
theorem dX4_load_37 : decode cX4_load 37 = .ok (.iconst 2, 1) := by decide +kernel
theorem dX4_load_38 : decode cX4_load 38 = .ok (.invokevirtual 15, 3) := by decide +kernel
theorem dX4_load_41 : decode cX4_load 41 = .ok (.invokestatic 38, 3) := by decide +kernel
theorem dX4_load_44 : decode cX4_load 44 = .ok (.iadd, 1) := by decide +kernel
theorem dX4_load_45 : decode cX4_load 45 = .ok (.istore_n 2, 1) := by decide +kernel
theorem dX4_load_46 : decode cX4_load 46 = .ok (.aload_n 0, 1) := by decide +kernel
theorem dX4_load_47 : decode cX4_load 47 = .ok (.iload_n 1, 1) := by decide +kernel
theorem dX4_load_48 : decode cX4_load 48 = .ok (.bipush 16, 2) := by decide +kernel
theorem dX4_load_50 : decode cX4_load 50 = .ok (.invokevirtual 53, 3) := by decide +kernel
theorem dX4_load_53 : decode cX4_load 53 = .ok (.ifCond .eq 12, 3) := by decide +kernel
theorem dX4_load_56 : decode cX4_load 56 = .ok (.iload_n 2, 1) := by decide +kernel
theorem dX4_load_57 : decode cX4_load 57 = .ok (.aload_n 0, 1) := by decide +kernel
theorem dX4_load_58 : decode cX4_load 58 = .ok (.iload_n 1, 1) := by decide +kernel
theorem dX4_load_59 : decode cX4_load 59 = .ok (.iconst 4, 1) := by decide +kernel
theorem dX4_load_60 : decode cX4_load 60 = .ok (.invokevirtual 15, 3) := by decide +kernel
theorem dX4_load_63 : decode cX4_load 63 = .ok (.iadd, 1) := by decide +kernel
theorem dX4_load_64 : decode cX4_load 64 = .ok (.istore_n 2, 1) := by decide +kernel
theorem dX4_load_65 : decode cX4_load 65 = .ok (.aload_n 0, 1) := by decide +kernel
theorem dX4_load_66 : decode cX4_load 66 = .ok (.iload_n 1, 1) := by decide +kernel
theorem dX4_load_67 : decode cX4_load 67 = .ok (.bipush 64, 2) := by decide +kernel
theorem dX4_load_69 : decode cX4_load 69 = .ok (.invokevirtual 53, 3) := by decide +kernel
theorem dX4_load_72 : decode cX4_load 72 = .ok (.ifCond .eq 6, 3) := by decide +kernel
theorem dX4_load_75 : decode cX4_load 75 = .ok (.iinc 2 4, 3) := by decide +kernel
theorem dX4_load_78 : decode cX4_load 78 = .ok (.aload_n 0, 1) := by decide +kernel
theorem dX4_load_79 : decode cX4_load 79 = .ok (.iload_n 1, 1) := by decide +kernel
theorem dX4_load_80 : decode cX4_load 80 = .ok (.sipush 256, 3) := by decide +kernel
theorem dX4_load_83 : decode cX4_load 83 = .ok (.invokevirtual 53, 3) := by decide +kernel
theorem dX4_load_86 : decode cX4_load 86 = .ok (.ifCond .eq 15, 3) := by decide +kernel
theorem dX4_load_89 : decode cX4_load 89 = .ok (.iload_n 2, 1) := by decide +kernel
theorem dX4_load_90 : decode cX4_load 90 = .ok (.aload_n 0, 1) := by decide +kernel
theorem dX4_load_91 : decode cX4_load 91 = .ok (.iload_n 1, 1) := by decide +kernel
theorem dX4_load_92 : decode cX4_load 92 = .ok (.iconst 5, 1) := by decide +kernel
theorem dX4_load_93 : decode cX4_load 93 = .ok (.invokevirtual 15, 3) := by decide +kernel
theorem dX4_load_96 : decode cX4_load 96 = .ok (.bipush 7, 2) := by decide +kernel
theorem dX4_load_98 : decode cX4_load 98 = .ok (.iand, 1) := by decide +kernel
theorem dX4_load_99 : decode cX4_load 99 = .ok (.iadd, 1) := by decide +kernel
theorem dX4_load_100 : decode cX4_load 100 = .ok (.istore_n 2, 1) := by decide +kernel
theorem dX4_load_101 : decode cX4_load 101 = .ok (.aload_n 0, 1) := by decide +kernel
theorem dX4_load_102 : decode cX4_load 102 = .ok (.iload_n 1, 1) := by decide +kernel
theorem dX4_load_103 : decode cX4_load 103 = .ok (.sipush 512, 3) := by decide +kernel
theorem dX4_load_106 : decode cX4_load 106 = .ok (.invokevirtual 53, 3) := by decide +kernel
theorem dX4_load_109 : decode cX4_load 109 = .ok (.ifCond .eq 13, 3) := by decide +kernel
theorem dX4_load_112 : decode cX4_load 112 = .ok (.iload_n 2, 1) := by decide +kernel
theorem dX4_load_113 : decode cX4_load 113 = .ok (.aload_n 0, 1) := by decide +kernel
theorem dX4_load_114 : decode cX4_load 114 = .ok (.iload_n 1, 1) := by decide +kernel
theorem dX4_load_115 : decode cX4_load 115 = .ok (.bipush 6, 2) := by decide +kernel
theorem dX4_load_117 : decode cX4_load 117 = .ok (.invokevirtual 15, 3) := by decide +kernel
theorem dX4_load_120 : decode cX4_load 120 = .ok (.iadd, 1) := by decide +kernel
theorem dX4_load_121 : decode cX4_load 121 = .ok (.istore_n 2, 1) := by decide +kernel
theorem dX4_load_122 : decode cX4_load 122 = .ok (.iload_n 2, 1) := by decide +kernel
theorem dX4_load_123 : decode cX4_load 123 = .ok (.ireturn, 1) := by decide +kernel
theorem dX4_putToRest_0 : decode cX4_putToRest 0 = .ok (.aload_n 0, 1) := by decide +kernel
theorem dX4_putToRest_1 : decode cX4_putToRest 1 = .ok (.iload_n 1, 1) := by decide +kernel
theorem dX4_putToRest_2 : decode cX4_putToRest 2 = .ok (.iconst 3, 1) := by decide +kernel
theorem dX4_putToRest_3 : decode cX4_putToRest 3 = .ok (.iconst 0, 1) := by decide +kernel
theorem dX4_putToRest_4 : decode cX4_putToRest 4 = .ok (.invokevirtual 50, 3) := by decide +kernel
theorem dX4_putToRest_7 : decode cX4_putToRest 7 = .ok (.aload_n 0, 1) := by decide +kernel
theorem dX4_putToRest_8 : decode cX4_putToRest 8 = .ok (.iload_n 1, 1) := by decide +kernel
theorem dX4_putToRest_9 : decode cX4_putToRest 9 = .ok (.bipush 16, 2) := by decide +kernel
theorem dX4_putToRest_11 : decode cX4_putToRest 11 = .ok (.invokevirtual 53, 3) := by decide +kernel
theorem dX4_putToRest_14 : decode cX4_putToRest 14 = .ok (.ifCond .eq 10, 3) := by decide +kernel
theorem dX4_putToRest_17 : decode cX4_putToRest 17 = .ok (.aload_n 0, 1) := by decide +kernel
theorem dX4_putToRest_18 : decode cX4_putToRest 18 = .ok (.iload_n 1, 1) := by decide +kernel
theorem dX4_putToRest_19 : decode cX4_putToRest 19 = .ok (.iconst 4, 1) := by decide +kernel
theorem dX4_putToRest_20 : decode cX4_putToRest 20 = .ok (.iconst 0, 1) := by decide +kernel
theorem dX4_putToRest_21 : decode cX4_putToRest 21 = .ok (.invokevirtual 50, 3) := by decide +kernel
theorem dX4_putToRest_24 : decode cX4_putToRest 24 = .ok (.aload_n 0, 1) := by decide +kernel
theorem dX4_putToRest_25 : decode cX4_putToRest 25 = .ok (.iload_n 1, 1) := by decide +kernel
theorem dX4_putToRest_26 : decode cX4_putToRest 26 = .ok (.bipush 32, 2) := by decide +kernel
theorem dX4_putToRest_28 : decode cX4_putToRest 28 = .ok (.invokevirtual 53, 3) := by decide +kernel
theorem dX4_putToRest_31 : decode cX4_putToRest 31 = .ok (.ifCond .eq 10, 3) := by decide +kernel
theorem dX4_putToRest_34 : decode cX4_putToRest 34 = .ok (.aload_n 0, 1) := by decide +kernel
theorem dX4_putToRest_35 : decode cX4_putToRest 35 = .ok (.iload_n 1, 1) := by decide +kernel
theorem dX4_putToRest_36 : decode cX4_putToRest 36 = .ok (.iconst 5, 1) := by decide +kernel
theorem dX4_putToRest_37 : decode cX4_putToRest 37 = .ok (.iconst 0, 1) := by decide +kernel
theorem dX4_putToRest_38 : decode cX4_putToRest 38 = .ok (.invokevirtual 50, 3) := by decide +kernel
theorem dX4_putToRest_41 : decode cX4_putToRest 41 = .ok (.aload_n 0, 1) := by decide +kernel
theorem dX4_putToRest_42 : decode cX4_putToRest 42 = .ok (.iload_n 1, 1) := by decide +kernel
theorem dX4_putToRest_43 : decode cX4_putToRest 43 = .ok (.sipush 128, 3) := by decide +kernel
theorem dX4_putToRest_46 : decode cX4_putToRest 46 = .ok (.invokevirtual 53, 3) := by decide +kernel
theorem dX4_putToRest_49 : decode cX4_putToRest 49 = .ok (.ifCond .eq 17, 3) := by decide +kernel
theorem dX4_putToRest_52 : decode cX4_putToRest 52 = .ok (.aload_n 0, 1) := by decide +kernel
theorem dX4_putToRest_53 : decode cX4_putToRest 53 = .ok (.iload_n 1, 1) := by decide +kernel
theorem dX4_putToRest_54 : decode cX4_putToRest 54 = .ok (.iconst 2, 1) := by decide +kernel
theorem dX4_putToRest_55 : decode cX4_putToRest 55 = .ok (.aload_n 0, 1) := by decide +kernel
theorem dX4_putToRest_56 : decode cX4_putToRest 56 = .ok (.iload_n 1, 1) := by decide +kernel
theorem dX4_putToRest_57 : decode cX4_putToRest 57 = .ok (.iconst 2, 1) := by decide +kernel
theorem dX4_putToRest_58 : decode cX4_putToRest 58 = .ok (.invokevirtual 15, 3) := by decide +kernel
theorem dX4_putToRest_61 : decode cX4_putToRest 61 = .ok (.iconst 1, 1) := by decide +kernel
theorem dX4_putToRest_62 : decode cX4_putToRest 62 = .ok (.ishr, 1) := by decide +kernel
theorem dX4_putToRest_63 : decode cX4_putToRest 63 = .ok (.invokevirtual 50, 3) := by decide +kernel
theorem dX4_putToRest_66 : decode cX4_putToRest 66 = .ok (.aload_n 0, 1) := by decide +kernel
theorem dX4_putToRest_67 : decode cX4_putToRest 67 = .ok (.iload_n 1, 1) := by decide +kernel
theorem dX4_putToRest_68 : decode cX4_putToRest 68 = .ok (.sipush 512, 3) := by decide +kernel
theorem dX4_putToRest_71 : decode cX4_putToRest 71 = .ok (.invokevirtual 53, 3) := by decide +kernel
theorem dX4_putToRest_74 : decode cX4_putToRest 74 = .ok (.ifCond .eq 11, 3) := by decide +kernel
theorem dX4_putToRest_77 : decode cX4_putToRest 77 = .ok (.aload_n 0, 1) := by decide +kernel
theorem dX4_putToRest_78 : decode cX4_putToRest 78 = .ok (.iload_n 1, 1) := by decide +kernel
theorem dX4_putToRest_79 : decode cX4_putToRest 79 = .ok (.bipush 6, 2) := by decide +kernel
theorem dX4_putToRest_81 : decode cX4_putToRest 81 = .ok (.iconst 0, 1) := by decide +kernel
theorem dX4_putToRest_82 : decode cX4_putToRest 82 = .ok (.invokevirtual 50, 3) := by decide +kernel
theorem dX4_putToRest_85 : decode cX4_putToRest 85 = .ok (.aload_n 0, 1) := by decide +kernel
theorem dX4_putToRest_86 : decode cX4_putToRest 86 = .ok (.iload_n 1, 1) := by decide +kernel
theorem dX4_putToRest_87 : decode cX4_putToRest 87 = .ok (.sipush 1024, 3) := by decide +kernel
theorem dX4_putToRest_90 : decode cX4_putToRest 90 = .ok (.invokevirtual 53, 3) := by decide +kernel
theorem dX4_putToRest_93 : decode cX4_putToRest 93 = .ok (.ifCond .eq 12, 3) := by decide +kernel
theorem dX4_putToRest_96 : decode cX4_putToRest 96 = .ok (.aload_n 0, 1) := by decide +kernel
theorem dX4_putToRest_97 : decode cX4_putToRest 97 = .ok (.iload_n 1, 1) := by decide +kernel
theorem dX4_putToRest_98 : decode cX4_putToRest 98 = .ok (.bipush 6, 2) := by decide +kernel
theorem dX4_putToRest_100 : decode cX4_putToRest 100 = .ok (.bipush 100, 2) := by decide +kernel
theorem dX4_putToRest_102 : decode cX4_putToRest 102 = .ok (.invokevirtual 50, 3) := by decide +kernel
theorem dX4_putToRest_105 : decode cX4_putToRest 105 = .ok (.return_, 1) := by decide +kernel
theorem dX4_ticksBy_0 : decode cX4_ticksBy 0 = .ok (.iload_n 1, 1) := by decide +kernel
theorem dX4_ticksBy_1 : decode cX4_ticksBy 1 = .ok (.iconst (-1), 1) := by decide +kernel
theorem dX4_ticksBy_2 : decode cX4_ticksBy 2 = .ok (.if_icmp .ne 5, 3) := by decide +kernel
theorem dX4_ticksBy_5 : decode cX4_ticksBy 5 = .ok (.iconst 0, 1) := by decide +kernel
theorem dX4_ticksBy_6 : decode cX4_ticksBy 6 = .ok (.ireturn, 1) := by decide +kernel
theorem dX4_ticksBy_7 : decode cX4_ticksBy 7 = .ok (.iconst 0, 1) := by decide +kernel
theorem dX4_ticksBy_8 : decode cX4_ticksBy 8 = .ok (.istore_n 3, 1) := by decide +kernel
theorem dX4_ticksBy_9 : decode cX4_ticksBy 9 = .ok (.iconst 0, 1) := by decide +kernel
theorem dX4_ticksBy_10 : decode cX4_ticksBy 10 = .ok (.istore 4, 2) := by decide +kernel
theorem dX4_ticksBy_12 : decode cX4_ticksBy 12 = .ok (.iload 4, 2) := by decide +kernel
theorem dX4_ticksBy_14 : decode cX4_ticksBy 14 = .ok (.iload_n 2, 1) := by decide +kernel
theorem dX4_ticksBy_15 : decode cX4_ticksBy 15 = .ok (.if_icmp .ge 19, 3) := by decide +kernel
theorem dX4_ticksBy_18 : decode cX4_ticksBy 18 = .ok (.iload_n 3, 1) := by decide +kernel
theorem dX4_ticksBy_19 : decode cX4_ticksBy 19 = .ok (.aload_n 0, 1) := by decide +kernel
theorem dX4_ticksBy_20 : decode cX4_ticksBy 20 = .ok (.iload_n 1, 1) := by decide +kernel
theorem dX4_ticksBy_21 : decode cX4_ticksBy 21 = .ok (.iload 4, 2) := by decide +kernel
theorem dX4_ticksBy_23 : decode cX4_ticksBy 23 = .ok (.invokestatic 57, 3) := by decide +kernel
theorem dX4_ticksBy_26 : decode cX4_ticksBy 26 = .ok (.iadd, 1) := by decide +kernel
theorem dX4_ticksBy_27 : decode cX4_ticksBy 27 = .ok (.istore_n 3, 1) := by decide +kernel
theorem dX4_ticksBy_28 : decode cX4_ticksBy 28 = .ok (.iinc 4 1, 3) := by decide +kernel
theorem dX4_ticksBy_31 : decode cX4_ticksBy 31 = .ok (.goto (-19), 3) := by decide +kernel
theorem dX4_ticksBy_34 : decode cX4_ticksBy 34 = .ok (.iload_n 3, 1) := by decide +kernel
theorem dX4_ticksBy_35 : decode cX4_ticksBy 35 = .ok (.ireturn, 1) := by decide +kernel
theorem dX4_tick_0 : decode cX4_tick 0 = .ok (.aload_n 0, 1) := by decide +kernel
theorem dX4_tick_1 : decode cX4_tick 1 = .ok (.iload_n 1, 1) := by decide +kernel
theorem dX4_tick_2 : decode cX4_tick 2 = .ok (.sipush 1024, 3) := by decide +kernel
theorem dX4_tick_5 : decode cX4_tick 5 = .ok (.invokevirtual 53, 3) := by decide +kernel
theorem dX4_tick_8 : decode cX4_tick 8 = .ok (.ifCond .eq 21, 3) := by decide +kernel
theorem dX4_tick_11 : decode cX4_tick 11 = .ok (.aload_n 0, 1) := by decide +kernel
theorem dX4_tick_12 : decode cX4_tick 12 = .ok (.iload_n 1, 1) := by decide +kernel
theorem dX4_tick_13 : decode cX4_tick 13 = .ok (.bipush 6, 2) := by decide +kernel
theorem dX4_tick_15 : decode cX4_tick 15 = .ok (.iload_n 2, 1) := by decide +kernel
theorem dX4_tick_16 : decode cX4_tick 16 = .ok (.iconst 1, 1) := by decide +kernel
theorem dX4_tick_17 : decode cX4_tick 17 = .ok (.iadd, 1) := by decide +kernel
theorem dX4_tick_18 : decode cX4_tick 18 = .ok (.invokevirtual 9, 3) := by decide +kernel
theorem dX4_tick_21 : decode cX4_tick 21 = .ok (.aload_n 0, 1) := by decide +kernel
theorem dX4_tick_22 : decode cX4_tick 22 = .ok (.iload_n 1, 1) := by decide +kernel
theorem dX4_tick_23 : decode cX4_tick 23 = .ok (.bipush 6, 2) := by decide +kernel
theorem dX4_tick_25 : decode cX4_tick 25 = .ok (.invokevirtual 15, 3) := by decide +kernel
theorem dX4_tick_28 : decode cX4_tick 28 = .ok (.ireturn, 1) := by decide +kernel
theorem dX4_tick_29 : decode cX4_tick 29 = .ok (.aload_n 0, 1) := by decide +kernel
theorem dX4_tick_30 : decode cX4_tick 30 = .ok (.iload_n 1, 1) := by decide +kernel
theorem dX4_tick_31 : decode cX4_tick 31 = .ok (.bipush 9, 2) := by decide +kernel
theorem dX4_tick_33 : decode cX4_tick 33 = .ok (.iconst 3, 1) := by decide +kernel
theorem dX4_tick_34 : decode cX4_tick 34 = .ok (.aload_n 0, 1) := by decide +kernel
theorem dX4_tick_35 : decode cX4_tick 35 = .ok (.iload_n 1, 1) := by decide +kernel
theorem dX4_tick_36 : decode cX4_tick 36 = .ok (.bipush 9, 2) := by decide +kernel
theorem dX4_tick_38 : decode cX4_tick 38 = .ok (.invokevirtual 15, 3) := by decide +kernel
theorem dX4_tick_41 : decode cX4_tick 41 = .ok (.imul, 1) := by decide +kernel
theorem dX4_tick_42 : decode cX4_tick 42 = .ok (.iload_n 2, 1) := by decide +kernel
theorem dX4_tick_43 : decode cX4_tick 43 = .ok (.iadd, 1) := by decide +kernel
theorem dX4_tick_44 : decode cX4_tick 44 = .ok (.invokevirtual 50, 3) := by decide +kernel
theorem dX4_tick_47 : decode cX4_tick 47 = .ok (.aload_n 0, 1) := by decide +kernel
theorem dX4_tick_48 : decode cX4_tick 48 = .ok (.iload_n 1, 1) := by decide +kernel
theorem dX4_tick_49 : decode cX4_tick 49 = .ok (.bipush 9, 2) := by decide +kernel
theorem dX4_tick_51 : decode cX4_tick 51 = .ok (.invokevirtual 15, 3) := by decide +kernel
theorem dX4_tick_54 : decode cX4_tick 54 = .ok (.ireturn, 1) := by decide +kernel
theorem dX5_init_0 : decode cX5_init 0 = .ok (.aload_n 0, 1) := by decide +kernel
theorem dX5_init_1 : decode cX5_init 1 = .ok (.invokespecial 3, 3) := by decide +kernel
theorem dX5_init_4 : decode cX5_init 4 = .ok (.aload_n 0, 1) := by decide +kernel
theorem dX5_init_5 : decode cX5_init 5 = .ok (.bipush 16, 2) := by decide +kernel
theorem dX5_init_7 : decode cX5_init 7 = .ok (.anewarray 9, 3) := by decide +kernel
theorem dX5_init_10 : decode cX5_init 10 = .ok (.putfield 11, 3) := by decide +kernel
theorem dX5_init_13 : decode cX5_init 13 = .ok (.aload_n 0, 1) := by decide +kernel
theorem dX5_init_14 : decode cX5_init 14 = .ok (.iconst 0, 1) := by decide +kernel
theorem dX5_init_15 : decode cX5_init 15 = .ok (.putfield 17, 3) := by decide +kernel
theorem dX5_init_18 : decode cX5_init 18 = .ok (.aload_n 0, 1) := by decide +kernel
theorem dX5_init_19 : decode cX5_init 19 = .ok (.iconst 0, 1) := by decide +kernel
theorem dX5_init_20 : decode cX5_init 20 = .ok (.putfield 21, 3) := by decide +kernel
theorem dX5_init_23 : decode cX5_init 23 = .ok (.return_, 1) := by decide +kernel
theorem dX5_startAnew_0 : decode cX5_startAnew 0 = .ok (.aload_n 0, 1) := by decide +kernel
theorem dX5_startAnew_1 : decode cX5_startAnew 1 = .ok (.iconst 0, 1) := by decide +kernel
theorem dX5_startAnew_2 : decode cX5_startAnew 2 = .ok (.putfield 17, 3) := by decide +kernel
theorem dX5_startAnew_5 : decode cX5_startAnew 5 = .ok (.aload_n 0, 1) := by decide +kernel
theorem dX5_startAnew_6 : decode cX5_startAnew 6 = .ok (.iconst 1, 1) := by decide +kernel
theorem dX5_startAnew_7 : decode cX5_startAnew 7 = .ok (.putfield 21, 3) := by decide +kernel
theorem dX5_startAnew_10 : decode cX5_startAnew 10 = .ok (.return_, 1) := by decide +kernel
theorem dX5_isFull_0 : decode cX5_isFull 0 = .ok (.aload_n 0, 1) := by decide +kernel
theorem dX5_isFull_1 : decode cX5_isFull 1 = .ok (.getfield 17, 3) := by decide +kernel
theorem dX5_isFull_4 : decode cX5_isFull 4 = .ok (.aload_n 0, 1) := by decide +kernel
theorem dX5_isFull_5 : decode cX5_isFull 5 = .ok (.getfield 11, 3) := by decide +kernel
theorem dX5_isFull_8 : decode cX5_isFull 8 = .ok (.arraylength, 1) := by decide +kernel
theorem dX5_isFull_9 : decode cX5_isFull 9 = .ok (.if_icmp .lt 7, 3) := by decide +kernel
theorem dX5_isFull_12 : decode cX5_isFull 12 = .ok (.iconst 1, 1) := by decide +kernel
theorem dX5_isFull_13 : decode cX5_isFull 13 = .ok (.goto 4, 3) := by decide +kernel
theorem dX5_isFull_16 : decode cX5_isFull 16 = .ok (.iconst 0, 1) := by decide +kernel
theorem dX5_isFull_17 : decode cX5_isFull 17 = .ok (.ireturn, 1) := by decide +kernel
theorem dX5_add_0 : decode cX5_add 0 = .ok (.aload_n 0, 1) := by decide +kernel
theorem dX5_add_1 : decode cX5_add 1 = .ok (.getfield 17, 3) := by decide +kernel
theorem dX5_add_4 : decode cX5_add 4 = .ok (.ifCond .lt 35, 3) := by decide +kernel
theorem dX5_add_7 : decode cX5_add 7 = .ok (.aload_n 0, 1) := by decide +kernel
theorem dX5_add_8 : decode cX5_add 8 = .ok (.getfield 17, 3) := by decide +kernel
theorem dX5_add_11 : decode cX5_add 11 = .ok (.aload_n 0, 1) := by decide +kernel
theorem dX5_add_12 : decode cX5_add 12 = .ok (.getfield 11, 3) := by decide +kernel
theorem dX5_add_15 : decode cX5_add 15 = .ok (.arraylength, 1) := by decide +kernel
theorem dX5_add_16 : decode cX5_add 16 = .ok (.if_icmp .ge 23, 3) := by decide +kernel
theorem dX5_add_19 : decode cX5_add 19 = .ok (.aload_n 0, 1) := by decide +kernel
theorem dX5_add_20 : decode cX5_add 20 = .ok (.getfield 11, 3) := by decide +kernel
theorem dX5_add_23 : decode cX5_add 23 = .ok (.aload_n 0, 1) := by decide +kernel
theorem dX5_add_24 : decode cX5_add 24 = .ok (.getfield 17, 3) := by decide +kernel
theorem dX5_add_27 : decode cX5_add 27 = .ok (.aload_n 1, 1) := by decide +kernel
theorem dX5_add_28 : decode cX5_add 28 = .ok (.aastore, 1) := by decide +kernel
theorem dX5_add_29 : decode cX5_add 29 = .ok (.aload_n 0, 1) := by decide +kernel
theorem dX5_add_30 : decode cX5_add 30 = .ok (.dup, 1) := by decide +kernel
theorem dX5_add_31 : decode cX5_add 31 = .ok (.getfield 17, 3) := by decide +kernel
theorem dX5_add_34 : decode cX5_add 34 = .ok (.iconst 1, 1) := by decide +kernel
theorem dX5_add_35 : decode cX5_add 35 = .ok (.iadd, 1) := by decide +kernel
theorem dX5_add_36 : decode cX5_add 36 = .ok (.putfield 17, 3) := by decide +kernel
theorem dX5_add_39 : decode cX5_add 39 = .ok (.aload_n 0, 1) := by decide +kernel
theorem dX5_add_40 : decode cX5_add 40 = .ok (.getfield 17, 3) := by decide +kernel
theorem dX5_add_43 : decode cX5_add 43 = .ok (.ireturn, 1) := by decide +kernel
theorem dX5_lineNumbered_0 : decode cX5_lineNumbered 0 = .ok (.iload_n 1, 1) := by decide +kernel
theorem dX5_lineNumbered_1 : decode cX5_lineNumbered 1 = .ok (.iconst 1, 1) := by decide +kernel
theorem dX5_lineNumbered_2 : decode cX5_lineNumbered 2 = .ok (.if_icmp .lt 23, 3) := by decide +kernel
theorem dX5_lineNumbered_5 : decode cX5_lineNumbered 5 = .ok (.iload_n 1, 1) := by decide +kernel
theorem dX5_lineNumbered_6 : decode cX5_lineNumbered 6 = .ok (.aload_n 0, 1) := by decide +kernel
theorem dX5_lineNumbered_7 : decode cX5_lineNumbered 7 = .ok (.getfield 11, 3) := by decide +kernel
theorem dX5_lineNumbered_10 : decode cX5_lineNumbered 10 = .ok (.arraylength, 1) := by decide +kernel
theorem dX5_lineNumbered_11 : decode cX5_lineNumbered 11 = .ok (.if_icmp .gt 14, 3) := by decide +kernel
theorem dX5_lineNumbered_14 : decode cX5_lineNumbered 14 = .ok (.aload_n 0, 1) := by decide +kernel
theorem dX5_lineNumbered_15 : decode cX5_lineNumbered 15 = .ok (.getfield 11, 3) := by decide +kernel
theorem dX5_lineNumbered_18 : decode cX5_lineNumbered 18 = .ok (.iload_n 1, 1) := by decide +kernel
theorem dX5_lineNumbered_19 : decode cX5_lineNumbered 19 = .ok (.iconst 1, 1) := by decide +kernel
theorem dX5_lineNumbered_20 : decode cX5_lineNumbered 20 = .ok (.isub, 1) := by decide +kernel
theorem dX5_lineNumbered_21 : decode cX5_lineNumbered 21 = .ok (.aaload, 1) := by decide +kernel
theorem dX5_lineNumbered_22 : decode cX5_lineNumbered 22 = .ok (.goto 4, 3) := by decide +kernel
theorem dX5_lineNumbered_25 : decode cX5_lineNumbered 25 = .ok (.aconst_null, 1) := by decide +kernel
theorem dX5_lineNumbered_26 : decode cX5_lineNumbered 26 = .ok (.areturn, 1) := by decide +kernel
theorem dX6_init_0 : decode cX6_init 0 = .ok (.aload_n 0, 1) := by decide +kernel
theorem dX6_init_1 : decode cX6_init 1 = .ok (.invokespecial 5, 3) := by decide +kernel
theorem dX6_init_4 : decode cX6_init 4 = .ok (.aload_n 0, 1) := by decide +kernel
theorem dX6_init_5 : decode cX6_init 5 = .ok (.sipush 1397, 3) := by decide +kernel
theorem dX6_init_8 : decode cX6_init 8 = .ok (.newarray .long, 2) := by decide +kernel
theorem dX6_init_10 : decode cX6_init 10 = .ok (.putfield 11, 3) := by decide +kernel
theorem dX6_init_13 : decode cX6_init 13 = .ok (.aload_n 0, 1) := by decide +kernel
theorem dX6_init_14 : decode cX6_init 14 = .ok (.sipush 1397, 3) := by decide +kernel
theorem dX6_init_17 : decode cX6_init 17 = .ok (.newarray .long, 2) := by decide +kernel
theorem dX6_init_19 : decode cX6_init 19 = .ok (.putfield 15, 3) := by decide +kernel
theorem dX6_init_22 : decode cX6_init 22 = .ok (.aload_n 0, 1) := by decide +kernel
theorem dX6_init_23 : decode cX6_init 23 = .ok (.aconst_null, 1) := by decide +kernel
theorem dX6_init_24 : decode cX6_init 24 = .ok (.putfield 18, 3) := by decide +kernel
theorem dX6_init_27 : decode cX6_init 27 = .ok (.aload_n 0, 1) := by decide +kernel
theorem dX6_init_28 : decode cX6_init 28 = .ok (.iconst 0, 1) := by decide +kernel
theorem dX6_init_29 : decode cX6_init 29 = .ok (.putfield 22, 3) := by decide +kernel
theorem dX6_init_32 : decode cX6_init 32 = .ok (.iconst 0, 1) := by decide +kernel
theorem dX6_init_33 : decode cX6_init 33 = .ok (.istore_n 1, 1) := by decide +kernel
theorem dX6_init_34 : decode cX6_init 34 = .ok (.iload_n 1, 1) := by decide +kernel
theorem dX6_init_35 : decode cX6_init 35 = .ok (.bipush 16, 2) := by decide +kernel
theorem dX6_init_37 : decode cX6_init 37 = .ok (.if_icmp .ge 27, 3) := by decide +kernel
theorem dX6_init_40 : decode cX6_init 40 = .ok (.aload_n 0, 1) := by decide +kernel
theorem dX6_init_41 : decode cX6_init 41 = .ok (.getfield 11, 3) := by decide +kernel
theorem dX6_init_44 : decode cX6_init 44 = .ok (.iload_n 1, 1) := by decide +kernel
theorem dX6_init_45 : decode cX6_init 45 = .ok (.ldc2_w 26, 3) := by decide +kernel
theorem dX6_init_48 : decode cX6_init 48 = .ok (.lastore, 1) := by decide +kernel
theorem dX6_init_49 : decode cX6_init 49 = .ok (.aload_n 0, 1) := by decide +kernel
theorem dX6_init_50 : decode cX6_init 50 = .ok (.getfield 15, 3) := by decide +kernel
theorem dX6_init_53 : decode cX6_init 53 = .ok (.iload_n 1, 1) := by decide +kernel
theorem dX6_init_54 : decode cX6_init 54 = .ok (.ldc2_w 26, 3) := by decide +kernel
theorem dX6_init_57 : decode cX6_init 57 = .ok (.lastore, 1) := by decide +kernel
theorem dX6_init_58 : decode cX6_init 58 = .ok (.iinc 1 1, 3) := by decide +kernel
theorem dX6_init_61 : decode cX6_init 61 = .ok (.goto (-27), 3) := by decide +kernel
theorem dX6_init_64 : decode cX6_init 64 = .ok (.return_, 1) := by decide +kernel
theorem dX6_onShelf_0 : decode cX6_onShelf 0 = .ok (.iload_n 1, 1) := by decide +kernel
theorem dX6_onShelf_1 : decode cX6_onShelf 1 = .ok (.invokestatic 28, 3) := by decide +kernel
theorem dX6_onShelf_4 : decode cX6_onShelf 4 = .ok (.ifCond .eq 13, 3) := by decide +kernel
theorem dX6_onShelf_7 : decode cX6_onShelf 7 = .ok (.aload_n 0, 1) := by decide +kernel
theorem dX6_onShelf_8 : decode cX6_onShelf 8 = .ok (.getfield 11, 3) := by decide +kernel
theorem dX6_onShelf_11 : decode cX6_onShelf 11 = .ok (.iload_n 1, 1) := by decide +kernel
theorem dX6_onShelf_12 : decode cX6_onShelf 12 = .ok (.laload, 1) := by decide +kernel
theorem dX6_onShelf_13 : decode cX6_onShelf 13 = .ok (.l2i, 1) := by decide +kernel
theorem dX6_onShelf_14 : decode cX6_onShelf 14 = .ok (.goto 4, 3) := by decide +kernel
theorem dX6_onShelf_17 : decode cX6_onShelf 17 = .ok (.iconst (-1), 1) := by decide +kernel
theorem dX6_onShelf_18 : decode cX6_onShelf 18 = .ok (.ireturn, 1) := by decide +kernel
theorem dX6_setShelf_0 : decode cX6_setShelf 0 = .ok (.iload_n 1, 1) := by decide +kernel
theorem dX6_setShelf_1 : decode cX6_setShelf 1 = .ok (.invokestatic 28, 3) := by decide +kernel
theorem dX6_setShelf_4 : decode cX6_setShelf 4 = .ok (.ifCond .eq 11, 3) := by decide +kernel
theorem dX6_setShelf_7 : decode cX6_setShelf 7 = .ok (.aload_n 0, 1) := by decide +kernel
theorem dX6_setShelf_8 : decode cX6_setShelf 8 = .ok (.getfield 11, 3) := by decide +kernel
theorem dX6_setShelf_11 : decode cX6_setShelf 11 = .ok (.iload_n 1, 1) := by decide +kernel
theorem dX6_setShelf_12 : decode cX6_setShelf 12 = .ok (.iload_n 2, 1) := by decide +kernel
theorem dX6_setShelf_13 : decode cX6_setShelf 13 = .ok (.i2l, 1) := by decide +kernel
theorem dX6_setShelf_14 : decode cX6_setShelf 14 = .ok (.lastore, 1) := by decide +kernel
theorem dX6_setShelf_15 : decode cX6_setShelf 15 = .ok (.return_, 1) := by decide +kernel
theorem dX6_thingsMade_0 : decode cX6_thingsMade 0 = .ok (.aload_n 0, 1) := by decide +kernel
theorem dX6_thingsMade_1 : decode cX6_thingsMade 1 = .ok (.getfield 11, 3) := by decide +kernel
theorem dX6_thingsMade_4 : decode cX6_thingsMade 4 = .ok (.bipush 16, 2) := by decide +kernel
theorem dX6_thingsMade_6 : decode cX6_thingsMade 6 = .ok (.laload, 1) := by decide +kernel
theorem dX6_thingsMade_7 : decode cX6_thingsMade 7 = .ok (.l2i, 1) := by decide +kernel
theorem dX6_thingsMade_8 : decode cX6_thingsMade 8 = .ok (.ireturn, 1) := by decide +kernel
theorem dX6_add_0 : decode cX6_add 0 = .ok (.aload_n 0, 1) := by decide +kernel
theorem dX6_add_1 : decode cX6_add 1 = .ok (.invokevirtual 32, 3) := by decide +kernel
theorem dX6_add_4 : decode cX6_add 4 = .ok (.istore_n 3, 1) := by decide +kernel
theorem dX6_add_5 : decode cX6_add 5 = .ok (.aload_n 0, 1) := by decide +kernel
theorem dX6_add_6 : decode cX6_add 6 = .ok (.getfield 11, 3) := by decide +kernel
theorem dX6_add_9 : decode cX6_add 9 = .ok (.bipush 16, 2) := by decide +kernel
theorem dX6_add_11 : decode cX6_add 11 = .ok (.iload_n 3, 1) := by decide +kernel
theorem dX6_add_12 : decode cX6_add 12 = .ok (.iconst 1, 1) := by decide +kernel
theorem dX6_add_13 : decode cX6_add 13 = .ok (.iadd, 1) := by decide +kernel
theorem dX6_add_14 : decode cX6_add 14 = .ok (.i2l, 1) := by decide +kernel
theorem dX6_add_15 : decode cX6_add 15 = .ok (.lastore, 1) := by decide +kernel
theorem dX6_add_16 : decode cX6_add 16 = .ok (.aload_n 0, 1) := by decide +kernel
theorem dX6_add_17 : decode cX6_add 17 = .ok (.iload_n 3, 1) := by decide +kernel
theorem dX6_add_18 : decode cX6_add 18 = .ok (.iconst 0, 1) := by decide +kernel
theorem dX6_add_19 : decode cX6_add 19 = .ok (.iload_n 1, 1) := by decide +kernel
theorem dX6_add_20 : decode cX6_add 20 = .ok (.invokevirtual 36, 3) := by decide +kernel
theorem dX6_add_23 : decode cX6_add 23 = .ok (.aload_n 0, 1) := by decide +kernel
theorem dX6_add_24 : decode cX6_add 24 = .ok (.iload_n 3, 1) := by decide +kernel
theorem dX6_add_25 : decode cX6_add 25 = .ok (.iconst 1, 1) := by decide +kernel
theorem dX6_add_26 : decode cX6_add 26 = .ok (.iload_n 3, 1) := by decide +kernel
theorem dX6_add_27 : decode cX6_add 27 = .ok (.invokevirtual 36, 3) := by decide +kernel
theorem dX6_add_30 : decode cX6_add 30 = .ok (.iload_n 1, 1) := by decide +kernel
theorem dX6_add_31 : decode cX6_add 31 = .ok (.iconst 1, 1) := by decide +kernel
theorem dX6_add_32 : decode cX6_add 32 = .ok (.invokestatic 40, 3) := by decide +kernel
theorem dX6_add_35 : decode cX6_add 35 = .ok (.ifCond .eq 11, 3) := by decide +kernel
theorem dX6_add_38 : decode cX6_add 38 = .ok (.aload_n 0, 1) := by decide +kernel
theorem dX6_add_39 : decode cX6_add 39 = .ok (.iload_n 3, 1) := by decide +kernel
theorem dX6_add_40 : decode cX6_add 40 = .ok (.iconst 2, 1) := by decide +kernel
theorem dX6_add_41 : decode cX6_add 41 = .ok (.bipush 8, 2) := by decide +kernel
theorem dX6_add_43 : decode cX6_add 43 = .ok (.invokevirtual 36, 3) := by decide +kernel
theorem dX6_add_46 : decode cX6_add 46 = .ok (.iload_n 1, 1) := by decide +kernel
theorem dX6_add_47 : decode cX6_add 47 = .ok (.ldc 46, 2) := by decide +kernel
theorem dX6_add_49 : decode cX6_add 49 = .ok (.invokestatic 40, 3) := by decide +kernel
theorem dX6_add_52 : decode cX6_add 52 = .ok (.ifCond .eq 11, 3) := by decide +kernel
theorem dX6_add_55 : decode cX6_add 55 = .ok (.aload_n 0, 1) := by decide +kernel
theorem dX6_add_56 : decode cX6_add 56 = .ok (.iload_n 3, 1) := by decide +kernel
theorem dX6_add_57 : decode cX6_add 57 = .ok (.bipush 10, 2) := by decide +kernel
theorem dX6_add_59 : decode cX6_add 59 = .ok (.iload_n 2, 1) := by decide +kernel
theorem dX6_add_60 : decode cX6_add 60 = .ok (.invokevirtual 36, 3) := by decide +kernel
theorem dX6_add_63 : decode cX6_add 63 = .ok (.iload_n 1, 1) := by decide +kernel
theorem dX6_add_64 : decode cX6_add 64 = .ok (.ldc 47, 2) := by decide +kernel
theorem dX6_add_66 : decode cX6_add 66 = .ok (.invokestatic 40, 3) := by decide +kernel
theorem dX6_add_69 : decode cX6_add 69 = .ok (.ifCond .eq 28, 3) := by decide +kernel
theorem dX6_add_72 : decode cX6_add 72 = .ok (.iconst 0, 1) := by decide +kernel
theorem dX6_add_73 : decode cX6_add 73 = .ok (.istore 4, 2) := by decide +kernel
theorem dX6_add_75 : decode cX6_add 75 = .ok (.iload 4, 2) := by decide +kernel
theorem dX6_add_77 : decode cX6_add 77 = .ok (.iload_n 2, 1) := by decide +kernel
theorem dX6_add_78 : decode cX6_add 78 = .ok (.if_icmp .ge 19, 3) := by decide +kernel
theorem dX6_add_81 : decode cX6_add 81 = .ok (.aload_n 0, 1) := by decide +kernel
theorem dX6_add_82 : decode cX6_add 82 = .ok (.iload_n 3, 1) := by decide +kernel
theorem dX6_add_83 : decode cX6_add 83 = .ok (.iload 4, 2) := by decide +kernel
theorem dX6_add_85 : decode cX6_add 85 = .ok (.ldc2_w 26, 3) := by decide +kernel
theorem dX6_add_88 : decode cX6_add 88 = .ok (.invokevirtual 48, 3) := by decide +kernel
theorem dX6_add_91 : decode cX6_add 91 = .ok (.iinc 4 1, 3) := by decide +kernel
theorem dX6_add_94 : decode cX6_add 94 = .ok (.goto (-19), 3) := by decide +kernel
theorem dX6_add_97 : decode cX6_add 97 = .ok (.iload_n 3, 1) := by decide +kernel
theorem dX6_add_98 : decode cX6_add 98 = .ok (.ireturn, 1) := by decide +kernel
theorem dX6_trait_0 : decode cX6_trait 0 = .ok (.bipush 17, 2) := by decide +kernel
theorem dX6_trait_2 : decode cX6_trait 2 = .ok (.iload_n 1, 1) := by decide +kernel
theorem dX6_trait_3 : decode cX6_trait 3 = .ok (.bipush 23, 2) := by decide +kernel
theorem dX6_trait_5 : decode cX6_trait 5 = .ok (.imul, 1) := by decide +kernel
theorem dX6_trait_6 : decode cX6_trait 6 = .ok (.iadd, 1) := by decide +kernel
theorem dX6_trait_7 : decode cX6_trait 7 = .ok (.iload_n 2, 1) := by decide +kernel
theorem dX6_trait_8 : decode cX6_trait 8 = .ok (.iadd, 1) := by decide +kernel
theorem dX6_trait_9 : decode cX6_trait 9 = .ok (.istore_n 3, 1) := by decide +kernel
theorem dX6_trait_10 : decode cX6_trait 10 = .ok (.iload_n 3, 1) := by decide +kernel
theorem dX6_trait_11 : decode cX6_trait 11 = .ok (.bipush 17, 2) := by decide +kernel
theorem dX6_trait_13 : decode cX6_trait 13 = .ok (.if_icmp .lt 22, 3) := by decide +kernel
theorem dX6_trait_16 : decode cX6_trait 16 = .ok (.iload_n 3, 1) := by decide +kernel
theorem dX6_trait_17 : decode cX6_trait 17 = .ok (.aload_n 0, 1) := by decide +kernel
theorem dX6_trait_18 : decode cX6_trait 18 = .ok (.getfield 11, 3) := by decide +kernel
theorem dX6_trait_21 : decode cX6_trait 21 = .ok (.arraylength, 1) := by decide +kernel
theorem dX6_trait_22 : decode cX6_trait 22 = .ok (.if_icmp .ge 13, 3) := by decide +kernel
theorem dX6_trait_25 : decode cX6_trait 25 = .ok (.aload_n 0, 1) := by decide +kernel
theorem dX6_trait_26 : decode cX6_trait 26 = .ok (.getfield 11, 3) := by decide +kernel
theorem dX6_trait_29 : decode cX6_trait 29 = .ok (.iload_n 3, 1) := by decide +kernel
theorem dX6_trait_30 : decode cX6_trait 30 = .ok (.laload, 1) := by decide +kernel
theorem dX6_trait_31 : decode cX6_trait 31 = .ok (.l2i, 1) := by decide +kernel
theorem dX6_trait_32 : decode cX6_trait 32 = .ok (.goto 4, 3) := by decide +kernel
theorem dX6_trait_35 : decode cX6_trait 35 = .ok (.iconst 0, 1) := by decide +kernel
theorem dX6_trait_36 : decode cX6_trait 36 = .ok (.ireturn, 1) := by decide +kernel
theorem dX6_setTrait_0 : decode cX6_setTrait 0 = .ok (.bipush 17, 2) := by decide +kernel
theorem dX6_setTrait_2 : decode cX6_setTrait 2 = .ok (.iload_n 1, 1) := by decide +kernel
theorem dX6_setTrait_3 : decode cX6_setTrait 3 = .ok (.bipush 23, 2) := by decide +kernel
theorem dX6_setTrait_5 : decode cX6_setTrait 5 = .ok (.imul, 1) := by decide +kernel
theorem dX6_setTrait_6 : decode cX6_setTrait 6 = .ok (.iadd, 1) := by decide +kernel
theorem dX6_setTrait_7 : decode cX6_setTrait 7 = .ok (.iload_n 2, 1) := by decide +kernel
theorem dX6_setTrait_8 : decode cX6_setTrait 8 = .ok (.iadd, 1) := by decide +kernel
theorem dX6_setTrait_9 : decode cX6_setTrait 9 = .ok (.istore 4, 2) := by decide +kernel
theorem dX6_setTrait_11 : decode cX6_setTrait 11 = .ok (.iload 4, 2) := by decide +kernel
theorem dX6_setTrait_13 : decode cX6_setTrait 13 = .ok (.bipush 17, 2) := by decide +kernel
theorem dX6_setTrait_15 : decode cX6_setTrait 15 = .ok (.if_icmp .lt 22, 3) := by decide +kernel
theorem dX6_setTrait_18 : decode cX6_setTrait 18 = .ok (.iload 4, 2) := by decide +kernel
theorem dX6_setTrait_20 : decode cX6_setTrait 20 = .ok (.aload_n 0, 1) := by decide +kernel
theorem dX6_setTrait_21 : decode cX6_setTrait 21 = .ok (.getfield 11, 3) := by decide +kernel
theorem dX6_setTrait_24 : decode cX6_setTrait 24 = .ok (.arraylength, 1) := by decide +kernel
theorem dX6_setTrait_25 : decode cX6_setTrait 25 = .ok (.if_icmp .ge 12, 3) := by decide +kernel
theorem dX6_setTrait_28 : decode cX6_setTrait 28 = .ok (.aload_n 0, 1) := by decide +kernel
theorem dX6_setTrait_29 : decode cX6_setTrait 29 = .ok (.getfield 11, 3) := by decide +kernel
theorem dX6_setTrait_32 : decode cX6_setTrait 32 = .ok (.iload 4, 2) := by decide +kernel
theorem dX6_setTrait_34 : decode cX6_setTrait 34 = .ok (.iload_n 3, 1) := by decide +kernel
theorem dX6_setTrait_35 : decode cX6_setTrait 35 = .ok (.i2l, 1) := by decide +kernel
theorem dX6_setTrait_36 : decode cX6_setTrait 36 = .ok (.lastore, 1) := by decide +kernel
theorem dX6_setTrait_37 : decode cX6_setTrait 37 = .ok (.return_, 1) := by decide +kernel
theorem dX6_grow_0 : decode cX6_grow 0 = .ok (.bipush 17, 2) := by decide +kernel
theorem dX6_grow_2 : decode cX6_grow 2 = .ok (.iload_n 1, 1) := by decide +kernel
theorem dX6_grow_3 : decode cX6_grow 3 = .ok (.bipush 23, 2) := by decide +kernel
theorem dX6_grow_5 : decode cX6_grow 5 = .ok (.imul, 1) := by decide +kernel
theorem dX6_grow_6 : decode cX6_grow 6 = .ok (.iadd, 1) := by decide +kernel
theorem dX6_grow_7 : decode cX6_grow 7 = .ok (.iload_n 2, 1) := by decide +kernel
theorem dX6_grow_8 : decode cX6_grow 8 = .ok (.iadd, 1) := by decide +kernel
theorem dX6_grow_9 : decode cX6_grow 9 = .ok (.istore 4, 2) := by decide +kernel
theorem dX6_grow_11 : decode cX6_grow 11 = .ok (.iload 4, 2) := by decide +kernel
theorem dX6_grow_13 : decode cX6_grow 13 = .ok (.bipush 17, 2) := by decide +kernel
theorem dX6_grow_15 : decode cX6_grow 15 = .ok (.if_icmp .lt 31, 3) := by decide +kernel
theorem dX6_grow_18 : decode cX6_grow 18 = .ok (.iload 4, 2) := by decide +kernel
theorem dX6_grow_20 : decode cX6_grow 20 = .ok (.aload_n 0, 1) := by decide +kernel
theorem dX6_grow_21 : decode cX6_grow 21 = .ok (.getfield 11, 3) := by decide +kernel
theorem dX6_grow_24 : decode cX6_grow 24 = .ok (.arraylength, 1) := by decide +kernel
theorem dX6_grow_25 : decode cX6_grow 25 = .ok (.if_icmp .ge 21, 3) := by decide +kernel
theorem dX6_grow_28 : decode cX6_grow 28 = .ok (.aload_n 0, 1) := by decide +kernel
theorem dX6_grow_29 : decode cX6_grow 29 = .ok (.getfield 11, 3) := by decide +kernel
theorem dX6_grow_32 : decode cX6_grow 32 = .ok (.iload 4, 2) := by decide +kernel
theorem dX6_grow_34 : decode cX6_grow 34 = .ok (.aload_n 0, 1) := by decide +kernel
theorem dX6_grow_35 : decode cX6_grow 35 = .ok (.getfield 11, 3) := by decide +kernel
theorem dX6_grow_38 : decode cX6_grow 38 = .ok (.iload 4, 2) := by decide +kernel
theorem dX6_grow_40 : decode cX6_grow 40 = .ok (.laload, 1) := by decide +kernel
theorem dX6_grow_41 : decode cX6_grow 41 = .ok (.l2i, 1) := by decide +kernel
theorem dX6_grow_42 : decode cX6_grow 42 = .ok (.iload_n 3, 1) := by decide +kernel
theorem dX6_grow_43 : decode cX6_grow 43 = .ok (.iadd, 1) := by decide +kernel
theorem dX6_grow_44 : decode cX6_grow 44 = .ok (.i2l, 1) := by decide +kernel
theorem dX6_grow_45 : decode cX6_grow 45 = .ok (.lastore, 1) := by decide +kernel
theorem dX6_grow_46 : decode cX6_grow 46 = .ok (.return_, 1) := by decide +kernel
theorem dX6_isIn_0 : decode cX6_isIn 0 = .ok (.iload_n 1, 1) := by decide +kernel
theorem dX6_isIn_1 : decode cX6_isIn 1 = .ok (.iconst (-1), 1) := by decide +kernel
theorem dX6_isIn_2 : decode cX6_isIn 2 = .ok (.if_icmp .eq 20, 3) := by decide +kernel
theorem dX6_isIn_5 : decode cX6_isIn 5 = .ok (.aload_n 0, 1) := by decide +kernel
theorem dX6_isIn_6 : decode cX6_isIn 6 = .ok (.iload_n 1, 1) := by decide +kernel
theorem dX6_isIn_7 : decode cX6_isIn 7 = .ok (.iconst 0, 1) := by decide +kernel
theorem dX6_isIn_8 : decode cX6_isIn 8 = .ok (.invokevirtual 52, 3) := by decide +kernel
theorem dX6_isIn_11 : decode cX6_isIn 11 = .ok (.iload_n 2, 1) := by decide +kernel
theorem dX6_isIn_12 : decode cX6_isIn 12 = .ok (.invokestatic 40, 3) := by decide +kernel
theorem dX6_isIn_15 : decode cX6_isIn 15 = .ok (.ifCond .eq 7, 3) := by decide +kernel
theorem dX6_isIn_18 : decode cX6_isIn 18 = .ok (.iconst 1, 1) := by decide +kernel
theorem dX6_isIn_19 : decode cX6_isIn 19 = .ok (.goto 4, 3) := by decide +kernel
theorem dX6_isIn_22 : decode cX6_isIn 22 = .ok (.iconst 0, 1) := by decide +kernel
theorem dX6_isIn_23 : decode cX6_isIn 23 = .ok (.ireturn, 1) := by decide +kernel
theorem dX6_places_0 : decode cX6_places 0 = .ok (.aload_n 0, 1) := by decide +kernel
theorem dX6_places_1 : decode cX6_places 1 = .ok (.iload_n 1, 1) := by decide +kernel
theorem dX6_places_2 : decode cX6_places 2 = .ok (.bipush 10, 2) := by decide +kernel
theorem dX6_places_4 : decode cX6_places 4 = .ok (.invokevirtual 52, 3) := by decide +kernel
theorem dX6_places_7 : decode cX6_places 7 = .ok (.ireturn, 1) := by decide +kernel
theorem dX6_hasPlace_0 : decode cX6_hasPlace 0 = .ok (.iload_n 2, 1) := by decide +kernel
theorem dX6_hasPlace_1 : decode cX6_hasPlace 1 = .ok (.ifCond .lt 18, 3) := by decide +kernel
theorem dX6_hasPlace_4 : decode cX6_hasPlace 4 = .ok (.iload_n 2, 1) := by decide +kernel
theorem dX6_hasPlace_5 : decode cX6_hasPlace 5 = .ok (.aload_n 0, 1) := by decide +kernel
theorem dX6_hasPlace_6 : decode cX6_hasPlace 6 = .ok (.iload_n 1, 1) := by decide +kernel
theorem dX6_hasPlace_7 : decode cX6_hasPlace 7 = .ok (.bipush 10, 2) := by decide +kernel
theorem dX6_hasPlace_9 : decode cX6_hasPlace 9 = .ok (.invokevirtual 52, 3) := by decide +kernel
theorem dX6_hasPlace_12 : decode cX6_hasPlace 12 = .ok (.if_icmp .ge 7, 3) := by decide +kernel
theorem dX6_hasPlace_15 : decode cX6_hasPlace 15 = .ok (.iconst 1, 1) := by decide +kernel
theorem dX6_hasPlace_16 : decode cX6_hasPlace 16 = .ok (.goto 4, 3) := by decide +kernel
theorem dX6_hasPlace_19 : decode cX6_hasPlace 19 = .ok (.iconst 0, 1) := by decide +kernel
theorem dX6_hasPlace_20 : decode cX6_hasPlace 20 = .ok (.ireturn, 1) := by decide +kernel
theorem dX6_hasPlaces_0 : decode cX6_hasPlaces 0 = .ok (.iload_n 2, 1) := by decide +kernel
theorem dX6_hasPlaces_1 : decode cX6_hasPlaces 1 = .ok (.ifCond .lt 28, 3) := by decide +kernel
theorem dX6_hasPlaces_4 : decode cX6_hasPlaces 4 = .ok (.iload_n 3, 1) := by decide +kernel
theorem dX6_hasPlaces_5 : decode cX6_hasPlaces 5 = .ok (.ifCond .lt 24, 3) := by decide +kernel
theorem dX6_hasPlaces_8 : decode cX6_hasPlaces 8 = .ok (.iload_n 2, 1) := by decide +kernel
theorem dX6_hasPlaces_9 : decode cX6_hasPlaces 9 = .ok (.i2l, 1) := by decide +kernel
theorem dX6_hasPlaces_10 : decode cX6_hasPlaces 10 = .ok (.iload_n 3, 1) := by decide +kernel
theorem dX6_hasPlaces_11 : decode cX6_hasPlaces 11 = .ok (.i2l, 1) := by decide +kernel
theorem dX6_hasPlaces_12 : decode cX6_hasPlaces 12 = .ok (.ladd, 1) := by decide +kernel
theorem dX6_hasPlaces_13 : decode cX6_hasPlaces 13 = .ok (.aload_n 0, 1) := by decide +kernel
theorem dX6_hasPlaces_14 : decode cX6_hasPlaces 14 = .ok (.iload_n 1, 1) := by decide +kernel
theorem dX6_hasPlaces_15 : decode cX6_hasPlaces 15 = .ok (.bipush 10, 2) := by decide +kernel
theorem dX6_hasPlaces_17 : decode cX6_hasPlaces 17 = .ok (.invokevirtual 52, 3) := by decide +kernel
theorem dX6_hasPlaces_20 : decode cX6_hasPlaces 20 = .ok (.i2l, 1) := by decide +kernel
theorem dX6_hasPlaces_21 : decode cX6_hasPlaces 21 = .ok (.lcmp, 1) := by decide +kernel
theorem dX6_hasPlaces_22 : decode cX6_hasPlaces 22 = .ok (.ifCond .gt 7, 3) := by decide +kernel
theorem dX6_hasPlaces_25 : decode cX6_hasPlaces 25 = .ok (.iconst 1, 1) := by decide +kernel
theorem dX6_hasPlaces_26 : decode cX6_hasPlaces 26 = .ok (.goto 4, 3) := by decide +kernel
theorem dX6_hasPlaces_29 : decode cX6_hasPlaces 29 = .ok (.iconst 0, 1) := by decide +kernel
theorem dX6_hasPlaces_30 : decode cX6_hasPlaces 30 = .ok (.ireturn, 1) := by decide +kernel
theorem dX6_placeCell_0 : decode cX6_placeCell 0 = .ok (.bipush 17, 2) := by decide +kernel
theorem dX6_placeCell_2 : decode cX6_placeCell 2 = .ok (.iload_n 0, 1) := by decide +kernel
theorem dX6_placeCell_3 : decode cX6_placeCell 3 = .ok (.bipush 23, 2) := by decide +kernel
theorem dX6_placeCell_5 : decode cX6_placeCell 5 = .ok (.imul, 1) := by decide +kernel
theorem dX6_placeCell_6 : decode cX6_placeCell 6 = .ok (.iadd, 1) := by decide +kernel
theorem dX6_placeCell_7 : decode cX6_placeCell 7 = .ok (.bipush 11, 2) := by decide +kernel
theorem dX6_placeCell_9 : decode cX6_placeCell 9 = .ok (.iadd, 1) := by decide +kernel
theorem dX6_placeCell_10 : decode cX6_placeCell 10 = .ok (.iload_n 1, 1) := by decide +kernel
theorem dX6_placeCell_11 : decode cX6_placeCell 11 = .ok (.iadd, 1) := by decide +kernel
theorem dX6_placeCell_12 : decode cX6_placeCell 12 = .ok (.ireturn, 1) := by decide +kernel
theorem dX6_atPlace_0 : decode cX6_atPlace 0 = .ok (.iload_n 2, 1) := by decide +kernel
theorem dX6_atPlace_1 : decode cX6_atPlace 1 = .ok (.ifCond .lt 27, 3) := by decide +kernel
theorem dX6_atPlace_4 : decode cX6_atPlace 4 = .ok (.iload_n 2, 1) := by decide +kernel
theorem dX6_atPlace_5 : decode cX6_atPlace 5 = .ok (.aload_n 0, 1) := by decide +kernel
theorem dX6_atPlace_6 : decode cX6_atPlace 6 = .ok (.iload_n 1, 1) := by decide +kernel
theorem dX6_atPlace_7 : decode cX6_atPlace 7 = .ok (.bipush 10, 2) := by decide +kernel
theorem dX6_atPlace_9 : decode cX6_atPlace 9 = .ok (.invokevirtual 52, 3) := by decide +kernel
theorem dX6_atPlace_12 : decode cX6_atPlace 12 = .ok (.if_icmp .ge 16, 3) := by decide +kernel
theorem dX6_atPlace_15 : decode cX6_atPlace 15 = .ok (.aload_n 0, 1) := by decide +kernel
theorem dX6_atPlace_16 : decode cX6_atPlace 16 = .ok (.getfield 11, 3) := by decide +kernel
theorem dX6_atPlace_19 : decode cX6_atPlace 19 = .ok (.iload_n 1, 1) := by decide +kernel
theorem dX6_atPlace_20 : decode cX6_atPlace 20 = .ok (.iload_n 2, 1) := by decide +kernel
theorem dX6_atPlace_21 : decode cX6_atPlace 21 = .ok (.invokestatic 56, 3) := by decide +kernel
theorem dX6_atPlace_24 : decode cX6_atPlace 24 = .ok (.laload, 1) := by decide +kernel
theorem dX6_atPlace_25 : decode cX6_atPlace 25 = .ok (.goto 6, 3) := by decide +kernel
theorem dX6_atPlace_28 : decode cX6_atPlace 28 = .ok (.ldc2_w 26, 3) := by decide +kernel
theorem dX6_atPlace_31 : decode cX6_atPlace 31 = .ok (.lreturn, 1) := by decide +kernel
theorem dX6_setPlace_0 : decode cX6_setPlace 0 = .ok (.aload_n 0, 1) := by decide +kernel
theorem dX6_setPlace_1 : decode cX6_setPlace 1 = .ok (.iload_n 1, 1) := by decide +kernel
theorem dX6_setPlace_2 : decode cX6_setPlace 2 = .ok (.iload_n 2, 1) := by decide +kernel
theorem dX6_setPlace_3 : decode cX6_setPlace 3 = .ok (.invokevirtual 59, 3) := by decide +kernel
theorem dX6_setPlace_6 : decode cX6_setPlace 6 = .ok (.ifCond .eq 14, 3) := by decide +kernel
theorem dX6_setPlace_9 : decode cX6_setPlace 9 = .ok (.aload_n 0, 1) := by decide +kernel
theorem dX6_setPlace_10 : decode cX6_setPlace 10 = .ok (.getfield 11, 3) := by decide +kernel
theorem dX6_setPlace_13 : decode cX6_setPlace 13 = .ok (.iload_n 1, 1) := by decide +kernel
theorem dX6_setPlace_14 : decode cX6_setPlace 14 = .ok (.iload_n 2, 1) := by decide +kernel
theorem dX6_setPlace_15 : decode cX6_setPlace 15 = .ok (.invokestatic 56, 3) := by decide +kernel
theorem dX6_setPlace_18 : decode cX6_setPlace 18 = .ok (.lload_n 3, 1) := by decide +kernel
theorem dX6_setPlace_19 : decode cX6_setPlace 19 = .ok (.lastore, 1) := by decide +kernel
theorem dX6_setPlace_20 : decode cX6_setPlace 20 = .ok (.return_, 1) := by decide +kernel
theorem dX6_fits_0 : decode cX6_fits 0 = .ok (.iload_n 1, 1) := by decide +kernel
theorem dX6_fits_1 : decode cX6_fits 1 = .ok (.iconst (-1), 1) := by decide +kernel
theorem dX6_fits_2 : decode cX6_fits 2 = .ok (.if_icmp .eq 20, 3) := by decide +kernel
theorem dX6_fits_5 : decode cX6_fits 5 = .ok (.aload_n 0, 1) := by decide +kernel
theorem dX6_fits_6 : decode cX6_fits 6 = .ok (.iload_n 1, 1) := by decide +kernel
theorem dX6_fits_7 : decode cX6_fits 7 = .ok (.aload_n 0, 1) := by decide +kernel
theorem dX6_fits_8 : decode cX6_fits 8 = .ok (.iload_n 2, 1) := by decide +kernel
theorem dX6_fits_9 : decode cX6_fits 9 = .ok (.iconst 0, 1) := by decide +kernel
theorem dX6_fits_10 : decode cX6_fits 10 = .ok (.invokevirtual 52, 3) := by decide +kernel
theorem dX6_fits_13 : decode cX6_fits 13 = .ok (.invokestatic 62, 3) := by decide +kernel
theorem dX6_fits_16 : decode cX6_fits 16 = .ok (.invokevirtual 66, 3) := by decide +kernel
theorem dX6_fits_19 : decode cX6_fits 19 = .ok (.ifCond .eq 7, 3) := by decide +kernel
theorem dX6_fits_22 : decode cX6_fits 22 = .ok (.iconst 1, 1) := by decide +kernel
theorem dX6_fits_23 : decode cX6_fits 23 = .ok (.goto 4, 3) := by decide +kernel
theorem dX6_fits_26 : decode cX6_fits 26 = .ok (.iconst 0, 1) := by decide +kernel
theorem dX6_fits_27 : decode cX6_fits 27 = .ok (.ireturn, 1) := by decide +kernel
theorem dX6_howManyFit_0 : decode cX6_howManyFit 0 = .ok (.aload_n 0, 1) := by decide +kernel
theorem dX6_howManyFit_1 : decode cX6_howManyFit 1 = .ok (.iload_n 1, 1) := by decide +kernel
theorem dX6_howManyFit_2 : decode cX6_howManyFit 2 = .ok (.ldc 69, 2) := by decide +kernel
theorem dX6_howManyFit_4 : decode cX6_howManyFit 4 = .ok (.invokevirtual 66, 3) := by decide +kernel
theorem dX6_howManyFit_7 : decode cX6_howManyFit 7 = .ok (.ifCond .eq 6, 3) := by decide +kernel
theorem dX6_howManyFit_10 : decode cX6_howManyFit 10 = .ok (.iload 4, 2) := by decide +kernel
theorem dX6_howManyFit_12 : decode cX6_howManyFit 12 = .ok (.ireturn, 1) := by decide +kernel
theorem dX6_howManyFit_13 : decode cX6_howManyFit 13 = .ok (.iconst 0, 1) := by decide +kernel
theorem dX6_howManyFit_14 : decode cX6_howManyFit 14 = .ok (.istore 5, 2) := by decide +kernel
theorem dX6_howManyFit_16 : decode cX6_howManyFit 16 = .ok (.iload 5, 2) := by decide +kernel
theorem dX6_howManyFit_18 : decode cX6_howManyFit 18 = .ok (.iload 4, 2) := by decide +kernel
theorem dX6_howManyFit_20 : decode cX6_howManyFit 20 = .ok (.if_icmp .ge 27, 3) := by decide +kernel
theorem dX6_howManyFit_23 : decode cX6_howManyFit 23 = .ok (.aload_n 0, 1) := by decide +kernel
theorem dX6_howManyFit_24 : decode cX6_howManyFit 24 = .ok (.aload_n 0, 1) := by decide +kernel
theorem dX6_howManyFit_25 : decode cX6_howManyFit 25 = .ok (.iload_n 1, 1) := by decide +kernel
theorem dX6_howManyFit_26 : decode cX6_howManyFit 26 = .ok (.iload_n 2, 1) := by decide +kernel
theorem dX6_howManyFit_27 : decode cX6_howManyFit 27 = .ok (.iload 5, 2) := by decide +kernel
theorem dX6_howManyFit_29 : decode cX6_howManyFit 29 = .ok (.iadd, 1) := by decide +kernel
theorem dX6_howManyFit_30 : decode cX6_howManyFit 30 = .ok (.invokevirtual 70, 3) := by decide +kernel
theorem dX6_howManyFit_33 : decode cX6_howManyFit 33 = .ok (.l2i, 1) := by decide +kernel
theorem dX6_howManyFit_34 : decode cX6_howManyFit 34 = .ok (.iload_n 3, 1) := by decide +kernel
theorem dX6_howManyFit_35 : decode cX6_howManyFit 35 = .ok (.invokevirtual 74, 3) := by decide +kernel
theorem dX6_howManyFit_38 : decode cX6_howManyFit 38 = .ok (.ifCond .eq 9, 3) := by decide +kernel
theorem dX6_howManyFit_41 : decode cX6_howManyFit 41 = .ok (.iinc 5 1, 3) := by decide +kernel
theorem dX6_howManyFit_44 : decode cX6_howManyFit 44 = .ok (.goto (-28), 3) := by decide +kernel
theorem dX6_howManyFit_47 : decode cX6_howManyFit 47 = .ok (.iload 5, 2) := by decide +kernel
theorem dX6_howManyFit_49 : decode cX6_howManyFit 49 = .ok (.ireturn, 1) := by decide +kernel
theorem dX6_movePlaces_0 : decode cX6_movePlaces 0 = .ok (.aload_n 0, 1) := by decide +kernel
theorem dX6_movePlaces_1 : decode cX6_movePlaces 1 = .ok (.iload_n 1, 1) := by decide +kernel
theorem dX6_movePlaces_2 : decode cX6_movePlaces 2 = .ok (.iload_n 2, 1) := by decide +kernel
theorem dX6_movePlaces_3 : decode cX6_movePlaces 3 = .ok (.iload 5, 2) := by decide +kernel
theorem dX6_movePlaces_5 : decode cX6_movePlaces 5 = .ok (.invokevirtual 77, 3) := by decide +kernel
theorem dX6_movePlaces_8 : decode cX6_movePlaces 8 = .ok (.ifCond .eq 39, 3) := by decide +kernel
theorem dX6_movePlaces_11 : decode cX6_movePlaces 11 = .ok (.aload_n 0, 1) := by decide +kernel
theorem dX6_movePlaces_12 : decode cX6_movePlaces 12 = .ok (.iload_n 3, 1) := by decide +kernel
theorem dX6_movePlaces_13 : decode cX6_movePlaces 13 = .ok (.iload 4, 2) := by decide +kernel
theorem dX6_movePlaces_15 : decode cX6_movePlaces 15 = .ok (.iload 5, 2) := by decide +kernel
theorem dX6_movePlaces_17 : decode cX6_movePlaces 17 = .ok (.invokevirtual 77, 3) := by decide +kernel
theorem dX6_movePlaces_20 : decode cX6_movePlaces 20 = .ok (.ifCond .eq 27, 3) := by decide +kernel
theorem dX6_movePlaces_23 : decode cX6_movePlaces 23 = .ok (.aload_n 0, 1) := by decide +kernel
theorem dX6_movePlaces_24 : decode cX6_movePlaces 24 = .ok (.getfield 11, 3) := by decide +kernel
theorem dX6_movePlaces_27 : decode cX6_movePlaces 27 = .ok (.iload_n 1, 1) := by decide +kernel
theorem dX6_movePlaces_28 : decode cX6_movePlaces 28 = .ok (.iload_n 2, 1) := by decide +kernel
theorem dX6_movePlaces_29 : decode cX6_movePlaces 29 = .ok (.invokestatic 56, 3) := by decide +kernel
theorem dX6_movePlaces_32 : decode cX6_movePlaces 32 = .ok (.aload_n 0, 1) := by decide +kernel
theorem dX6_movePlaces_33 : decode cX6_movePlaces 33 = .ok (.getfield 11, 3) := by decide +kernel
theorem dX6_movePlaces_36 : decode cX6_movePlaces 36 = .ok (.iload_n 3, 1) := by decide +kernel
theorem dX6_movePlaces_37 : decode cX6_movePlaces 37 = .ok (.iload 4, 2) := by decide +kernel
theorem dX6_movePlaces_39 : decode cX6_movePlaces 39 = .ok (.invokestatic 56, 3) := by decide +kernel
theorem dX6_movePlaces_42 : decode cX6_movePlaces 42 = .ok (.iload 5, 2) := by decide +kernel
theorem dX6_movePlaces_44 : decode cX6_movePlaces 44 = .ok (.invokestatic 81, 3) := by decide +kernel
theorem dX6_movePlaces_47 : decode cX6_movePlaces 47 = .ok (.return_, 1) := by decide +kernel
theorem dX6_isHistoryFull_0 : decode cX6_isHistoryFull 0 = .ok (.aload_n 0, 1) := by decide +kernel
theorem dX6_isHistoryFull_1 : decode cX6_isHistoryFull 1 = .ok (.getfield 22, 3) := by decide +kernel
theorem dX6_isHistoryFull_4 : decode cX6_isHistoryFull 4 = .ok (.sipush 512, 3) := by decide +kernel
theorem dX6_isHistoryFull_7 : decode cX6_isHistoryFull 7 = .ok (.if_icmp .lt 7, 3) := by decide +kernel
theorem dX6_isHistoryFull_10 : decode cX6_isHistoryFull 10 = .ok (.iconst 1, 1) := by decide +kernel
theorem dX6_isHistoryFull_11 : decode cX6_isHistoryFull 11 = .ok (.goto 4, 3) := by decide +kernel
theorem dX6_isHistoryFull_14 : decode cX6_isHistoryFull 14 = .ok (.iconst 0, 1) := by decide +kernel
theorem dX6_isHistoryFull_15 : decode cX6_isHistoryFull 15 = .ok (.ireturn, 1) := by decide +kernel
theorem dX6_cellsInUse_0 : decode cX6_cellsInUse 0 = .ok (.bipush 17, 2) := by decide +kernel
theorem dX6_cellsInUse_2 : decode cX6_cellsInUse 2 = .ok (.aload_n 0, 1) := by decide +kernel
theorem dX6_cellsInUse_3 : decode cX6_cellsInUse 3 = .ok (.invokevirtual 32, 3) := by decide +kernel
theorem dX6_cellsInUse_6 : decode cX6_cellsInUse 6 = .ok (.bipush 23, 2) := by decide +kernel
theorem dX6_cellsInUse_8 : decode cX6_cellsInUse 8 = .ok (.imul, 1) := by decide +kernel
theorem dX6_cellsInUse_9 : decode cX6_cellsInUse 9 = .ok (.iadd, 1) := by decide +kernel
theorem dX6_cellsInUse_10 : decode cX6_cellsInUse 10 = .ok (.sipush 1397, 3) := by decide +kernel
theorem dX6_cellsInUse_13 : decode cX6_cellsInUse 13 = .ok (.invokestatic 87, 3) := by decide +kernel
theorem dX6_cellsInUse_16 : decode cX6_cellsInUse 16 = .ok (.ireturn, 1) := by decide +kernel
theorem dX6_countChanges_0 : decode cX6_countChanges 0 = .ok (.iconst 0, 1) := by decide +kernel
theorem dX6_countChanges_1 : decode cX6_countChanges 1 = .ok (.istore_n 2, 1) := by decide +kernel
theorem dX6_countChanges_2 : decode cX6_countChanges 2 = .ok (.iconst 0, 1) := by decide +kernel
theorem dX6_countChanges_3 : decode cX6_countChanges 3 = .ok (.istore_n 3, 1) := by decide +kernel
theorem dX6_countChanges_4 : decode cX6_countChanges 4 = .ok (.iload_n 3, 1) := by decide +kernel
theorem dX6_countChanges_5 : decode cX6_countChanges 5 = .ok (.iload_n 1, 1) := by decide +kernel
theorem dX6_countChanges_6 : decode cX6_countChanges 6 = .ok (.if_icmp .ge 28, 3) := by decide +kernel
theorem dX6_countChanges_9 : decode cX6_countChanges 9 = .ok (.aload_n 0, 1) := by decide +kernel
theorem dX6_countChanges_10 : decode cX6_countChanges 10 = .ok (.getfield 11, 3) := by decide +kernel
theorem dX6_countChanges_13 : decode cX6_countChanges 13 = .ok (.iload_n 3, 1) := by decide +kernel
theorem dX6_countChanges_14 : decode cX6_countChanges 14 = .ok (.laload, 1) := by decide +kernel
theorem dX6_countChanges_15 : decode cX6_countChanges 15 = .ok (.aload_n 0, 1) := by decide +kernel
theorem dX6_countChanges_16 : decode cX6_countChanges 16 = .ok (.getfield 15, 3) := by decide +kernel
theorem dX6_countChanges_19 : decode cX6_countChanges 19 = .ok (.iload_n 3, 1) := by decide +kernel
theorem dX6_countChanges_20 : decode cX6_countChanges 20 = .ok (.laload, 1) := by decide +kernel
theorem dX6_countChanges_21 : decode cX6_countChanges 21 = .ok (.lcmp, 1) := by decide +kernel
theorem dX6_countChanges_22 : decode cX6_countChanges 22 = .ok (.ifCond .eq 6, 3) := by decide +kernel
theorem dX6_countChanges_25 : decode cX6_countChanges 25 = .ok (.iinc 2 1, 3) := by decide +kernel
theorem dX6_countChanges_28 : decode cX6_countChanges 28 = .ok (.iinc 3 1, 3) := by decide +kernel
theorem dX6_countChanges_31 : decode cX6_countChanges 31 = .ok (.goto (-27), 3) := by decide +kernel
theorem dX6_countChanges_34 : decode cX6_countChanges 34 = .ok (.iload_n 2, 1) := by decide +kernel
theorem dX6_countChanges_35 : decode cX6_countChanges 35 = .ok (.ireturn, 1) := by decide +kernel
theorem dX6_keepAct_0 : decode cX6_keepAct 0 = .ok (.aload_n 0, 1) := by decide +kernel
theorem dX6_keepAct_1 : decode cX6_keepAct 1 = .ok (.invokevirtual 92, 3) := by decide +kernel
theorem dX6_keepAct_4 : decode cX6_keepAct 4 = .ok (.istore_n 1, 1) := by decide +kernel
theorem dX6_keepAct_5 : decode cX6_keepAct 5 = .ok (.new 95, 3) := by decide +kernel
theorem dX6_keepAct_8 : decode cX6_keepAct 8 = .ok (.dup, 1) := by decide +kernel
theorem dX6_keepAct_9 : decode cX6_keepAct 9 = .ok (.aload_n 0, 1) := by decide +kernel
theorem dX6_keepAct_10 : decode cX6_keepAct 10 = .ok (.iload_n 1, 1) := by decide +kernel
theorem dX6_keepAct_11 : decode cX6_keepAct 11 = .ok (.invokevirtual 97, 3) := by decide +kernel
theorem dX6_keepAct_14 : decode cX6_keepAct 14 = .ok (.aload_n 0, 1) := by decide +kernel
theorem dX6_keepAct_15 : decode cX6_keepAct 15 = .ok (.getfield 18, 3) := by decide +kernel
theorem dX6_keepAct_18 : decode cX6_keepAct 18 = .ok (.invokespecial 100, 3) := by decide +kernel
theorem dX6_keepAct_21 : decode cX6_keepAct 21 = .ok (.astore_n 2, 1) := by decide +kernel
theorem dX6_keepAct_22 : decode cX6_keepAct 22 = .ok (.iconst 0, 1) := by decide +kernel
theorem dX6_keepAct_23 : decode cX6_keepAct 23 = .ok (.istore_n 3, 1) := by decide +kernel
theorem dX6_keepAct_24 : decode cX6_keepAct 24 = .ok (.iconst 0, 1) := by decide +kernel
theorem dX6_keepAct_25 : decode cX6_keepAct 25 = .ok (.istore 4, 2) := by decide +kernel
theorem dX6_keepAct_27 : decode cX6_keepAct 27 = .ok (.iload 4, 2) := by decide +kernel
theorem dX6_keepAct_29 : decode cX6_keepAct 29 = .ok (.iload_n 1, 1) := by decide +kernel
theorem dX6_keepAct_30 : decode cX6_keepAct 30 = .ok (.if_icmp .ge 73, 3) := by decide +kernel
theorem dX6_keepAct_33 : decode cX6_keepAct 33 = .ok (.iload_n 3, 1) := by decide +kernel
theorem dX6_keepAct_34 : decode cX6_keepAct 34 = .ok (.aload_n 2, 1) := by decide +kernel
theorem dX6_keepAct_35 : decode cX6_keepAct 35 = .ok (.getfield 103, 3) := by decide +kernel
theorem dX6_keepAct_38 : decode cX6_keepAct 38 = .ok (.if_icmp .ge 65, 3) := by decide +kernel
theorem dX6_keepAct_41 : decode cX6_keepAct 41 = .ok (.aload_n 0, 1) := by decide +kernel
theorem dX6_keepAct_42 : decode cX6_keepAct 42 = .ok (.getfield 11, 3) := by decide +kernel
theorem dX6_keepAct_45 : decode cX6_keepAct 45 = .ok (.iload 4, 2) := by decide +kernel
theorem dX6_keepAct_47 : decode cX6_keepAct 47 = .ok (.laload, 1) := by decide +kernel
theorem dX6_keepAct_48 : decode cX6_keepAct 48 = .ok (.aload_n 0, 1) := by decide +kernel
theorem dX6_keepAct_49 : decode cX6_keepAct 49 = .ok (.getfield 15, 3) := by decide +kernel
theorem dX6_keepAct_52 : decode cX6_keepAct 52 = .ok (.iload 4, 2) := by decide +kernel
theorem dX6_keepAct_54 : decode cX6_keepAct 54 = .ok (.laload, 1) := by decide +kernel
theorem dX6_keepAct_55 : decode cX6_keepAct 55 = .ok (.lcmp, 1) := by decide +kernel
theorem dX6_keepAct_56 : decode cX6_keepAct 56 = .ok (.ifCond .eq 41, 3) := by decide +kernel
theorem dX6_keepAct_59 : decode cX6_keepAct 59 = .ok (.aload_n 2, 1) := by decide +kernel
theorem dX6_keepAct_60 : decode cX6_keepAct 60 = .ok (.getfield 106, 3) := by decide +kernel
theorem dX6_keepAct_63 : decode cX6_keepAct 63 = .ok (.iload_n 3, 1) := by decide +kernel
theorem dX6_keepAct_64 : decode cX6_keepAct 64 = .ok (.iload 4, 2) := by decide +kernel
theorem dX6_keepAct_66 : decode cX6_keepAct 66 = .ok (.iastore, 1) := by decide +kernel
theorem dX6_keepAct_67 : decode cX6_keepAct 67 = .ok (.aload_n 2, 1) := by decide +kernel
theorem dX6_keepAct_68 : decode cX6_keepAct 68 = .ok (.getfield 109, 3) := by decide +kernel
theorem dX6_keepAct_71 : decode cX6_keepAct 71 = .ok (.iload_n 3, 1) := by decide +kernel
theorem dX6_keepAct_72 : decode cX6_keepAct 72 = .ok (.aload_n 0, 1) := by decide +kernel
theorem dX6_keepAct_73 : decode cX6_keepAct 73 = .ok (.getfield 15, 3) := by decide +kernel
theorem dX6_keepAct_76 : decode cX6_keepAct 76 = .ok (.iload 4, 2) := by decide +kernel
theorem dX6_keepAct_78 : decode cX6_keepAct 78 = .ok (.laload, 1) := by decide +kernel
theorem dX6_keepAct_79 : decode cX6_keepAct 79 = .ok (.lastore, 1) := by decide +kernel
theorem dX6_keepAct_80 : decode cX6_keepAct 80 = .ok (.aload_n 0, 1) := by decide +kernel
theorem dX6_keepAct_81 : decode cX6_keepAct 81 = .ok (.getfield 15, 3) := by decide +kernel
theorem dX6_keepAct_84 : decode cX6_keepAct 84 = .ok (.iload 4, 2) := by decide +kernel
theorem dX6_keepAct_86 : decode cX6_keepAct 86 = .ok (.aload_n 0, 1) := by decide +kernel
theorem dX6_keepAct_87 : decode cX6_keepAct 87 = .ok (.getfield 11, 3) := by decide +kernel
theorem dX6_keepAct_90 : decode cX6_keepAct 90 = .ok (.iload 4, 2) := by decide +kernel
theorem dX6_keepAct_92 : decode cX6_keepAct 92 = .ok (.laload, 1) := by decide +kernel
theorem dX6_keepAct_93 : decode cX6_keepAct 93 = .ok (.lastore, 1) := by decide +kernel
theorem dX6_keepAct_94 : decode cX6_keepAct 94 = .ok (.iinc 3 1, 3) := by decide +kernel
theorem dX6_keepAct_97 : decode cX6_keepAct 97 = .ok (.iinc 4 1, 3) := by decide +kernel
theorem dX6_keepAct_100 : decode cX6_keepAct 100 = .ok (.goto (-73), 3) := by decide +kernel
theorem dX6_keepAct_103 : decode cX6_keepAct 103 = .ok (.aload_n 0, 1) := by decide +kernel
theorem dX6_keepAct_104 : decode cX6_keepAct 104 = .ok (.aload_n 2, 1) := by decide +kernel
theorem dX6_keepAct_105 : decode cX6_keepAct 105 = .ok (.putfield 18, 3) := by decide +kernel
theorem dX6_keepAct_108 : decode cX6_keepAct 108 = .ok (.aload_n 0, 1) := by decide +kernel
theorem dX6_keepAct_109 : decode cX6_keepAct 109 = .ok (.dup, 1) := by decide +kernel
theorem dX6_keepAct_110 : decode cX6_keepAct 110 = .ok (.getfield 22, 3) := by decide +kernel
theorem dX6_keepAct_113 : decode cX6_keepAct 113 = .ok (.iconst 1, 1) := by decide +kernel
theorem dX6_keepAct_114 : decode cX6_keepAct 114 = .ok (.iadd, 1) := by decide +kernel
theorem dX6_keepAct_115 : decode cX6_keepAct 115 = .ok (.putfield 22, 3) := by decide +kernel
theorem dX6_keepAct_118 : decode cX6_keepAct 118 = .ok (.return_, 1) := by decide +kernel
theorem dX6_dropChanges_0 : decode cX6_dropChanges 0 = .ok (.aload_n 0, 1) := by decide +kernel
theorem dX6_dropChanges_1 : decode cX6_dropChanges 1 = .ok (.getfield 15, 3) := by decide +kernel
theorem dX6_dropChanges_4 : decode cX6_dropChanges 4 = .ok (.iconst 0, 1) := by decide +kernel
theorem dX6_dropChanges_5 : decode cX6_dropChanges 5 = .ok (.aload_n 0, 1) := by decide +kernel
theorem dX6_dropChanges_6 : decode cX6_dropChanges 6 = .ok (.getfield 11, 3) := by decide +kernel
theorem dX6_dropChanges_9 : decode cX6_dropChanges 9 = .ok (.iconst 0, 1) := by decide +kernel
theorem dX6_dropChanges_10 : decode cX6_dropChanges 10 = .ok (.sipush 1397, 3) := by decide +kernel
theorem dX6_dropChanges_13 : decode cX6_dropChanges 13 = .ok (.invokestatic 81, 3) := by decide +kernel
theorem dX6_dropChanges_16 : decode cX6_dropChanges 16 = .ok (.return_, 1) := by decide +kernel
theorem dX6_takeBackAct_0 : decode cX6_takeBackAct 0 = .ok (.aload_n 0, 1) := by decide +kernel
theorem dX6_takeBackAct_1 : decode cX6_takeBackAct 1 = .ok (.getfield 18, 3) := by decide +kernel
theorem dX6_takeBackAct_4 : decode cX6_takeBackAct 4 = .ok (.ifnonnull 4, 3) := by decide +kernel
theorem dX6_takeBackAct_7 : decode cX6_takeBackAct 7 = .ok (.return_, 1) := by decide +kernel
theorem dX6_takeBackAct_8 : decode cX6_takeBackAct 8 = .ok (.iconst 0, 1) := by decide +kernel
theorem dX6_takeBackAct_9 : decode cX6_takeBackAct 9 = .ok (.istore_n 1, 1) := by decide +kernel
theorem dX6_takeBackAct_10 : decode cX6_takeBackAct 10 = .ok (.iload_n 1, 1) := by decide +kernel
theorem dX6_takeBackAct_11 : decode cX6_takeBackAct 11 = .ok (.aload_n 0, 1) := by decide +kernel
theorem dX6_takeBackAct_12 : decode cX6_takeBackAct 12 = .ok (.getfield 18, 3) := by decide +kernel
theorem dX6_takeBackAct_15 : decode cX6_takeBackAct 15 = .ok (.getfield 103, 3) := by decide +kernel
theorem dX6_takeBackAct_18 : decode cX6_takeBackAct 18 = .ok (.if_icmp .ge 60, 3) := by decide +kernel
theorem dX6_takeBackAct_21 : decode cX6_takeBackAct 21 = .ok (.aload_n 0, 1) := by decide +kernel
theorem dX6_takeBackAct_22 : decode cX6_takeBackAct 22 = .ok (.getfield 18, 3) := by decide +kernel
theorem dX6_takeBackAct_25 : decode cX6_takeBackAct 25 = .ok (.getfield 106, 3) := by decide +kernel
theorem dX6_takeBackAct_28 : decode cX6_takeBackAct 28 = .ok (.iload_n 1, 1) := by decide +kernel
theorem dX6_takeBackAct_29 : decode cX6_takeBackAct 29 = .ok (.iaload, 1) := by decide +kernel
theorem dX6_takeBackAct_30 : decode cX6_takeBackAct 30 = .ok (.istore_n 2, 1) := by decide +kernel
theorem dX6_takeBackAct_31 : decode cX6_takeBackAct 31 = .ok (.iload_n 2, 1) := by decide +kernel
theorem dX6_takeBackAct_32 : decode cX6_takeBackAct 32 = .ok (.ifCond .lt 40, 3) := by decide +kernel
theorem dX6_takeBackAct_35 : decode cX6_takeBackAct 35 = .ok (.iload_n 2, 1) := by decide +kernel
theorem dX6_takeBackAct_36 : decode cX6_takeBackAct 36 = .ok (.sipush 1397, 3) := by decide +kernel
theorem dX6_takeBackAct_39 : decode cX6_takeBackAct 39 = .ok (.if_icmp .ge 33, 3) := by decide +kernel
theorem dX6_takeBackAct_42 : decode cX6_takeBackAct 42 = .ok (.aload_n 0, 1) := by decide +kernel
theorem dX6_takeBackAct_43 : decode cX6_takeBackAct 43 = .ok (.getfield 11, 3) := by decide +kernel
theorem dX6_takeBackAct_46 : decode cX6_takeBackAct 46 = .ok (.iload_n 2, 1) := by decide +kernel
theorem dX6_takeBackAct_47 : decode cX6_takeBackAct 47 = .ok (.aload_n 0, 1) := by decide +kernel
theorem dX6_takeBackAct_48 : decode cX6_takeBackAct 48 = .ok (.getfield 18, 3) := by decide +kernel
theorem dX6_takeBackAct_51 : decode cX6_takeBackAct 51 = .ok (.getfield 109, 3) := by decide +kernel
theorem dX6_takeBackAct_54 : decode cX6_takeBackAct 54 = .ok (.iload_n 1, 1) := by decide +kernel
theorem dX6_takeBackAct_55 : decode cX6_takeBackAct 55 = .ok (.laload, 1) := by decide +kernel
theorem dX6_takeBackAct_56 : decode cX6_takeBackAct 56 = .ok (.lastore, 1) := by decide +kernel
theorem dX6_takeBackAct_57 : decode cX6_takeBackAct 57 = .ok (.aload_n 0, 1) := by decide +kernel
theorem dX6_takeBackAct_58 : decode cX6_takeBackAct 58 = .ok (.getfield 15, 3) := by decide +kernel
theorem dX6_takeBackAct_61 : decode cX6_takeBackAct 61 = .ok (.iload_n 2, 1) := by decide +kernel
theorem dX6_takeBackAct_62 : decode cX6_takeBackAct 62 = .ok (.aload_n 0, 1) := by decide +kernel
theorem dX6_takeBackAct_63 : decode cX6_takeBackAct 63 = .ok (.getfield 18, 3) := by decide +kernel
theorem dX6_takeBackAct_66 : decode cX6_takeBackAct 66 = .ok (.getfield 109, 3) := by decide +kernel
theorem dX6_takeBackAct_69 : decode cX6_takeBackAct 69 = .ok (.iload_n 1, 1) := by decide +kernel
theorem dX6_takeBackAct_70 : decode cX6_takeBackAct 70 = .ok (.laload, 1) := by decide +kernel
theorem dX6_takeBackAct_71 : decode cX6_takeBackAct 71 = .ok (.lastore, 1) := by decide +kernel
theorem dX6_takeBackAct_72 : decode cX6_takeBackAct 72 = .ok (.iinc 1 1, 3) := by decide +kernel
theorem dX6_takeBackAct_75 : decode cX6_takeBackAct 75 = .ok (.goto (-65), 3) := by decide +kernel
theorem dX6_takeBackAct_78 : decode cX6_takeBackAct 78 = .ok (.aload_n 0, 1) := by decide +kernel
theorem dX6_takeBackAct_79 : decode cX6_takeBackAct 79 = .ok (.aload_n 0, 1) := by decide +kernel
theorem dX6_takeBackAct_80 : decode cX6_takeBackAct 80 = .ok (.getfield 18, 3) := by decide +kernel
theorem dX6_takeBackAct_83 : decode cX6_takeBackAct 83 = .ok (.getfield 112, 3) := by decide +kernel
theorem dX6_takeBackAct_86 : decode cX6_takeBackAct 86 = .ok (.putfield 18, 3) := by decide +kernel
theorem dX6_takeBackAct_89 : decode cX6_takeBackAct 89 = .ok (.aload_n 0, 1) := by decide +kernel
theorem dX6_takeBackAct_90 : decode cX6_takeBackAct 90 = .ok (.dup, 1) := by decide +kernel
theorem dX6_takeBackAct_91 : decode cX6_takeBackAct 91 = .ok (.getfield 22, 3) := by decide +kernel
theorem dX6_takeBackAct_94 : decode cX6_takeBackAct 94 = .ok (.iconst 1, 1) := by decide +kernel
theorem dX6_takeBackAct_95 : decode cX6_takeBackAct 95 = .ok (.isub, 1) := by decide +kernel
theorem dX6_takeBackAct_96 : decode cX6_takeBackAct 96 = .ok (.putfield 22, 3) := by decide +kernel
theorem dX6_takeBackAct_99 : decode cX6_takeBackAct 99 = .ok (.return_, 1) := by decide +kernel
theorem dX7_init_0 : decode cX7_init 0 = .ok (.aload_n 0, 1) := by decide +kernel
theorem dX7_init_1 : decode cX7_init 1 = .ok (.invokespecial 3, 3) := by decide +kernel
theorem dX7_init_4 : decode cX7_init 4 = .ok (.aload_n 0, 1) := by decide +kernel
theorem dX7_init_5 : decode cX7_init 5 = .ok (.new 9, 3) := by decide +kernel
theorem dX7_init_8 : decode cX7_init 8 = .ok (.dup, 1) := by decide +kernel
theorem dX7_init_9 : decode cX7_init 9 = .ok (.invokespecial 11, 3) := by decide +kernel
theorem dX7_init_12 : decode cX7_init 12 = .ok (.putfield 12, 3) := by decide +kernel
theorem dX7_init_15 : decode cX7_init 15 = .ok (.aload_n 0, 1) := by decide +kernel
theorem dX7_init_16 : decode cX7_init 16 = .ok (.new 16, 3) := by decide +kernel
theorem dX7_init_19 : decode cX7_init 19 = .ok (.dup, 1) := by decide +kernel
theorem dX7_init_20 : decode cX7_init 20 = .ok (.invokespecial 18, 3) := by decide +kernel
theorem dX7_init_23 : decode cX7_init 23 = .ok (.putfield 19, 3) := by decide +kernel
theorem dX7_init_26 : decode cX7_init 26 = .ok (.aload_n 0, 1) := by decide +kernel
theorem dX7_init_27 : decode cX7_init 27 = .ok (.new 23, 3) := by decide +kernel
theorem dX7_init_30 : decode cX7_init 30 = .ok (.dup, 1) := by decide +kernel
theorem dX7_init_31 : decode cX7_init 31 = .ok (.invokespecial 25, 3) := by decide +kernel
theorem dX7_init_34 : decode cX7_init 34 = .ok (.putfield 26, 3) := by decide +kernel
theorem dX7_init_37 : decode cX7_init 37 = .ok (.aload_n 0, 1) := by decide +kernel
theorem dX7_init_38 : decode cX7_init 38 = .ok (.iconst 0, 1) := by decide +kernel
theorem dX7_init_39 : decode cX7_init 39 = .ok (.putfield 30, 3) := by decide +kernel
theorem dX7_init_42 : decode cX7_init 42 = .ok (.return_, 1) := by decide +kernel
theorem dX7_make_0 : decode cX7_make 0 = .ok (.aload_n 0, 1) := by decide +kernel
theorem dX7_make_1 : decode cX7_make 1 = .ok (.getfield 26, 3) := by decide +kernel
theorem dX7_make_4 : decode cX7_make 4 = .ok (.getfield 34, 3) := by decide +kernel
theorem dX7_make_7 : decode cX7_make 7 = .ok (.ifCond .eq 24, 3) := by decide +kernel
theorem dX7_make_10 : decode cX7_make 10 = .ok (.aload_n 0, 1) := by decide +kernel
theorem dX7_make_11 : decode cX7_make 11 = .ok (.new 38, 3) := by decide +kernel
theorem dX7_make_14 : decode cX7_make 14 = .ok (.dup, 1) := by decide +kernel
theorem dX7_make_15 : decode cX7_make 15 = .ok (.iconst 0, 1) := by decide +kernel
theorem dX7_make_16 : decode cX7_make 16 = .ok (.iload_n 1, 1) := by decide +kernel
theorem dX7_make_17 : decode cX7_make 17 = .ok (.iload_n 2, 1) := by decide +kernel
theorem dX7_make_18 : decode cX7_make 18 = .ok (.iload_n 3, 1) := by decide +kernel
theorem dX7_make_19 : decode cX7_make 19 = .ok (.i2l, 1) := by decide +kernel
theorem dX7_make_20 : decode cX7_make 20 = .ok (.iconst 0, 1) := by decide +kernel
theorem dX7_make_21 : decode cX7_make 21 = .ok (.iconst 0, 1) := by decide +kernel
theorem dX7_make_22 : decode cX7_make 22 = .ok (.invokespecial 40, 3) := by decide +kernel
theorem dX7_make_25 : decode cX7_make 25 = .ok (.invokevirtual 43, 3) := by decide +kernel
theorem dX7_make_28 : decode cX7_make 28 = .ok (.goto 14, 3) := by decide +kernel
theorem dX7_make_31 : decode cX7_make 31 = .ok (.aload_n 0, 1) := by decide +kernel
theorem dX7_make_32 : decode cX7_make 32 = .ok (.aload_n 0, 1) := by decide +kernel
theorem dX7_make_33 : decode cX7_make 33 = .ok (.iload_n 1, 1) := by decide +kernel
theorem dX7_make_34 : decode cX7_make 34 = .ok (.iload_n 2, 1) := by decide +kernel
theorem dX7_make_35 : decode cX7_make 35 = .ok (.iload_n 3, 1) := by decide +kernel
theorem dX7_make_36 : decode cX7_make 36 = .ok (.invokevirtual 47, 3) := by decide +kernel
theorem dX7_make_39 : decode cX7_make 39 = .ok (.invokevirtual 51, 3) := by decide +kernel
theorem dX7_make_42 : decode cX7_make 42 = .ok (.ireturn, 1) := by decide +kernel
theorem dX7_lay_0 : decode cX7_lay 0 = .ok (.aload_n 0, 1) := by decide +kernel
theorem dX7_lay_1 : decode cX7_lay 1 = .ok (.getfield 26, 3) := by decide +kernel
theorem dX7_lay_4 : decode cX7_lay 4 = .ok (.getfield 34, 3) := by decide +kernel
theorem dX7_lay_7 : decode cX7_lay 7 = .ok (.ifCond .eq 23, 3) := by decide +kernel
theorem dX7_lay_10 : decode cX7_lay 10 = .ok (.aload_n 0, 1) := by decide +kernel
theorem dX7_lay_11 : decode cX7_lay 11 = .ok (.new 38, 3) := by decide +kernel
theorem dX7_lay_14 : decode cX7_lay 14 = .ok (.dup, 1) := by decide +kernel
theorem dX7_lay_15 : decode cX7_lay 15 = .ok (.iconst 1, 1) := by decide +kernel
theorem dX7_lay_16 : decode cX7_lay 16 = .ok (.iload_n 1, 1) := by decide +kernel
theorem dX7_lay_17 : decode cX7_lay 17 = .ok (.iload_n 2, 1) := by decide +kernel
theorem dX7_lay_18 : decode cX7_lay 18 = .ok (.lconst 0, 1) := by decide +kernel
theorem dX7_lay_19 : decode cX7_lay 19 = .ok (.iconst 0, 1) := by decide +kernel
theorem dX7_lay_20 : decode cX7_lay 20 = .ok (.iconst 0, 1) := by decide +kernel
theorem dX7_lay_21 : decode cX7_lay 21 = .ok (.invokespecial 40, 3) := by decide +kernel
theorem dX7_lay_24 : decode cX7_lay 24 = .ok (.invokevirtual 43, 3) := by decide +kernel
theorem dX7_lay_27 : decode cX7_lay 27 = .ok (.goto 13, 3) := by decide +kernel
theorem dX7_lay_30 : decode cX7_lay 30 = .ok (.aload_n 0, 1) := by decide +kernel
theorem dX7_lay_31 : decode cX7_lay 31 = .ok (.aload_n 0, 1) := by decide +kernel
theorem dX7_lay_32 : decode cX7_lay 32 = .ok (.iload_n 1, 1) := by decide +kernel
theorem dX7_lay_33 : decode cX7_lay 33 = .ok (.iload_n 2, 1) := by decide +kernel
theorem dX7_lay_34 : decode cX7_lay 34 = .ok (.invokevirtual 55, 3) := by decide +kernel
theorem dX7_lay_37 : decode cX7_lay 37 = .ok (.invokevirtual 51, 3) := by decide +kernel
theorem dX7_lay_40 : decode cX7_lay 40 = .ok (.ireturn, 1) := by decide +kernel
theorem dX7_plug_0 : decode cX7_plug 0 = .ok (.aload_n 0, 1) := by decide +kernel
theorem dX7_plug_1 : decode cX7_plug 1 = .ok (.getfield 26, 3) := by decide +kernel
theorem dX7_plug_4 : decode cX7_plug 4 = .ok (.getfield 34, 3) := by decide +kernel
theorem dX7_plug_7 : decode cX7_plug 7 = .ok (.ifCond .eq 24, 3) := by decide +kernel
theorem dX7_plug_10 : decode cX7_plug 10 = .ok (.aload_n 0, 1) := by decide +kernel
theorem dX7_plug_11 : decode cX7_plug 11 = .ok (.new 38, 3) := by decide +kernel
theorem dX7_plug_14 : decode cX7_plug 14 = .ok (.dup, 1) := by decide +kernel
theorem dX7_plug_15 : decode cX7_plug 15 = .ok (.iconst 2, 1) := by decide +kernel
theorem dX7_plug_16 : decode cX7_plug 16 = .ok (.iload_n 1, 1) := by decide +kernel
theorem dX7_plug_17 : decode cX7_plug 17 = .ok (.iload_n 2, 1) := by decide +kernel
theorem dX7_plug_18 : decode cX7_plug 18 = .ok (.iload_n 3, 1) := by decide +kernel
theorem dX7_plug_19 : decode cX7_plug 19 = .ok (.i2l, 1) := by decide +kernel
theorem dX7_plug_20 : decode cX7_plug 20 = .ok (.iconst 0, 1) := by decide +kernel
theorem dX7_plug_21 : decode cX7_plug 21 = .ok (.iconst 0, 1) := by decide +kernel
theorem dX7_plug_22 : decode cX7_plug 22 = .ok (.invokespecial 40, 3) := by decide +kernel
theorem dX7_plug_25 : decode cX7_plug 25 = .ok (.invokevirtual 43, 3) := by decide +kernel
theorem dX7_plug_28 : decode cX7_plug 28 = .ok (.goto 14, 3) := by decide +kernel
theorem dX7_plug_31 : decode cX7_plug 31 = .ok (.aload_n 0, 1) := by decide +kernel
theorem dX7_plug_32 : decode cX7_plug 32 = .ok (.aload_n 0, 1) := by decide +kernel
theorem dX7_plug_33 : decode cX7_plug 33 = .ok (.iload_n 1, 1) := by decide +kernel
theorem dX7_plug_34 : decode cX7_plug 34 = .ok (.iload_n 2, 1) := by decide +kernel
theorem dX7_plug_35 : decode cX7_plug 35 = .ok (.iload_n 3, 1) := by decide +kernel
theorem dX7_plug_36 : decode cX7_plug 36 = .ok (.invokevirtual 59, 3) := by decide +kernel
theorem dX7_plug_39 : decode cX7_plug 39 = .ok (.invokevirtual 51, 3) := by decide +kernel
theorem dX7_plug_42 : decode cX7_plug 42 = .ok (.ireturn, 1) := by decide +kernel
theorem dX7_pull_0 : decode cX7_pull 0 = .ok (.aload_n 0, 1) := by decide +kernel
theorem dX7_pull_1 : decode cX7_pull 1 = .ok (.getfield 26, 3) := by decide +kernel
theorem dX7_pull_4 : decode cX7_pull 4 = .ok (.getfield 34, 3) := by decide +kernel
theorem dX7_pull_7 : decode cX7_pull 7 = .ok (.ifCond .eq 24, 3) := by decide +kernel
theorem dX7_pull_10 : decode cX7_pull 10 = .ok (.aload_n 0, 1) := by decide +kernel
theorem dX7_pull_11 : decode cX7_pull 11 = .ok (.new 38, 3) := by decide +kernel
theorem dX7_pull_14 : decode cX7_pull 14 = .ok (.dup, 1) := by decide +kernel
theorem dX7_pull_15 : decode cX7_pull 15 = .ok (.iconst 3, 1) := by decide +kernel
theorem dX7_pull_16 : decode cX7_pull 16 = .ok (.iload_n 1, 1) := by decide +kernel
theorem dX7_pull_17 : decode cX7_pull 17 = .ok (.iload_n 2, 1) := by decide +kernel
theorem dX7_pull_18 : decode cX7_pull 18 = .ok (.iload_n 3, 1) := by decide +kernel
theorem dX7_pull_19 : decode cX7_pull 19 = .ok (.i2l, 1) := by decide +kernel
theorem dX7_pull_20 : decode cX7_pull 20 = .ok (.iconst 0, 1) := by decide +kernel
theorem dX7_pull_21 : decode cX7_pull 21 = .ok (.iconst 0, 1) := by decide +kernel
theorem dX7_pull_22 : decode cX7_pull 22 = .ok (.invokespecial 40, 3) := by decide +kernel
theorem dX7_pull_25 : decode cX7_pull 25 = .ok (.invokevirtual 43, 3) := by decide +kernel
theorem dX7_pull_28 : decode cX7_pull 28 = .ok (.goto 14, 3) := by decide +kernel
theorem dX7_pull_31 : decode cX7_pull 31 = .ok (.aload_n 0, 1) := by decide +kernel
theorem dX7_pull_32 : decode cX7_pull 32 = .ok (.aload_n 0, 1) := by decide +kernel
theorem dX7_pull_33 : decode cX7_pull 33 = .ok (.iload_n 1, 1) := by decide +kernel
theorem dX7_pull_34 : decode cX7_pull 34 = .ok (.iload_n 2, 1) := by decide +kernel
theorem dX7_pull_35 : decode cX7_pull 35 = .ok (.iload_n 3, 1) := by decide +kernel
theorem dX7_pull_36 : decode cX7_pull 36 = .ok (.invokevirtual 62, 3) := by decide +kernel
theorem dX7_pull_39 : decode cX7_pull 39 = .ok (.invokevirtual 51, 3) := by decide +kernel
theorem dX7_pull_42 : decode cX7_pull 42 = .ok (.ireturn, 1) := by decide +kernel
theorem dX7_copy_0 : decode cX7_copy 0 = .ok (.aload_n 0, 1) := by decide +kernel
theorem dX7_copy_1 : decode cX7_copy 1 = .ok (.getfield 26, 3) := by decide +kernel
theorem dX7_copy_4 : decode cX7_copy 4 = .ok (.getfield 34, 3) := by decide +kernel
theorem dX7_copy_7 : decode cX7_copy 7 = .ok (.ifCond .eq 24, 3) := by decide +kernel
theorem dX7_copy_10 : decode cX7_copy 10 = .ok (.aload_n 0, 1) := by decide +kernel
theorem dX7_copy_11 : decode cX7_copy 11 = .ok (.new 38, 3) := by decide +kernel
theorem dX7_copy_14 : decode cX7_copy 14 = .ok (.dup, 1) := by decide +kernel
theorem dX7_copy_15 : decode cX7_copy 15 = .ok (.iconst 4, 1) := by decide +kernel
theorem dX7_copy_16 : decode cX7_copy 16 = .ok (.iload_n 1, 1) := by decide +kernel
theorem dX7_copy_17 : decode cX7_copy 17 = .ok (.iload_n 2, 1) := by decide +kernel
theorem dX7_copy_18 : decode cX7_copy 18 = .ok (.iload_n 3, 1) := by decide +kernel
theorem dX7_copy_19 : decode cX7_copy 19 = .ok (.i2l, 1) := by decide +kernel
theorem dX7_copy_20 : decode cX7_copy 20 = .ok (.iload 4, 2) := by decide +kernel
theorem dX7_copy_22 : decode cX7_copy 22 = .ok (.iload 5, 2) := by decide +kernel
theorem dX7_copy_24 : decode cX7_copy 24 = .ok (.invokespecial 40, 3) := by decide +kernel
theorem dX7_copy_27 : decode cX7_copy 27 = .ok (.invokevirtual 43, 3) := by decide +kernel
theorem dX7_copy_30 : decode cX7_copy 30 = .ok (.ireturn, 1) := by decide +kernel
theorem dX7_copy_31 : decode cX7_copy 31 = .ok (.aload_n 0, 1) := by decide +kernel
theorem dX7_copy_32 : decode cX7_copy 32 = .ok (.iload_n 1, 1) := by decide +kernel
theorem dX7_copy_33 : decode cX7_copy 33 = .ok (.iload_n 2, 1) := by decide +kernel
theorem dX7_copy_34 : decode cX7_copy 34 = .ok (.iload_n 3, 1) := by decide +kernel
theorem dX7_copy_35 : decode cX7_copy 35 = .ok (.iload 4, 2) := by decide +kernel
theorem dX7_copy_37 : decode cX7_copy 37 = .ok (.iload 5, 2) := by decide +kernel
theorem dX7_copy_39 : decode cX7_copy 39 = .ok (.invokevirtual 65, 3) := by decide +kernel
theorem dX7_copy_42 : decode cX7_copy 42 = .ok (.istore 6, 2) := by decide +kernel
theorem dX7_copy_44 : decode cX7_copy 44 = .ok (.aload_n 0, 1) := by decide +kernel
theorem dX7_copy_45 : decode cX7_copy 45 = .ok (.getfield 30, 3) := by decide +kernel
theorem dX7_copy_48 : decode cX7_copy 48 = .ok (.iconst 5, 1) := by decide +kernel
theorem dX7_copy_49 : decode cX7_copy 49 = .ok (.if_icmp .ne 12, 3) := by decide +kernel
theorem dX7_copy_52 : decode cX7_copy 52 = .ok (.aload_n 0, 1) := by decide +kernel
theorem dX7_copy_53 : decode cX7_copy 53 = .ok (.iload 6, 2) := by decide +kernel
theorem dX7_copy_55 : decode cX7_copy 55 = .ok (.invokevirtual 69, 3) := by decide +kernel
theorem dX7_copy_58 : decode cX7_copy 58 = .ok (.goto 9, 3) := by decide +kernel
theorem dX7_copy_61 : decode cX7_copy 61 = .ok (.aload_n 0, 1) := by decide +kernel
theorem dX7_copy_62 : decode cX7_copy 62 = .ok (.iload 6, 2) := by decide +kernel
theorem dX7_copy_64 : decode cX7_copy 64 = .ok (.invokevirtual 51, 3) := by decide +kernel
theorem dX7_copy_67 : decode cX7_copy 67 = .ok (.ireturn, 1) := by decide +kernel
theorem dX7_write_0 : decode cX7_write 0 = .ok (.aload_n 0, 1) := by decide +kernel
theorem dX7_write_1 : decode cX7_write 1 = .ok (.getfield 26, 3) := by decide +kernel
theorem dX7_write_4 : decode cX7_write 4 = .ok (.getfield 34, 3) := by decide +kernel
theorem dX7_write_7 : decode cX7_write 7 = .ok (.ifCond .eq 23, 3) := by decide +kernel
theorem dX7_write_10 : decode cX7_write 10 = .ok (.aload_n 0, 1) := by decide +kernel
theorem dX7_write_11 : decode cX7_write 11 = .ok (.new 38, 3) := by decide +kernel
theorem dX7_write_14 : decode cX7_write 14 = .ok (.dup, 1) := by decide +kernel
theorem dX7_write_15 : decode cX7_write 15 = .ok (.iconst 5, 1) := by decide +kernel
theorem dX7_write_16 : decode cX7_write 16 = .ok (.iload_n 1, 1) := by decide +kernel
theorem dX7_write_17 : decode cX7_write 17 = .ok (.iload_n 2, 1) := by decide +kernel
theorem dX7_write_18 : decode cX7_write 18 = .ok (.lload_n 3, 1) := by decide +kernel
theorem dX7_write_19 : decode cX7_write 19 = .ok (.iconst 0, 1) := by decide +kernel
theorem dX7_write_20 : decode cX7_write 20 = .ok (.iconst 0, 1) := by decide +kernel
theorem dX7_write_21 : decode cX7_write 21 = .ok (.invokespecial 40, 3) := by decide +kernel
theorem dX7_write_24 : decode cX7_write 24 = .ok (.invokevirtual 43, 3) := by decide +kernel
theorem dX7_write_27 : decode cX7_write 27 = .ok (.goto 14, 3) := by decide +kernel
theorem dX7_write_30 : decode cX7_write 30 = .ok (.aload_n 0, 1) := by decide +kernel
theorem dX7_write_31 : decode cX7_write 31 = .ok (.aload_n 0, 1) := by decide +kernel
theorem dX7_write_32 : decode cX7_write 32 = .ok (.iload_n 1, 1) := by decide +kernel
theorem dX7_write_33 : decode cX7_write 33 = .ok (.iload_n 2, 1) := by decide +kernel
theorem dX7_write_34 : decode cX7_write 34 = .ok (.lload_n 3, 1) := by decide +kernel
theorem dX7_write_35 : decode cX7_write 35 = .ok (.invokevirtual 72, 3) := by decide +kernel
theorem dX7_write_38 : decode cX7_write 38 = .ok (.invokevirtual 51, 3) := by decide +kernel
theorem dX7_write_41 : decode cX7_write 41 = .ok (.ireturn, 1) := by decide +kernel
theorem dX7_knob_0 : decode cX7_knob 0 = .ok (.aload_n 0, 1) := by decide +kernel
theorem dX7_knob_1 : decode cX7_knob 1 = .ok (.getfield 26, 3) := by decide +kernel
theorem dX7_knob_4 : decode cX7_knob 4 = .ok (.getfield 34, 3) := by decide +kernel
theorem dX7_knob_7 : decode cX7_knob 7 = .ok (.ifCond .eq 24, 3) := by decide +kernel
theorem dX7_knob_10 : decode cX7_knob 10 = .ok (.aload_n 0, 1) := by decide +kernel
theorem dX7_knob_11 : decode cX7_knob 11 = .ok (.new 38, 3) := by decide +kernel
theorem dX7_knob_14 : decode cX7_knob 14 = .ok (.dup, 1) := by decide +kernel
theorem dX7_knob_15 : decode cX7_knob 15 = .ok (.bipush 6, 2) := by decide +kernel
theorem dX7_knob_17 : decode cX7_knob 17 = .ok (.iload_n 1, 1) := by decide +kernel
theorem dX7_knob_18 : decode cX7_knob 18 = .ok (.iload_n 2, 1) := by decide +kernel
theorem dX7_knob_19 : decode cX7_knob 19 = .ok (.lconst 0, 1) := by decide +kernel
theorem dX7_knob_20 : decode cX7_knob 20 = .ok (.iconst 0, 1) := by decide +kernel
theorem dX7_knob_21 : decode cX7_knob 21 = .ok (.iconst 0, 1) := by decide +kernel
theorem dX7_knob_22 : decode cX7_knob 22 = .ok (.invokespecial 40, 3) := by decide +kernel
theorem dX7_knob_25 : decode cX7_knob 25 = .ok (.invokevirtual 43, 3) := by decide +kernel
theorem dX7_knob_28 : decode cX7_knob 28 = .ok (.goto 13, 3) := by decide +kernel
theorem dX7_knob_31 : decode cX7_knob 31 = .ok (.aload_n 0, 1) := by decide +kernel
theorem dX7_knob_32 : decode cX7_knob 32 = .ok (.aload_n 0, 1) := by decide +kernel
theorem dX7_knob_33 : decode cX7_knob 33 = .ok (.iload_n 1, 1) := by decide +kernel
theorem dX7_knob_34 : decode cX7_knob 34 = .ok (.iload_n 2, 1) := by decide +kernel
theorem dX7_knob_35 : decode cX7_knob 35 = .ok (.invokevirtual 76, 3) := by decide +kernel
theorem dX7_knob_38 : decode cX7_knob 38 = .ok (.invokevirtual 51, 3) := by decide +kernel
theorem dX7_knob_41 : decode cX7_knob 41 = .ok (.ireturn, 1) := by decide +kernel
theorem dX7_play_0 : decode cX7_play 0 = .ok (.aload_n 0, 1) := by decide +kernel
theorem dX7_play_1 : decode cX7_play 1 = .ok (.getfield 26, 3) := by decide +kernel
theorem dX7_play_4 : decode cX7_play 4 = .ok (.getfield 34, 3) := by decide +kernel
theorem dX7_play_7 : decode cX7_play 7 = .ok (.ifCond .eq 24, 3) := by decide +kernel
theorem dX7_play_10 : decode cX7_play 10 = .ok (.aload_n 0, 1) := by decide +kernel
theorem dX7_play_11 : decode cX7_play 11 = .ok (.new 38, 3) := by decide +kernel
theorem dX7_play_14 : decode cX7_play 14 = .ok (.dup, 1) := by decide +kernel
theorem dX7_play_15 : decode cX7_play 15 = .ok (.bipush 7, 2) := by decide +kernel
theorem dX7_play_17 : decode cX7_play 17 = .ok (.iload_n 1, 1) := by decide +kernel
theorem dX7_play_18 : decode cX7_play 18 = .ok (.iload_n 2, 1) := by decide +kernel
theorem dX7_play_19 : decode cX7_play 19 = .ok (.lconst 0, 1) := by decide +kernel
theorem dX7_play_20 : decode cX7_play 20 = .ok (.iconst 0, 1) := by decide +kernel
theorem dX7_play_21 : decode cX7_play 21 = .ok (.iconst 0, 1) := by decide +kernel
theorem dX7_play_22 : decode cX7_play 22 = .ok (.invokespecial 40, 3) := by decide +kernel
theorem dX7_play_25 : decode cX7_play 25 = .ok (.invokevirtual 43, 3) := by decide +kernel
theorem dX7_play_28 : decode cX7_play 28 = .ok (.goto 13, 3) := by decide +kernel
theorem dX7_play_31 : decode cX7_play 31 = .ok (.aload_n 0, 1) := by decide +kernel
theorem dX7_play_32 : decode cX7_play 32 = .ok (.aload_n 0, 1) := by decide +kernel
theorem dX7_play_33 : decode cX7_play 33 = .ok (.iload_n 1, 1) := by decide +kernel
theorem dX7_play_34 : decode cX7_play 34 = .ok (.iload_n 2, 1) := by decide +kernel
theorem dX7_play_35 : decode cX7_play 35 = .ok (.invokevirtual 79, 3) := by decide +kernel
theorem dX7_play_38 : decode cX7_play 38 = .ok (.invokevirtual 51, 3) := by decide +kernel
theorem dX7_play_41 : decode cX7_play 41 = .ok (.ireturn, 1) := by decide +kernel
theorem dX7_run_0 : decode cX7_run 0 = .ok (.aload_n 0, 1) := by decide +kernel
theorem dX7_run_1 : decode cX7_run 1 = .ok (.getfield 26, 3) := by decide +kernel
theorem dX7_run_4 : decode cX7_run 4 = .ok (.getfield 34, 3) := by decide +kernel
theorem dX7_run_7 : decode cX7_run 7 = .ok (.ifCond .eq 24, 3) := by decide +kernel
theorem dX7_run_10 : decode cX7_run 10 = .ok (.aload_n 0, 1) := by decide +kernel
theorem dX7_run_11 : decode cX7_run 11 = .ok (.new 38, 3) := by decide +kernel
theorem dX7_run_14 : decode cX7_run 14 = .ok (.dup, 1) := by decide +kernel
theorem dX7_run_15 : decode cX7_run 15 = .ok (.bipush 8, 2) := by decide +kernel
theorem dX7_run_17 : decode cX7_run 17 = .ok (.iload_n 1, 1) := by decide +kernel
theorem dX7_run_18 : decode cX7_run 18 = .ok (.iload_n 2, 1) := by decide +kernel
theorem dX7_run_19 : decode cX7_run 19 = .ok (.lconst 0, 1) := by decide +kernel
theorem dX7_run_20 : decode cX7_run 20 = .ok (.iconst 0, 1) := by decide +kernel
theorem dX7_run_21 : decode cX7_run 21 = .ok (.iconst 0, 1) := by decide +kernel
theorem dX7_run_22 : decode cX7_run 22 = .ok (.invokespecial 40, 3) := by decide +kernel
theorem dX7_run_25 : decode cX7_run 25 = .ok (.invokevirtual 43, 3) := by decide +kernel
theorem dX7_run_28 : decode cX7_run 28 = .ok (.goto 13, 3) := by decide +kernel
theorem dX7_run_31 : decode cX7_run 31 = .ok (.aload_n 0, 1) := by decide +kernel
theorem dX7_run_32 : decode cX7_run 32 = .ok (.aload_n 0, 1) := by decide +kernel
theorem dX7_run_33 : decode cX7_run 33 = .ok (.iload_n 1, 1) := by decide +kernel
theorem dX7_run_34 : decode cX7_run 34 = .ok (.iload_n 2, 1) := by decide +kernel
theorem dX7_run_35 : decode cX7_run 35 = .ok (.invokevirtual 82, 3) := by decide +kernel
theorem dX7_run_38 : decode cX7_run 38 = .ok (.invokevirtual 51, 3) := by decide +kernel
theorem dX7_run_41 : decode cX7_run 41 = .ok (.ireturn, 1) := by decide +kernel
theorem dX7_ticks_0 : decode cX7_ticks 0 = .ok (.aload_n 0, 1) := by decide +kernel
theorem dX7_ticks_1 : decode cX7_ticks 1 = .ok (.getfield 26, 3) := by decide +kernel
theorem dX7_ticks_4 : decode cX7_ticks 4 = .ok (.getfield 34, 3) := by decide +kernel
theorem dX7_ticks_7 : decode cX7_ticks 7 = .ok (.ifCond .eq 24, 3) := by decide +kernel
theorem dX7_ticks_10 : decode cX7_ticks 10 = .ok (.aload_n 0, 1) := by decide +kernel
theorem dX7_ticks_11 : decode cX7_ticks 11 = .ok (.new 38, 3) := by decide +kernel
theorem dX7_ticks_14 : decode cX7_ticks 14 = .ok (.dup, 1) := by decide +kernel
theorem dX7_ticks_15 : decode cX7_ticks 15 = .ok (.bipush 9, 2) := by decide +kernel
theorem dX7_ticks_17 : decode cX7_ticks 17 = .ok (.iload_n 1, 1) := by decide +kernel
theorem dX7_ticks_18 : decode cX7_ticks 18 = .ok (.iload_n 2, 1) := by decide +kernel
theorem dX7_ticks_19 : decode cX7_ticks 19 = .ok (.lconst 0, 1) := by decide +kernel
theorem dX7_ticks_20 : decode cX7_ticks 20 = .ok (.iconst 0, 1) := by decide +kernel
theorem dX7_ticks_21 : decode cX7_ticks 21 = .ok (.iconst 0, 1) := by decide +kernel
theorem dX7_ticks_22 : decode cX7_ticks 22 = .ok (.invokespecial 40, 3) := by decide +kernel
theorem dX7_ticks_25 : decode cX7_ticks 25 = .ok (.invokevirtual 43, 3) := by decide +kernel
theorem dX7_ticks_28 : decode cX7_ticks 28 = .ok (.goto 13, 3) := by decide +kernel
theorem dX7_ticks_31 : decode cX7_ticks 31 = .ok (.aload_n 0, 1) := by decide +kernel
theorem dX7_ticks_32 : decode cX7_ticks 32 = .ok (.aload_n 0, 1) := by decide +kernel
theorem dX7_ticks_33 : decode cX7_ticks 33 = .ok (.iload_n 1, 1) := by decide +kernel
theorem dX7_ticks_34 : decode cX7_ticks 34 = .ok (.iload_n 2, 1) := by decide +kernel
theorem dX7_ticks_35 : decode cX7_ticks 35 = .ok (.invokevirtual 85, 3) := by decide +kernel
theorem dX7_ticks_38 : decode cX7_ticks 38 = .ok (.invokevirtual 51, 3) := by decide +kernel
theorem dX7_ticks_41 : decode cX7_ticks 41 = .ok (.ireturn, 1) := by decide +kernel
theorem dX7_rest_0 : decode cX7_rest 0 = .ok (.aload_n 0, 1) := by decide +kernel
theorem dX7_rest_1 : decode cX7_rest 1 = .ok (.getfield 26, 3) := by decide +kernel
theorem dX7_rest_4 : decode cX7_rest 4 = .ok (.getfield 34, 3) := by decide +kernel
theorem dX7_rest_7 : decode cX7_rest 7 = .ok (.ifCond .eq 24, 3) := by decide +kernel
theorem dX7_rest_10 : decode cX7_rest 10 = .ok (.aload_n 0, 1) := by decide +kernel
theorem dX7_rest_11 : decode cX7_rest 11 = .ok (.new 38, 3) := by decide +kernel
theorem dX7_rest_14 : decode cX7_rest 14 = .ok (.dup, 1) := by decide +kernel
theorem dX7_rest_15 : decode cX7_rest 15 = .ok (.bipush 10, 2) := by decide +kernel
theorem dX7_rest_17 : decode cX7_rest 17 = .ok (.iload_n 1, 1) := by decide +kernel
theorem dX7_rest_18 : decode cX7_rest 18 = .ok (.iconst 0, 1) := by decide +kernel
theorem dX7_rest_19 : decode cX7_rest 19 = .ok (.lconst 0, 1) := by decide +kernel
theorem dX7_rest_20 : decode cX7_rest 20 = .ok (.iconst 0, 1) := by decide +kernel
theorem dX7_rest_21 : decode cX7_rest 21 = .ok (.iconst 0, 1) := by decide +kernel
theorem dX7_rest_22 : decode cX7_rest 22 = .ok (.invokespecial 40, 3) := by decide +kernel
theorem dX7_rest_25 : decode cX7_rest 25 = .ok (.invokevirtual 43, 3) := by decide +kernel
theorem dX7_rest_28 : decode cX7_rest 28 = .ok (.goto 12, 3) := by decide +kernel
theorem dX7_rest_31 : decode cX7_rest 31 = .ok (.aload_n 0, 1) := by decide +kernel
theorem dX7_rest_32 : decode cX7_rest 32 = .ok (.aload_n 0, 1) := by decide +kernel
theorem dX7_rest_33 : decode cX7_rest 33 = .ok (.iload_n 1, 1) := by decide +kernel
theorem dX7_rest_34 : decode cX7_rest 34 = .ok (.invokevirtual 88, 3) := by decide +kernel
theorem dX7_rest_37 : decode cX7_rest 37 = .ok (.invokevirtual 51, 3) := by decide +kernel
theorem dX7_rest_40 : decode cX7_rest 40 = .ok (.ireturn, 1) := by decide +kernel
theorem dX7_when_0 : decode cX7_when 0 = .ok (.aload_n 0, 1) := by decide +kernel
theorem dX7_when_1 : decode cX7_when 1 = .ok (.getfield 26, 3) := by decide +kernel
theorem dX7_when_4 : decode cX7_when 4 = .ok (.getfield 34, 3) := by decide +kernel
theorem dX7_when_7 : decode cX7_when 7 = .ok (.ifCond .eq 24, 3) := by decide +kernel
theorem dX7_when_10 : decode cX7_when 10 = .ok (.aload_n 0, 1) := by decide +kernel
theorem dX7_when_11 : decode cX7_when 11 = .ok (.new 38, 3) := by decide +kernel
theorem dX7_when_14 : decode cX7_when 14 = .ok (.dup, 1) := by decide +kernel
theorem dX7_when_15 : decode cX7_when 15 = .ok (.bipush 11, 2) := by decide +kernel
theorem dX7_when_17 : decode cX7_when 17 = .ok (.iload_n 1, 1) := by decide +kernel
theorem dX7_when_18 : decode cX7_when 18 = .ok (.iload_n 2, 1) := by decide +kernel
theorem dX7_when_19 : decode cX7_when 19 = .ok (.lconst 0, 1) := by decide +kernel
theorem dX7_when_20 : decode cX7_when 20 = .ok (.iconst 0, 1) := by decide +kernel
theorem dX7_when_21 : decode cX7_when 21 = .ok (.iconst 0, 1) := by decide +kernel
theorem dX7_when_22 : decode cX7_when 22 = .ok (.invokespecial 40, 3) := by decide +kernel
theorem dX7_when_25 : decode cX7_when 25 = .ok (.invokevirtual 43, 3) := by decide +kernel
theorem dX7_when_28 : decode cX7_when 28 = .ok (.goto 9, 3) := by decide +kernel
theorem dX7_when_31 : decode cX7_when 31 = .ok (.aload_n 0, 1) := by decide +kernel
theorem dX7_when_32 : decode cX7_when 32 = .ok (.bipush 7, 2) := by decide +kernel
theorem dX7_when_34 : decode cX7_when 34 = .ok (.invokevirtual 91, 3) := by decide +kernel
theorem dX7_when_37 : decode cX7_when 37 = .ok (.ireturn, 1) := by decide +kernel
theorem dX7_begin_0 : decode cX7_begin 0 = .ok (.aload_n 0, 1) := by decide +kernel
theorem dX7_begin_1 : decode cX7_begin 1 = .ok (.getfield 26, 3) := by decide +kernel
theorem dX7_begin_4 : decode cX7_begin 4 = .ok (.getfield 34, 3) := by decide +kernel
theorem dX7_begin_7 : decode cX7_begin 7 = .ok (.ifCond .eq 10, 3) := by decide +kernel
theorem dX7_begin_10 : decode cX7_begin 10 = .ok (.aload_n 0, 1) := by decide +kernel
theorem dX7_begin_11 : decode cX7_begin 11 = .ok (.bipush 7, 2) := by decide +kernel
theorem dX7_begin_13 : decode cX7_begin 13 = .ok (.invokevirtual 91, 3) := by decide +kernel
theorem dX7_begin_16 : decode cX7_begin 16 = .ok (.ireturn, 1) := by decide +kernel
theorem dX7_begin_17 : decode cX7_begin 17 = .ok (.aload_n 0, 1) := by decide +kernel
theorem dX7_begin_18 : decode cX7_begin 18 = .ok (.iconst 0, 1) := by decide +kernel
theorem dX7_begin_19 : decode cX7_begin 19 = .ok (.putfield 30, 3) := by decide +kernel
theorem dX7_begin_22 : decode cX7_begin 22 = .ok (.aload_n 0, 1) := by decide +kernel
theorem dX7_begin_23 : decode cX7_begin 23 = .ok (.getfield 26, 3) := by decide +kernel
theorem dX7_begin_26 : decode cX7_begin 26 = .ok (.invokevirtual 94, 3) := by decide +kernel
theorem dX7_begin_29 : decode cX7_begin 29 = .ok (.iconst 1, 1) := by decide +kernel
theorem dX7_begin_30 : decode cX7_begin 30 = .ok (.ireturn, 1) := by decide +kernel
theorem dX7_end_0 : decode cX7_end 0 = .ok (.aload_n 0, 1) := by decide +kernel
theorem dX7_end_1 : decode cX7_end 1 = .ok (.getfield 26, 3) := by decide +kernel
theorem dX7_end_4 : decode cX7_end 4 = .ok (.getfield 34, 3) := by decide +kernel
theorem dX7_end_7 : decode cX7_end 7 = .ok (.ifCond .ne 10, 3) := by decide +kernel
theorem dX7_end_10 : decode cX7_end 10 = .ok (.aload_n 0, 1) := by decide +kernel
theorem dX7_end_11 : decode cX7_end 11 = .ok (.bipush 7, 2) := by decide +kernel
theorem dX7_end_13 : decode cX7_end 13 = .ok (.invokevirtual 91, 3) := by decide +kernel
theorem dX7_end_16 : decode cX7_end 16 = .ok (.ireturn, 1) := by decide +kernel
theorem dX7_end_17 : decode cX7_end 17 = .ok (.aload_n 0, 1) := by decide +kernel
theorem dX7_end_18 : decode cX7_end 18 = .ok (.iconst 0, 1) := by decide +kernel
theorem dX7_end_19 : decode cX7_end 19 = .ok (.putfield 30, 3) := by decide +kernel
theorem dX7_end_22 : decode cX7_end 22 = .ok (.aload_n 0, 1) := by decide +kernel
theorem dX7_end_23 : decode cX7_end 23 = .ok (.getfield 26, 3) := by decide +kernel
theorem dX7_end_26 : decode cX7_end 26 = .ok (.iconst 0, 1) := by decide +kernel
theorem dX7_end_27 : decode cX7_end 27 = .ok (.putfield 34, 3) := by decide +kernel
theorem dX7_end_30 : decode cX7_end 30 = .ok (.aload_n 0, 1) := by decide +kernel
theorem dX7_end_31 : decode cX7_end 31 = .ok (.getfield 26, 3) := by decide +kernel
theorem dX7_end_34 : decode cX7_end 34 = .ok (.getfield 97, 3) := by decide +kernel
theorem dX7_end_37 : decode cX7_end 37 = .ok (.ireturn, 1) := by decide +kernel
theorem dX7_carry_0 : decode cX7_carry 0 = .ok (.iload_n 1, 1) := by decide +kernel
theorem dX7_carry_1 : decode cX7_carry 1 = .ok (.iconst 1, 1) := by decide +kernel
theorem dX7_carry_2 : decode cX7_carry 2 = .ok (.if_icmp .lt 8, 3) := by decide +kernel
theorem dX7_carry_5 : decode cX7_carry 5 = .ok (.iload_n 1, 1) := by decide +kernel
theorem dX7_carry_6 : decode cX7_carry 6 = .ok (.iconst 4, 1) := by decide +kernel
theorem dX7_carry_7 : decode cX7_carry 7 = .ok (.if_icmp .le 9, 3) := by decide +kernel
theorem dX7_carry_10 : decode cX7_carry 10 = .ok (.aload_n 0, 1) := by decide +kernel
theorem dX7_carry_11 : decode cX7_carry 11 = .ok (.iconst 1, 1) := by decide +kernel
theorem dX7_carry_12 : decode cX7_carry 12 = .ok (.invokevirtual 91, 3) := by decide +kernel
theorem dX7_carry_15 : decode cX7_carry 15 = .ok (.ireturn, 1) := by decide +kernel
theorem dX7_carry_16 : decode cX7_carry 16 = .ok (.aload_n 0, 1) := by decide +kernel
theorem dX7_carry_17 : decode cX7_carry 17 = .ok (.getfield 26, 3) := by decide +kernel
theorem dX7_carry_20 : decode cX7_carry 20 = .ok (.getfield 34, 3) := by decide +kernel
theorem dX7_carry_23 : decode cX7_carry 23 = .ok (.ifCond .eq 10, 3) := by decide +kernel
theorem dX7_carry_26 : decode cX7_carry 26 = .ok (.aload_n 0, 1) := by decide +kernel
theorem dX7_carry_27 : decode cX7_carry 27 = .ok (.bipush 7, 2) := by decide +kernel
theorem dX7_carry_29 : decode cX7_carry 29 = .ok (.invokevirtual 91, 3) := by decide +kernel
theorem dX7_carry_32 : decode cX7_carry 32 = .ok (.ireturn, 1) := by decide +kernel
theorem dX7_carry_33 : decode cX7_carry 33 = .ok (.aload_n 0, 1) := by decide +kernel
theorem dX7_carry_34 : decode cX7_carry 34 = .ok (.iconst 0, 1) := by decide +kernel
theorem dX7_carry_35 : decode cX7_carry 35 = .ok (.putfield 30, 3) := by decide +kernel
theorem dX7_carry_38 : decode cX7_carry 38 = .ok (.iconst 0, 1) := by decide +kernel
theorem dX7_carry_39 : decode cX7_carry 39 = .ok (.istore_n 2, 1) := by decide +kernel
theorem dX7_carry_40 : decode cX7_carry 40 = .ok (.iconst 1, 1) := by decide +kernel
theorem dX7_carry_41 : decode cX7_carry 41 = .ok (.istore_n 3, 1) := by decide +kernel
theorem dX7_carry_42 : decode cX7_carry 42 = .ok (.iload_n 3, 1) := by decide +kernel
theorem dX7_carry_43 : decode cX7_carry 43 = .ok (.iload_n 1, 1) := by decide +kernel
theorem dX7_carry_44 : decode cX7_carry 44 = .ok (.if_icmp .gt 105, 3) := by decide +kernel
theorem dX7_carry_47 : decode cX7_carry 47 = .ok (.iconst 0, 1) := by decide +kernel
theorem dX7_carry_48 : decode cX7_carry 48 = .ok (.istore 4, 2) := by decide +kernel
theorem dX7_carry_50 : decode cX7_carry 50 = .ok (.iconst 1, 1) := by decide +kernel
theorem dX7_carry_51 : decode cX7_carry 51 = .ok (.istore 5, 2) := by decide +kernel
theorem dX7_carry_53 : decode cX7_carry 53 = .ok (.iload 5, 2) := by decide +kernel
theorem dX7_carry_55 : decode cX7_carry 55 = .ok (.aload_n 0, 1) := by decide +kernel
theorem dX7_carry_56 : decode cX7_carry 56 = .ok (.getfield 26, 3) := by decide +kernel
theorem dX7_carry_59 : decode cX7_carry 59 = .ok (.getfield 97, 3) := by decide +kernel
theorem dX7_carry_62 : decode cX7_carry 62 = .ok (.if_icmp .gt 81, 3) := by decide +kernel
theorem dX7_carry_65 : decode cX7_carry 65 = .ok (.iload 4, 2) := by decide +kernel
theorem dX7_carry_67 : decode cX7_carry 67 = .ok (.ifCond .eq 9, 3) := by decide +kernel
theorem dX7_carry_70 : decode cX7_carry 70 = .ok (.iconst 0, 1) := by decide +kernel
theorem dX7_carry_71 : decode cX7_carry 71 = .ok (.istore 4, 2) := by decide +kernel
theorem dX7_carry_73 : decode cX7_carry 73 = .ok (.goto 64, 3) := by decide +kernel
theorem dX7_carry_76 : decode cX7_carry 76 = .ok (.aload_n 0, 1) := by decide +kernel
theorem dX7_carry_77 : decode cX7_carry 77 = .ok (.getfield 26, 3) := by decide +kernel
theorem dX7_carry_80 : decode cX7_carry 80 = .ok (.iload 5, 2) := by decide +kernel
theorem dX7_carry_82 : decode cX7_carry 82 = .ok (.invokevirtual 100, 3) := by decide +kernel
theorem dX7_carry_85 : decode cX7_carry 85 = .ok (.astore 6, 2) := by decide +kernel
theorem dX7_carry_87 : decode cX7_carry 87 = .ok (.aload_n 0, 1) := by decide +kernel
theorem dX7_carry_88 : decode cX7_carry 88 = .ok (.aload 6, 2) := by decide +kernel
theorem dX7_carry_90 : decode cX7_carry 90 = .ok (.invokevirtual 104, 3) := by decide +kernel
theorem dX7_carry_93 : decode cX7_carry 93 = .ok (.istore 7, 2) := by decide +kernel
theorem dX7_carry_95 : decode cX7_carry 95 = .ok (.aload_n 0, 1) := by decide +kernel
theorem dX7_carry_96 : decode cX7_carry 96 = .ok (.getfield 30, 3) := by decide +kernel
theorem dX7_carry_99 : decode cX7_carry 99 = .ok (.ifCond .eq 13, 3) := by decide +kernel
theorem dX7_carry_102 : decode cX7_carry 102 = .ok (.aload_n 0, 1) := by decide +kernel
theorem dX7_carry_103 : decode cX7_carry 103 = .ok (.getfield 12, 3) := by decide +kernel
theorem dX7_carry_106 : decode cX7_carry 106 = .ok (.invokevirtual 107, 3) := by decide +kernel
theorem dX7_carry_109 : decode cX7_carry 109 = .ok (.iload 5, 2) := by decide +kernel
theorem dX7_carry_111 : decode cX7_carry 111 = .ok (.ireturn, 1) := by decide +kernel
theorem dX7_carry_112 : decode cX7_carry 112 = .ok (.iload_n 2, 1) := by decide +kernel
theorem dX7_carry_113 : decode cX7_carry 113 = .ok (.iload 7, 2) := by decide +kernel
theorem dX7_carry_115 : decode cX7_carry 115 = .ok (.iadd, 1) := by decide +kernel
theorem dX7_carry_116 : decode cX7_carry 116 = .ok (.istore_n 2, 1) := by decide +kernel
theorem dX7_carry_117 : decode cX7_carry 117 = .ok (.iload 7, 2) := by decide +kernel
theorem dX7_carry_119 : decode cX7_carry 119 = .ok (.ifCond .ne 15, 3) := by decide +kernel
theorem dX7_carry_122 : decode cX7_carry 122 = .ok (.aload 6, 2) := by decide +kernel
theorem dX7_carry_124 : decode cX7_carry 124 = .ok (.invokestatic 110, 3) := by decide +kernel
theorem dX7_carry_127 : decode cX7_carry 127 = .ok (.ifCond .eq 7, 3) := by decide +kernel
theorem dX7_carry_130 : decode cX7_carry 130 = .ok (.iconst 1, 1) := by decide +kernel
theorem dX7_carry_131 : decode cX7_carry 131 = .ok (.goto 4, 3) := by decide +kernel
theorem dX7_carry_134 : decode cX7_carry 134 = .ok (.iconst 0, 1) := by decide +kernel
theorem dX7_carry_135 : decode cX7_carry 135 = .ok (.istore 4, 2) := by decide +kernel
theorem dX7_carry_137 : decode cX7_carry 137 = .ok (.iinc 5 1, 3) := by decide +kernel
theorem dX7_carry_140 : decode cX7_carry 140 = .ok (.goto (-87), 3) := by decide +kernel
theorem dX7_carry_143 : decode cX7_carry 143 = .ok (.iinc 3 1, 3) := by decide +kernel
theorem dX7_carry_146 : decode cX7_carry 146 = .ok (.goto (-104), 3) := by decide +kernel
theorem dX7_carry_149 : decode cX7_carry 149 = .ok (.aload_n 0, 1) := by decide +kernel
theorem dX7_carry_150 : decode cX7_carry 150 = .ok (.iload_n 2, 1) := by decide +kernel
theorem dX7_carry_151 : decode cX7_carry 151 = .ok (.invokevirtual 69, 3) := by decide +kernel
theorem dX7_carry_154 : decode cX7_carry 154 = .ok (.ireturn, 1) := by decide +kernel
theorem dX7_undo_0 : decode cX7_undo 0 = .ok (.aload_n 0, 1) := by decide +kernel
theorem dX7_undo_1 : decode cX7_undo 1 = .ok (.getfield 26, 3) := by decide +kernel
theorem dX7_undo_4 : decode cX7_undo 4 = .ok (.getfield 34, 3) := by decide +kernel
theorem dX7_undo_7 : decode cX7_undo 7 = .ok (.ifCond .ne 13, 3) := by decide +kernel
theorem dX7_undo_10 : decode cX7_undo 10 = .ok (.aload_n 0, 1) := by decide +kernel
theorem dX7_undo_11 : decode cX7_undo 11 = .ok (.getfield 12, 3) := by decide +kernel
theorem dX7_undo_14 : decode cX7_undo 14 = .ok (.getfield 114, 3) := by decide +kernel
theorem dX7_undo_17 : decode cX7_undo 17 = .ok (.ifCond .ne 10, 3) := by decide +kernel
theorem dX7_undo_20 : decode cX7_undo 20 = .ok (.aload_n 0, 1) := by decide +kernel
theorem dX7_undo_21 : decode cX7_undo 21 = .ok (.bipush 7, 2) := by decide +kernel
theorem dX7_undo_23 : decode cX7_undo 23 = .ok (.invokevirtual 91, 3) := by decide +kernel
theorem dX7_undo_26 : decode cX7_undo 26 = .ok (.ireturn, 1) := by decide +kernel
theorem dX7_undo_27 : decode cX7_undo 27 = .ok (.aload_n 0, 1) := by decide +kernel
theorem dX7_undo_28 : decode cX7_undo 28 = .ok (.iconst 0, 1) := by decide +kernel
theorem dX7_undo_29 : decode cX7_undo 29 = .ok (.putfield 30, 3) := by decide +kernel
theorem dX7_undo_32 : decode cX7_undo 32 = .ok (.aload_n 0, 1) := by decide +kernel
theorem dX7_undo_33 : decode cX7_undo 33 = .ok (.getfield 12, 3) := by decide +kernel
theorem dX7_undo_36 : decode cX7_undo 36 = .ok (.invokevirtual 117, 3) := by decide +kernel
theorem dX7_undo_39 : decode cX7_undo 39 = .ok (.aload_n 0, 1) := by decide +kernel
theorem dX7_undo_40 : decode cX7_undo 40 = .ok (.getfield 12, 3) := by decide +kernel
theorem dX7_undo_43 : decode cX7_undo 43 = .ok (.getfield 114, 3) := by decide +kernel
theorem dX7_undo_46 : decode cX7_undo 46 = .ok (.ireturn, 1) := by decide +kernel
theorem dX7_acts_0 : decode cX7_acts 0 = .ok (.aload_n 0, 1) := by decide +kernel
theorem dX7_acts_1 : decode cX7_acts 1 = .ok (.iconst 0, 1) := by decide +kernel
theorem dX7_acts_2 : decode cX7_acts 2 = .ok (.putfield 30, 3) := by decide +kernel
theorem dX7_acts_5 : decode cX7_acts 5 = .ok (.aload_n 0, 1) := by decide +kernel
theorem dX7_acts_6 : decode cX7_acts 6 = .ok (.getfield 12, 3) := by decide +kernel
theorem dX7_acts_9 : decode cX7_acts 9 = .ok (.getfield 114, 3) := by decide +kernel
theorem dX7_acts_12 : decode cX7_acts 12 = .ok (.ireturn, 1) := by decide +kernel
theorem dX7_ask_0 : decode cX7_ask 0 = .ok (.aload_n 0, 1) := by decide +kernel
theorem dX7_ask_1 : decode cX7_ask 1 = .ok (.iload_n 1, 1) := by decide +kernel
theorem dX7_ask_2 : decode cX7_ask 2 = .ok (.iload_n 2, 1) := by decide +kernel
theorem dX7_ask_3 : decode cX7_ask 3 = .ok (.invokevirtual 120, 3) := by decide +kernel
theorem dX7_ask_6 : decode cX7_ask 6 = .ok (.ireturn, 1) := by decide +kernel
theorem dX7_take_0 : decode cX7_take 0 = .ok (.iload_n 1, 1) := by decide +kernel
theorem dX7_take_1 : decode cX7_take 1 = .ok (.invokestatic 123, 3) := by decide +kernel
theorem dX7_take_4 : decode cX7_take 4 = .ok (.ifCond .eq 10, 3) := by decide +kernel
theorem dX7_take_7 : decode cX7_take 7 = .ok (.iload_n 2, 1) := by decide +kernel
theorem dX7_take_8 : decode cX7_take 8 = .ok (.invokestatic 127, 3) := by decide +kernel
theorem dX7_take_11 : decode cX7_take 11 = .ok (.ifCond .ne 10, 3) := by decide +kernel
theorem dX7_take_14 : decode cX7_take 14 = .ok (.aload_n 0, 1) := by decide +kernel
theorem dX7_take_15 : decode cX7_take 15 = .ok (.iconst 1, 1) := by decide +kernel
theorem dX7_take_16 : decode cX7_take 16 = .ok (.invokevirtual 91, 3) := by decide +kernel
theorem dX7_take_19 : decode cX7_take 19 = .ok (.i2l, 1) := by decide +kernel
theorem dX7_take_20 : decode cX7_take 20 = .ok (.lreturn, 1) := by decide +kernel
theorem dX7_take_21 : decode cX7_take 21 = .ok (.aload_n 0, 1) := by decide +kernel
theorem dX7_take_22 : decode cX7_take 22 = .ok (.iload_n 1, 1) := by decide +kernel
theorem dX7_take_23 : decode cX7_take 23 = .ok (.iconst 1, 1) := by decide +kernel
theorem dX7_take_24 : decode cX7_take 24 = .ok (.iload_n 2, 1) := by decide +kernel
theorem dX7_take_25 : decode cX7_take 25 = .ok (.ishl, 1) := by decide +kernel
theorem dX7_take_26 : decode cX7_take 26 = .ok (.invokevirtual 132, 3) := by decide +kernel
theorem dX7_take_29 : decode cX7_take 29 = .ok (.ifCond .eq 5, 3) := by decide +kernel
theorem dX7_take_32 : decode cX7_take 32 = .ok (.lconst 0, 1) := by decide +kernel
theorem dX7_take_33 : decode cX7_take 33 = .ok (.lreturn, 1) := by decide +kernel
theorem dX7_take_34 : decode cX7_take 34 = .ok (.aload_n 0, 1) := by decide +kernel
theorem dX7_take_35 : decode cX7_take 35 = .ok (.getfield 12, 3) := by decide +kernel
theorem dX7_take_38 : decode cX7_take 38 = .ok (.iload_n 1, 1) := by decide +kernel
theorem dX7_take_39 : decode cX7_take 39 = .ok (.invokevirtual 136, 3) := by decide +kernel
theorem dX7_take_42 : decode cX7_take 42 = .ok (.istore 4, 2) := by decide +kernel
theorem dX7_take_44 : decode cX7_take 44 = .ok (.iload_n 2, 1) := by decide +kernel
theorem dX7_take_45 : decode cX7_take 45 = .ok (.ldc 139, 2) := by decide +kernel
theorem dX7_take_47 : decode cX7_take 47 = .ok (.invokestatic 140, 3) := by decide +kernel
theorem dX7_take_50 : decode cX7_take 50 = .ok (.ifCond .eq 14, 3) := by decide +kernel
theorem dX7_take_53 : decode cX7_take 53 = .ok (.aload_n 0, 1) := by decide +kernel
theorem dX7_take_54 : decode cX7_take 54 = .ok (.iload 4, 2) := by decide +kernel
theorem dX7_take_56 : decode cX7_take 56 = .ok (.iload_n 2, 1) := by decide +kernel
theorem dX7_take_57 : decode cX7_take 57 = .ok (.iload_n 3, 1) := by decide +kernel
theorem dX7_take_58 : decode cX7_take 58 = .ok (.invokevirtual 143, 3) := by decide +kernel
theorem dX7_take_61 : decode cX7_take 61 = .ok (.goto 11, 3) := by decide +kernel
theorem dX7_take_64 : decode cX7_take 64 = .ok (.aload_n 0, 1) := by decide +kernel
theorem dX7_take_65 : decode cX7_take 65 = .ok (.iload 4, 2) := by decide +kernel
theorem dX7_take_67 : decode cX7_take 67 = .ok (.iload_n 2, 1) := by decide +kernel
theorem dX7_take_68 : decode cX7_take 68 = .ok (.invokevirtual 147, 3) := by decide +kernel
theorem dX7_take_71 : decode cX7_take 71 = .ok (.i2l, 1) := by decide +kernel
theorem dX7_take_72 : decode cX7_take 72 = .ok (.lreturn, 1) := by decide +kernel
theorem dX7_size_0 : decode cX7_size 0 = .ok (.aload_n 0, 1) := by decide +kernel
theorem dX7_size_1 : decode cX7_size 1 = .ok (.iload_n 1, 1) := by decide +kernel
theorem dX7_size_2 : decode cX7_size 2 = .ok (.ldc 139, 2) := by decide +kernel
theorem dX7_size_4 : decode cX7_size 4 = .ok (.invokevirtual 132, 3) := by decide +kernel
theorem dX7_size_7 : decode cX7_size 7 = .ok (.ifCond .eq 7, 3) := by decide +kernel
theorem dX7_size_10 : decode cX7_size 10 = .ok (.iconst 0, 1) := by decide +kernel
theorem dX7_size_11 : decode cX7_size 11 = .ok (.goto 18, 3) := by decide +kernel
theorem dX7_size_14 : decode cX7_size 14 = .ok (.aload_n 0, 1) := by decide +kernel
theorem dX7_size_15 : decode cX7_size 15 = .ok (.getfield 12, 3) := by decide +kernel
theorem dX7_size_18 : decode cX7_size 18 = .ok (.aload_n 0, 1) := by decide +kernel
theorem dX7_size_19 : decode cX7_size 19 = .ok (.getfield 12, 3) := by decide +kernel
theorem dX7_size_22 : decode cX7_size 22 = .ok (.iload_n 1, 1) := by decide +kernel
theorem dX7_size_23 : decode cX7_size 23 = .ok (.invokevirtual 136, 3) := by decide +kernel
theorem dX7_size_26 : decode cX7_size 26 = .ok (.invokevirtual 150, 3) := by decide +kernel
theorem dX7_size_29 : decode cX7_size 29 = .ok (.ireturn, 1) := by decide +kernel
theorem dX7_read_0 : decode cX7_read 0 = .ok (.aload_n 0, 1) := by decide +kernel
theorem dX7_read_1 : decode cX7_read 1 = .ok (.iload_n 1, 1) := by decide +kernel
theorem dX7_read_2 : decode cX7_read 2 = .ok (.ldc 153, 2) := by decide +kernel
theorem dX7_read_4 : decode cX7_read 4 = .ok (.iload_n 2, 1) := by decide +kernel
theorem dX7_read_5 : decode cX7_read 5 = .ok (.invokevirtual 154, 3) := by decide +kernel
theorem dX7_read_8 : decode cX7_read 8 = .ok (.ifCond .eq 7, 3) := by decide +kernel
theorem dX7_read_11 : decode cX7_read 11 = .ok (.lconst 0, 1) := by decide +kernel
theorem dX7_read_12 : decode cX7_read 12 = .ok (.goto 19, 3) := by decide +kernel
theorem dX7_read_15 : decode cX7_read 15 = .ok (.aload_n 0, 1) := by decide +kernel
theorem dX7_read_16 : decode cX7_read 16 = .ok (.getfield 12, 3) := by decide +kernel
theorem dX7_read_19 : decode cX7_read 19 = .ok (.aload_n 0, 1) := by decide +kernel
theorem dX7_read_20 : decode cX7_read 20 = .ok (.getfield 12, 3) := by decide +kernel
theorem dX7_read_23 : decode cX7_read 23 = .ok (.iload_n 1, 1) := by decide +kernel
theorem dX7_read_24 : decode cX7_read 24 = .ok (.invokevirtual 136, 3) := by decide +kernel
theorem dX7_read_27 : decode cX7_read 27 = .ok (.iload_n 2, 1) := by decide +kernel
theorem dX7_read_28 : decode cX7_read 28 = .ok (.invokevirtual 158, 3) := by decide +kernel
theorem dX7_read_31 : decode cX7_read 31 = .ok (.lreturn, 1) := by decide +kernel
theorem dX7_at_0 : decode cX7_at 0 = .ok (.aload_n 0, 1) := by decide +kernel
theorem dX7_at_1 : decode cX7_at 1 = .ok (.iload_n 1, 1) := by decide +kernel
theorem dX7_at_2 : decode cX7_at 2 = .ok (.ldc 162, 2) := by decide +kernel
theorem dX7_at_4 : decode cX7_at 4 = .ok (.iload_n 2, 1) := by decide +kernel
theorem dX7_at_5 : decode cX7_at 5 = .ok (.invokevirtual 154, 3) := by decide +kernel
theorem dX7_at_8 : decode cX7_at 8 = .ok (.ifCond .eq 5, 3) := by decide +kernel
theorem dX7_at_11 : decode cX7_at 11 = .ok (.iconst 0, 1) := by decide +kernel
theorem dX7_at_12 : decode cX7_at 12 = .ok (.ireturn, 1) := by decide +kernel
theorem dX7_at_13 : decode cX7_at 13 = .ok (.aload_n 0, 1) := by decide +kernel
theorem dX7_at_14 : decode cX7_at 14 = .ok (.getfield 12, 3) := by decide +kernel
theorem dX7_at_17 : decode cX7_at 17 = .ok (.aload_n 0, 1) := by decide +kernel
theorem dX7_at_18 : decode cX7_at 18 = .ok (.getfield 12, 3) := by decide +kernel
theorem dX7_at_21 : decode cX7_at 21 = .ok (.iload_n 1, 1) := by decide +kernel
theorem dX7_at_22 : decode cX7_at 22 = .ok (.invokevirtual 136, 3) := by decide +kernel
theorem dX7_at_25 : decode cX7_at 25 = .ok (.iload_n 2, 1) := by decide +kernel
theorem dX7_at_26 : decode cX7_at 26 = .ok (.invokevirtual 158, 3) := by decide +kernel
theorem dX7_at_29 : decode cX7_at 29 = .ok (.l2i, 1) := by decide +kernel
theorem dX7_at_30 : decode cX7_at 30 = .ok (.istore 4, 2) := by decide +kernel
theorem dX7_at_32 : decode cX7_at 32 = .ok (.iload 4, 2) := by decide +kernel
theorem dX7_at_34 : decode cX7_at 34 = .ok (.iconst (-1), 1) := by decide +kernel
theorem dX7_at_35 : decode cX7_at 35 = .ok (.if_icmp .ne 9, 3) := by decide +kernel
theorem dX7_at_38 : decode cX7_at 38 = .ok (.aload_n 0, 1) := by decide +kernel
theorem dX7_at_39 : decode cX7_at 39 = .ok (.iconst 2, 1) := by decide +kernel
theorem dX7_at_40 : decode cX7_at 40 = .ok (.invokevirtual 91, 3) := by decide +kernel
theorem dX7_at_43 : decode cX7_at 43 = .ok (.ireturn, 1) := by decide +kernel
theorem dX7_at_44 : decode cX7_at 44 = .ok (.aload_n 0, 1) := by decide +kernel
theorem dX7_at_45 : decode cX7_at 45 = .ok (.getfield 12, 3) := by decide +kernel
theorem dX7_at_48 : decode cX7_at 48 = .ok (.iload 4, 2) := by decide +kernel
theorem dX7_at_50 : decode cX7_at 50 = .ok (.iload_n 3, 1) := by decide +kernel
theorem dX7_at_51 : decode cX7_at 51 = .ok (.invokevirtual 163, 3) := by decide +kernel
theorem dX7_at_54 : decode cX7_at 54 = .ok (.ifCond .ne 9, 3) := by decide +kernel
theorem dX7_at_57 : decode cX7_at 57 = .ok (.aload_n 0, 1) := by decide +kernel
theorem dX7_at_58 : decode cX7_at 58 = .ok (.iconst 4, 1) := by decide +kernel
theorem dX7_at_59 : decode cX7_at 59 = .ok (.invokevirtual 91, 3) := by decide +kernel
theorem dX7_at_62 : decode cX7_at 62 = .ok (.ireturn, 1) := by decide +kernel
theorem dX7_at_63 : decode cX7_at 63 = .ok (.aload_n 0, 1) := by decide +kernel
theorem dX7_at_64 : decode cX7_at 64 = .ok (.getfield 12, 3) := by decide +kernel
theorem dX7_at_67 : decode cX7_at 67 = .ok (.iload 4, 2) := by decide +kernel
theorem dX7_at_69 : decode cX7_at 69 = .ok (.iload_n 3, 1) := by decide +kernel
theorem dX7_at_70 : decode cX7_at 70 = .ok (.invokevirtual 158, 3) := by decide +kernel
theorem dX7_at_73 : decode cX7_at 73 = .ok (.l2i, 1) := by decide +kernel
theorem dX7_at_74 : decode cX7_at 74 = .ok (.istore 5, 2) := by decide +kernel
theorem dX7_at_76 : decode cX7_at 76 = .ok (.iload 5, 2) := by decide +kernel
theorem dX7_at_78 : decode cX7_at 78 = .ok (.iconst (-1), 1) := by decide +kernel
theorem dX7_at_79 : decode cX7_at 79 = .ok (.if_icmp .ne 23, 3) := by decide +kernel
theorem dX7_at_82 : decode cX7_at 82 = .ok (.aload_n 0, 1) := by decide +kernel
theorem dX7_at_83 : decode cX7_at 83 = .ok (.getfield 12, 3) := by decide +kernel
theorem dX7_at_86 : decode cX7_at 86 = .ok (.iload 4, 2) := by decide +kernel
theorem dX7_at_88 : decode cX7_at 88 = .ok (.ldc 166, 2) := by decide +kernel
theorem dX7_at_90 : decode cX7_at 90 = .ok (.invokevirtual 167, 3) := by decide +kernel
theorem dX7_at_93 : decode cX7_at 93 = .ok (.ifCond .eq 9, 3) := by decide +kernel
theorem dX7_at_96 : decode cX7_at 96 = .ok (.aload_n 0, 1) := by decide +kernel
theorem dX7_at_97 : decode cX7_at 97 = .ok (.iconst 2, 1) := by decide +kernel
theorem dX7_at_98 : decode cX7_at 98 = .ok (.invokevirtual 91, 3) := by decide +kernel
theorem dX7_at_101 : decode cX7_at 101 = .ok (.ireturn, 1) := by decide +kernel
theorem dX7_at_102 : decode cX7_at 102 = .ok (.iload 5, 2) := by decide +kernel
theorem dX7_at_104 : decode cX7_at 104 = .ok (.ireturn, 1) := by decide +kernel
theorem dX7_tell_0 : decode cX7_tell 0 = .ok (.iload_n 2, 1) := by decide +kernel
theorem dX7_tell_1 : decode cX7_tell 1 = .ok (.ifCond .lt 9, 3) := by decide +kernel
theorem dX7_tell_4 : decode cX7_tell 4 = .ok (.iload_n 2, 1) := by decide +kernel
theorem dX7_tell_5 : decode cX7_tell 5 = .ok (.bipush 9, 2) := by decide +kernel
theorem dX7_tell_7 : decode cX7_tell 7 = .ok (.if_icmp .le 9, 3) := by decide +kernel
theorem dX7_tell_10 : decode cX7_tell 10 = .ok (.aload_n 0, 1) := by decide +kernel
theorem dX7_tell_11 : decode cX7_tell 11 = .ok (.iconst 1, 1) := by decide +kernel
theorem dX7_tell_12 : decode cX7_tell 12 = .ok (.invokevirtual 91, 3) := by decide +kernel
theorem dX7_tell_15 : decode cX7_tell 15 = .ok (.ireturn, 1) := by decide +kernel
theorem dX7_tell_16 : decode cX7_tell 16 = .ok (.aload_n 0, 1) := by decide +kernel
theorem dX7_tell_17 : decode cX7_tell 17 = .ok (.iload_n 1, 1) := by decide +kernel
theorem dX7_tell_18 : decode cX7_tell 18 = .ok (.iconst (-1), 1) := by decide +kernel
theorem dX7_tell_19 : decode cX7_tell 19 = .ok (.invokevirtual 132, 3) := by decide +kernel
theorem dX7_tell_22 : decode cX7_tell 22 = .ok (.ifCond .eq 5, 3) := by decide +kernel
theorem dX7_tell_25 : decode cX7_tell 25 = .ok (.iconst 0, 1) := by decide +kernel
theorem dX7_tell_26 : decode cX7_tell 26 = .ok (.ireturn, 1) := by decide +kernel
theorem dX7_tell_27 : decode cX7_tell 27 = .ok (.aload_n 0, 1) := by decide +kernel
theorem dX7_tell_28 : decode cX7_tell 28 = .ok (.getfield 12, 3) := by decide +kernel
theorem dX7_tell_31 : decode cX7_tell 31 = .ok (.iload_n 1, 1) := by decide +kernel
theorem dX7_tell_32 : decode cX7_tell 32 = .ok (.invokevirtual 136, 3) := by decide +kernel
theorem dX7_tell_35 : decode cX7_tell 35 = .ok (.istore_n 3, 1) := by decide +kernel
theorem dX7_tell_36 : decode cX7_tell 36 = .ok (.iload_n 2, 1) := by decide +kernel
theorem dX7_tell_37 : decode cX7_tell 37 = .ok (.bipush 7, 2) := by decide +kernel
theorem dX7_tell_39 : decode cX7_tell 39 = .ok (.if_icmp .ne 14, 3) := by decide +kernel
theorem dX7_tell_42 : decode cX7_tell 42 = .ok (.aload_n 0, 1) := by decide +kernel
theorem dX7_tell_43 : decode cX7_tell 43 = .ok (.getfield 12, 3) := by decide +kernel
theorem dX7_tell_46 : decode cX7_tell 46 = .ok (.iload_n 3, 1) := by decide +kernel
theorem dX7_tell_47 : decode cX7_tell 47 = .ok (.invokestatic 170, 3) := by decide +kernel
theorem dX7_tell_50 : decode cX7_tell 50 = .ok (.goto 12, 3) := by decide +kernel
theorem dX7_tell_53 : decode cX7_tell 53 = .ok (.aload_n 0, 1) := by decide +kernel
theorem dX7_tell_54 : decode cX7_tell 54 = .ok (.getfield 12, 3) := by decide +kernel
theorem dX7_tell_57 : decode cX7_tell 57 = .ok (.iload_n 3, 1) := by decide +kernel
theorem dX7_tell_58 : decode cX7_tell 58 = .ok (.iload_n 2, 1) := by decide +kernel
theorem dX7_tell_59 : decode cX7_tell 59 = .ok (.invokevirtual 176, 3) := by decide +kernel
theorem dX7_tell_62 : decode cX7_tell 62 = .ok (.ireturn, 1) := by decide +kernel
theorem dX7_why_0 : decode cX7_why 0 = .ok (.aload_n 0, 1) := by decide +kernel
theorem dX7_why_1 : decode cX7_why 1 = .ok (.getfield 30, 3) := by decide +kernel
theorem dX7_why_4 : decode cX7_why 4 = .ok (.ireturn, 1) := by decide +kernel
theorem dX7_refuse_0 : decode cX7_refuse 0 = .ok (.aload_n 0, 1) := by decide +kernel
theorem dX7_refuse_1 : decode cX7_refuse 1 = .ok (.iload_n 1, 1) := by decide +kernel
theorem dX7_refuse_2 : decode cX7_refuse 2 = .ok (.putfield 30, 3) := by decide +kernel
theorem dX7_refuse_5 : decode cX7_refuse 5 = .ok (.iconst 0, 1) := by decide +kernel
theorem dX7_refuse_6 : decode cX7_refuse 6 = .ok (.ireturn, 1) := by decide +kernel
theorem dX7_isShelf_0 : decode cX7_isShelf 0 = .ok (.iload_n 0, 1) := by decide +kernel
theorem dX7_isShelf_1 : decode cX7_isShelf 1 = .ok (.ifCond .lt 13, 3) := by decide +kernel
theorem dX7_isShelf_4 : decode cX7_isShelf 4 = .ok (.iload_n 0, 1) := by decide +kernel
theorem dX7_isShelf_5 : decode cX7_isShelf 5 = .ok (.bipush 16, 2) := by decide +kernel
theorem dX7_isShelf_7 : decode cX7_isShelf 7 = .ok (.if_icmp .ge 7, 3) := by decide +kernel
theorem dX7_isShelf_10 : decode cX7_isShelf 10 = .ok (.iconst 1, 1) := by decide +kernel
theorem dX7_isShelf_11 : decode cX7_isShelf 11 = .ok (.goto 4, 3) := by decide +kernel
theorem dX7_isShelf_14 : decode cX7_isShelf 14 = .ok (.iconst 0, 1) := by decide +kernel
theorem dX7_isShelf_15 : decode cX7_isShelf 15 = .ok (.ireturn, 1) := by decide +kernel
theorem dX7_holdsNone_0 : decode cX7_holdsNone 0 = .ok (.aload_n 0, 1) := by decide +kernel
theorem dX7_holdsNone_1 : decode cX7_holdsNone 1 = .ok (.iconst 0, 1) := by decide +kernel
theorem dX7_holdsNone_2 : decode cX7_holdsNone 2 = .ok (.putfield 30, 3) := by decide +kernel
theorem dX7_holdsNone_5 : decode cX7_holdsNone 5 = .ok (.iload_n 1, 1) := by decide +kernel
theorem dX7_holdsNone_6 : decode cX7_holdsNone 6 = .ok (.invokestatic 123, 3) := by decide +kernel
theorem dX7_holdsNone_9 : decode cX7_holdsNone 9 = .ok (.ifCond .ne 11, 3) := by decide +kernel
theorem dX7_holdsNone_12 : decode cX7_holdsNone 12 = .ok (.aload_n 0, 1) := by decide +kernel
theorem dX7_holdsNone_13 : decode cX7_holdsNone 13 = .ok (.iconst 1, 1) := by decide +kernel
theorem dX7_holdsNone_14 : decode cX7_holdsNone 14 = .ok (.putfield 30, 3) := by decide +kernel
theorem dX7_holdsNone_17 : decode cX7_holdsNone 17 = .ok (.goto 47, 3) := by decide +kernel
theorem dX7_holdsNone_20 : decode cX7_holdsNone 20 = .ok (.aload_n 0, 1) := by decide +kernel
theorem dX7_holdsNone_21 : decode cX7_holdsNone 21 = .ok (.getfield 12, 3) := by decide +kernel
theorem dX7_holdsNone_24 : decode cX7_holdsNone 24 = .ok (.iload_n 1, 1) := by decide +kernel
theorem dX7_holdsNone_25 : decode cX7_holdsNone 25 = .ok (.invokevirtual 136, 3) := by decide +kernel
theorem dX7_holdsNone_28 : decode cX7_holdsNone 28 = .ok (.iconst (-1), 1) := by decide +kernel
theorem dX7_holdsNone_29 : decode cX7_holdsNone 29 = .ok (.if_icmp .ne 11, 3) := by decide +kernel
theorem dX7_holdsNone_32 : decode cX7_holdsNone 32 = .ok (.aload_n 0, 1) := by decide +kernel
theorem dX7_holdsNone_33 : decode cX7_holdsNone 33 = .ok (.iconst 2, 1) := by decide +kernel
theorem dX7_holdsNone_34 : decode cX7_holdsNone 34 = .ok (.putfield 30, 3) := by decide +kernel
theorem dX7_holdsNone_37 : decode cX7_holdsNone 37 = .ok (.goto 27, 3) := by decide +kernel
theorem dX7_holdsNone_40 : decode cX7_holdsNone 40 = .ok (.aload_n 0, 1) := by decide +kernel
theorem dX7_holdsNone_41 : decode cX7_holdsNone 41 = .ok (.getfield 12, 3) := by decide +kernel
theorem dX7_holdsNone_44 : decode cX7_holdsNone 44 = .ok (.aload_n 0, 1) := by decide +kernel
theorem dX7_holdsNone_45 : decode cX7_holdsNone 45 = .ok (.getfield 12, 3) := by decide +kernel
theorem dX7_holdsNone_48 : decode cX7_holdsNone 48 = .ok (.iload_n 1, 1) := by decide +kernel
theorem dX7_holdsNone_49 : decode cX7_holdsNone 49 = .ok (.invokevirtual 136, 3) := by decide +kernel
theorem dX7_holdsNone_52 : decode cX7_holdsNone 52 = .ok (.iload_n 2, 1) := by decide +kernel
theorem dX7_holdsNone_53 : decode cX7_holdsNone 53 = .ok (.invokevirtual 167, 3) := by decide +kernel
theorem dX7_holdsNone_56 : decode cX7_holdsNone 56 = .ok (.ifCond .ne 8, 3) := by decide +kernel
theorem dX7_holdsNone_59 : decode cX7_holdsNone 59 = .ok (.aload_n 0, 1) := by decide +kernel
theorem dX7_holdsNone_60 : decode cX7_holdsNone 60 = .ok (.iconst 3, 1) := by decide +kernel
theorem dX7_holdsNone_61 : decode cX7_holdsNone 61 = .ok (.putfield 30, 3) := by decide +kernel
theorem dX7_holdsNone_64 : decode cX7_holdsNone 64 = .ok (.aload_n 0, 1) := by decide +kernel
theorem dX7_holdsNone_65 : decode cX7_holdsNone 65 = .ok (.getfield 30, 3) := by decide +kernel
theorem dX7_holdsNone_68 : decode cX7_holdsNone 68 = .ok (.ifCond .eq 7, 3) := by decide +kernel
theorem dX7_holdsNone_71 : decode cX7_holdsNone 71 = .ok (.iconst 1, 1) := by decide +kernel
theorem dX7_holdsNone_72 : decode cX7_holdsNone 72 = .ok (.goto 4, 3) := by decide +kernel
theorem dX7_holdsNone_75 : decode cX7_holdsNone 75 = .ok (.iconst 0, 1) := by decide +kernel
theorem dX7_holdsNone_76 : decode cX7_holdsNone 76 = .ok (.ireturn, 1) := by decide +kernel
theorem dX7_hasNoPlace_0 : decode cX7_hasNoPlace 0 = .ok (.aload_n 0, 1) := by decide +kernel
theorem dX7_hasNoPlace_1 : decode cX7_hasNoPlace 1 = .ok (.iload_n 1, 1) := by decide +kernel
theorem dX7_hasNoPlace_2 : decode cX7_hasNoPlace 2 = .ok (.iload_n 2, 1) := by decide +kernel
theorem dX7_hasNoPlace_3 : decode cX7_hasNoPlace 3 = .ok (.invokevirtual 132, 3) := by decide +kernel
theorem dX7_hasNoPlace_6 : decode cX7_hasNoPlace 6 = .ok (.ifCond .ne 27, 3) := by decide +kernel
theorem dX7_hasNoPlace_9 : decode cX7_hasNoPlace 9 = .ok (.aload_n 0, 1) := by decide +kernel
theorem dX7_hasNoPlace_10 : decode cX7_hasNoPlace 10 = .ok (.getfield 12, 3) := by decide +kernel
theorem dX7_hasNoPlace_13 : decode cX7_hasNoPlace 13 = .ok (.aload_n 0, 1) := by decide +kernel
theorem dX7_hasNoPlace_14 : decode cX7_hasNoPlace 14 = .ok (.getfield 12, 3) := by decide +kernel
theorem dX7_hasNoPlace_17 : decode cX7_hasNoPlace 17 = .ok (.iload_n 1, 1) := by decide +kernel
theorem dX7_hasNoPlace_18 : decode cX7_hasNoPlace 18 = .ok (.invokevirtual 136, 3) := by decide +kernel
theorem dX7_hasNoPlace_21 : decode cX7_hasNoPlace 21 = .ok (.iload_n 3, 1) := by decide +kernel
theorem dX7_hasNoPlace_22 : decode cX7_hasNoPlace 22 = .ok (.invokevirtual 163, 3) := by decide +kernel
theorem dX7_hasNoPlace_25 : decode cX7_hasNoPlace 25 = .ok (.ifCond .ne 8, 3) := by decide +kernel
theorem dX7_hasNoPlace_28 : decode cX7_hasNoPlace 28 = .ok (.aload_n 0, 1) := by decide +kernel
theorem dX7_hasNoPlace_29 : decode cX7_hasNoPlace 29 = .ok (.iconst 4, 1) := by decide +kernel
theorem dX7_hasNoPlace_30 : decode cX7_hasNoPlace 30 = .ok (.putfield 30, 3) := by decide +kernel
theorem dX7_hasNoPlace_33 : decode cX7_hasNoPlace 33 = .ok (.aload_n 0, 1) := by decide +kernel
theorem dX7_hasNoPlace_34 : decode cX7_hasNoPlace 34 = .ok (.getfield 30, 3) := by decide +kernel
theorem dX7_hasNoPlace_37 : decode cX7_hasNoPlace 37 = .ok (.ifCond .eq 7, 3) := by decide +kernel
theorem dX7_hasNoPlace_40 : decode cX7_hasNoPlace 40 = .ok (.iconst 1, 1) := by decide +kernel
theorem dX7_hasNoPlace_41 : decode cX7_hasNoPlace 41 = .ok (.goto 4, 3) := by decide +kernel
theorem dX7_hasNoPlace_44 : decode cX7_hasNoPlace 44 = .ok (.iconst 0, 1) := by decide +kernel
theorem dX7_hasNoPlace_45 : decode cX7_hasNoPlace 45 = .ok (.ireturn, 1) := by decide +kernel
theorem dX7_isEitherEmpty_0 : decode cX7_isEitherEmpty 0 = .ok (.aload_n 0, 1) := by decide +kernel
theorem dX7_isEitherEmpty_1 : decode cX7_isEitherEmpty 1 = .ok (.iconst 0, 1) := by decide +kernel
theorem dX7_isEitherEmpty_2 : decode cX7_isEitherEmpty 2 = .ok (.putfield 30, 3) := by decide +kernel
theorem dX7_isEitherEmpty_5 : decode cX7_isEitherEmpty 5 = .ok (.iload_n 1, 1) := by decide +kernel
theorem dX7_isEitherEmpty_6 : decode cX7_isEitherEmpty 6 = .ok (.invokestatic 123, 3) := by decide +kernel
theorem dX7_isEitherEmpty_9 : decode cX7_isEitherEmpty 9 = .ok (.ifCond .eq 10, 3) := by decide +kernel
theorem dX7_isEitherEmpty_12 : decode cX7_isEitherEmpty 12 = .ok (.iload_n 2, 1) := by decide +kernel
theorem dX7_isEitherEmpty_13 : decode cX7_isEitherEmpty 13 = .ok (.invokestatic 123, 3) := by decide +kernel
theorem dX7_isEitherEmpty_16 : decode cX7_isEitherEmpty 16 = .ok (.ifCond .ne 11, 3) := by decide +kernel
theorem dX7_isEitherEmpty_19 : decode cX7_isEitherEmpty 19 = .ok (.aload_n 0, 1) := by decide +kernel
theorem dX7_isEitherEmpty_20 : decode cX7_isEitherEmpty 20 = .ok (.iconst 1, 1) := by decide +kernel
theorem dX7_isEitherEmpty_21 : decode cX7_isEitherEmpty 21 = .ok (.putfield 30, 3) := by decide +kernel
theorem dX7_isEitherEmpty_24 : decode cX7_isEitherEmpty 24 = .ok (.goto 32, 3) := by decide +kernel
theorem dX7_isEitherEmpty_27 : decode cX7_isEitherEmpty 27 = .ok (.aload_n 0, 1) := by decide +kernel
theorem dX7_isEitherEmpty_28 : decode cX7_isEitherEmpty 28 = .ok (.getfield 12, 3) := by decide +kernel
theorem dX7_isEitherEmpty_31 : decode cX7_isEitherEmpty 31 = .ok (.iload_n 1, 1) := by decide +kernel
theorem dX7_isEitherEmpty_32 : decode cX7_isEitherEmpty 32 = .ok (.invokevirtual 136, 3) := by decide +kernel
theorem dX7_isEitherEmpty_35 : decode cX7_isEitherEmpty 35 = .ok (.iconst (-1), 1) := by decide +kernel
theorem dX7_isEitherEmpty_36 : decode cX7_isEitherEmpty 36 = .ok (.if_icmp .eq 15, 3) := by decide +kernel
theorem dX7_isEitherEmpty_39 : decode cX7_isEitherEmpty 39 = .ok (.aload_n 0, 1) := by decide +kernel
theorem dX7_isEitherEmpty_40 : decode cX7_isEitherEmpty 40 = .ok (.getfield 12, 3) := by decide +kernel
theorem dX7_isEitherEmpty_43 : decode cX7_isEitherEmpty 43 = .ok (.iload_n 2, 1) := by decide +kernel
theorem dX7_isEitherEmpty_44 : decode cX7_isEitherEmpty 44 = .ok (.invokevirtual 136, 3) := by decide +kernel
theorem dX7_isEitherEmpty_47 : decode cX7_isEitherEmpty 47 = .ok (.iconst (-1), 1) := by decide +kernel
theorem dX7_isEitherEmpty_48 : decode cX7_isEitherEmpty 48 = .ok (.if_icmp .ne 8, 3) := by decide +kernel
theorem dX7_isEitherEmpty_51 : decode cX7_isEitherEmpty 51 = .ok (.aload_n 0, 1) := by decide +kernel
theorem dX7_isEitherEmpty_52 : decode cX7_isEitherEmpty 52 = .ok (.iconst 2, 1) := by decide +kernel
theorem dX7_isEitherEmpty_53 : decode cX7_isEitherEmpty 53 = .ok (.putfield 30, 3) := by decide +kernel
theorem dX7_isEitherEmpty_56 : decode cX7_isEitherEmpty 56 = .ok (.aload_n 0, 1) := by decide +kernel
theorem dX7_isEitherEmpty_57 : decode cX7_isEitherEmpty 57 = .ok (.getfield 30, 3) := by decide +kernel
theorem dX7_isEitherEmpty_60 : decode cX7_isEitherEmpty 60 = .ok (.ifCond .eq 7, 3) := by decide +kernel
theorem dX7_isEitherEmpty_63 : decode cX7_isEitherEmpty 63 = .ok (.iconst 1, 1) := by decide +kernel
theorem dX7_isEitherEmpty_64 : decode cX7_isEitherEmpty 64 = .ok (.goto 4, 3) := by decide +kernel
theorem dX7_isEitherEmpty_67 : decode cX7_isEitherEmpty 67 = .ok (.iconst 0, 1) := by decide +kernel
theorem dX7_isEitherEmpty_68 : decode cX7_isEitherEmpty 68 = .ok (.ireturn, 1) := by decide +kernel
theorem dX7_keepIfDone_0 : decode cX7_keepIfDone 0 = .ok (.aload_n 0, 1) := by decide +kernel
theorem dX7_keepIfDone_1 : decode cX7_keepIfDone 1 = .ok (.getfield 30, 3) := by decide +kernel
theorem dX7_keepIfDone_4 : decode cX7_keepIfDone 4 = .ok (.ifCond .ne 11, 3) := by decide +kernel
theorem dX7_keepIfDone_7 : decode cX7_keepIfDone 7 = .ok (.aload_n 0, 1) := by decide +kernel
theorem dX7_keepIfDone_8 : decode cX7_keepIfDone 8 = .ok (.iload_n 1, 1) := by decide +kernel
theorem dX7_keepIfDone_9 : decode cX7_keepIfDone 9 = .ok (.invokevirtual 69, 3) := by decide +kernel
theorem dX7_keepIfDone_12 : decode cX7_keepIfDone 12 = .ok (.goto 4, 3) := by decide +kernel
theorem dX7_keepIfDone_15 : decode cX7_keepIfDone 15 = .ok (.iload_n 1, 1) := by decide +kernel
theorem dX7_keepIfDone_16 : decode cX7_keepIfDone 16 = .ok (.ireturn, 1) := by decide +kernel
theorem dX7_keep_0 : decode cX7_keep 0 = .ok (.aload_n 0, 1) := by decide +kernel
theorem dX7_keep_1 : decode cX7_keep 1 = .ok (.getfield 12, 3) := by decide +kernel
theorem dX7_keep_4 : decode cX7_keep 4 = .ok (.invokevirtual 179, 3) := by decide +kernel
theorem dX7_keep_7 : decode cX7_keep 7 = .ok (.ifCond .eq 17, 3) := by decide +kernel
theorem dX7_keep_10 : decode cX7_keep 10 = .ok (.aload_n 0, 1) := by decide +kernel
theorem dX7_keep_11 : decode cX7_keep 11 = .ok (.getfield 12, 3) := by decide +kernel
theorem dX7_keep_14 : decode cX7_keep 14 = .ok (.invokevirtual 107, 3) := by decide +kernel
theorem dX7_keep_17 : decode cX7_keep 17 = .ok (.aload_n 0, 1) := by decide +kernel
theorem dX7_keep_18 : decode cX7_keep 18 = .ok (.bipush 6, 2) := by decide +kernel
theorem dX7_keep_20 : decode cX7_keep 20 = .ok (.invokevirtual 91, 3) := by decide +kernel
theorem dX7_keep_23 : decode cX7_keep 23 = .ok (.ireturn, 1) := by decide +kernel
theorem dX7_keep_24 : decode cX7_keep 24 = .ok (.aload_n 0, 1) := by decide +kernel
theorem dX7_keep_25 : decode cX7_keep 25 = .ok (.getfield 12, 3) := by decide +kernel
theorem dX7_keep_28 : decode cX7_keep 28 = .ok (.invokevirtual 183, 3) := by decide +kernel
theorem dX7_keep_31 : decode cX7_keep 31 = .ok (.iload_n 1, 1) := by decide +kernel
theorem dX7_keep_32 : decode cX7_keep 32 = .ok (.ireturn, 1) := by decide +kernel
theorem dX7_noteDown_0 : decode cX7_noteDown 0 = .ok (.aload_n 0, 1) := by decide +kernel
theorem dX7_noteDown_1 : decode cX7_noteDown 1 = .ok (.getfield 26, 3) := by decide +kernel
theorem dX7_noteDown_4 : decode cX7_noteDown 4 = .ok (.invokevirtual 186, 3) := by decide +kernel
theorem dX7_noteDown_7 : decode cX7_noteDown 7 = .ok (.ifCond .eq 10, 3) := by decide +kernel
theorem dX7_noteDown_10 : decode cX7_noteDown 10 = .ok (.aload_n 0, 1) := by decide +kernel
theorem dX7_noteDown_11 : decode cX7_noteDown 11 = .ok (.bipush 6, 2) := by decide +kernel
theorem dX7_noteDown_13 : decode cX7_noteDown 13 = .ok (.invokevirtual 91, 3) := by decide +kernel
theorem dX7_noteDown_16 : decode cX7_noteDown 16 = .ok (.ireturn, 1) := by decide +kernel
theorem dX7_noteDown_17 : decode cX7_noteDown 17 = .ok (.aload_n 0, 1) := by decide +kernel
theorem dX7_noteDown_18 : decode cX7_noteDown 18 = .ok (.iconst 0, 1) := by decide +kernel
theorem dX7_noteDown_19 : decode cX7_noteDown 19 = .ok (.putfield 30, 3) := by decide +kernel
theorem dX7_noteDown_22 : decode cX7_noteDown 22 = .ok (.aload_n 0, 1) := by decide +kernel
theorem dX7_noteDown_23 : decode cX7_noteDown 23 = .ok (.getfield 26, 3) := by decide +kernel
theorem dX7_noteDown_26 : decode cX7_noteDown 26 = .ok (.aload_n 1, 1) := by decide +kernel
theorem dX7_noteDown_27 : decode cX7_noteDown 27 = .ok (.invokevirtual 189, 3) := by decide +kernel
theorem dX7_noteDown_30 : decode cX7_noteDown 30 = .ok (.ireturn, 1) := by decide +kernel
theorem dX7_isWhen_0 : decode cX7_isWhen 0 = .ok (.aload_n 0, 1) := by decide +kernel
theorem dX7_isWhen_1 : decode cX7_isWhen 1 = .ok (.ifnull 16, 3) := by decide +kernel
theorem dX7_isWhen_4 : decode cX7_isWhen 4 = .ok (.aload_n 0, 1) := by decide +kernel
theorem dX7_isWhen_5 : decode cX7_isWhen 5 = .ok (.getfield 192, 3) := by decide +kernel
theorem dX7_isWhen_8 : decode cX7_isWhen 8 = .ok (.bipush 11, 2) := by decide +kernel
theorem dX7_isWhen_10 : decode cX7_isWhen 10 = .ok (.if_icmp .ne 7, 3) := by decide +kernel
theorem dX7_isWhen_13 : decode cX7_isWhen 13 = .ok (.iconst 1, 1) := by decide +kernel
theorem dX7_isWhen_14 : decode cX7_isWhen 14 = .ok (.goto 4, 3) := by decide +kernel
theorem dX7_isWhen_17 : decode cX7_isWhen 17 = .ok (.iconst 0, 1) := by decide +kernel
theorem dX7_isWhen_18 : decode cX7_isWhen 18 = .ok (.ireturn, 1) := by decide +kernel
theorem dX7_perform_0 : decode cX7_perform 0 = .ok (.aload_n 1, 1) := by decide +kernel
theorem dX7_perform_1 : decode cX7_perform 1 = .ok (.ifnonnull 5, 3) := by decide +kernel
theorem dX7_perform_4 : decode cX7_perform 4 = .ok (.iconst 0, 1) := by decide +kernel
theorem dX7_perform_5 : decode cX7_perform 5 = .ok (.ireturn, 1) := by decide +kernel
theorem dX7_perform_6 : decode cX7_perform 6 = .ok (.aload_n 1, 1) := by decide +kernel
theorem dX7_perform_7 : decode cX7_perform 7 = .ok (.getfield 192, 3) := by decide +kernel
theorem dX7_perform_10 : decode cX7_perform 10 = .ok (.tableswitch 229 0 10 #[58, 76, 89, 107, 125, 151, 168, 181, 194, 207, 220], 58) := by decide +kernel
theorem dX7_perform_68 : decode cX7_perform 68 = .ok (.aload_n 0, 1) := by decide +kernel
theorem dX7_perform_69 : decode cX7_perform 69 = .ok (.aload_n 1, 1) := by decide +kernel
theorem dX7_perform_70 : decode cX7_perform 70 = .ok (.getfield 195, 3) := by decide +kernel
theorem dX7_perform_73 : decode cX7_perform 73 = .ok (.aload_n 1, 1) := by decide +kernel
theorem dX7_perform_74 : decode cX7_perform 74 = .ok (.getfield 198, 3) := by decide +kernel
theorem dX7_perform_77 : decode cX7_perform 77 = .ok (.aload_n 1, 1) := by decide +kernel
theorem dX7_perform_78 : decode cX7_perform 78 = .ok (.getfield 201, 3) := by decide +kernel
theorem dX7_perform_81 : decode cX7_perform 81 = .ok (.l2i, 1) := by decide +kernel
theorem dX7_perform_82 : decode cX7_perform 82 = .ok (.invokevirtual 47, 3) := by decide +kernel
theorem dX7_perform_85 : decode cX7_perform 85 = .ok (.ireturn, 1) := by decide +kernel
theorem dX7_perform_86 : decode cX7_perform 86 = .ok (.aload_n 0, 1) := by decide +kernel
theorem dX7_perform_87 : decode cX7_perform 87 = .ok (.aload_n 1, 1) := by decide +kernel
theorem dX7_perform_88 : decode cX7_perform 88 = .ok (.getfield 195, 3) := by decide +kernel
theorem dX7_perform_91 : decode cX7_perform 91 = .ok (.aload_n 1, 1) := by decide +kernel
theorem dX7_perform_92 : decode cX7_perform 92 = .ok (.getfield 198, 3) := by decide +kernel
theorem dX7_perform_95 : decode cX7_perform 95 = .ok (.invokevirtual 55, 3) := by decide +kernel
theorem dX7_perform_98 : decode cX7_perform 98 = .ok (.ireturn, 1) := by decide +kernel
theorem dX7_perform_99 : decode cX7_perform 99 = .ok (.aload_n 0, 1) := by decide +kernel
theorem dX7_perform_100 : decode cX7_perform 100 = .ok (.aload_n 1, 1) := by decide +kernel
theorem dX7_perform_101 : decode cX7_perform 101 = .ok (.getfield 195, 3) := by decide +kernel
theorem dX7_perform_104 : decode cX7_perform 104 = .ok (.aload_n 1, 1) := by decide +kernel
theorem dX7_perform_105 : decode cX7_perform 105 = .ok (.getfield 198, 3) := by decide +kernel
theorem dX7_perform_108 : decode cX7_perform 108 = .ok (.aload_n 1, 1) := by decide +kernel
theorem dX7_perform_109 : decode cX7_perform 109 = .ok (.getfield 201, 3) := by decide +kernel
theorem dX7_perform_112 : decode cX7_perform 112 = .ok (.l2i, 1) := by decide +kernel
theorem dX7_perform_113 : decode cX7_perform 113 = .ok (.invokevirtual 59, 3) := by decide +kernel
theorem dX7_perform_116 : decode cX7_perform 116 = .ok (.ireturn, 1) := by decide +kernel
theorem dX7_perform_117 : decode cX7_perform 117 = .ok (.aload_n 0, 1) := by decide +kernel
theorem dX7_perform_118 : decode cX7_perform 118 = .ok (.aload_n 1, 1) := by decide +kernel
theorem dX7_perform_119 : decode cX7_perform 119 = .ok (.getfield 195, 3) := by decide +kernel
theorem dX7_perform_122 : decode cX7_perform 122 = .ok (.aload_n 1, 1) := by decide +kernel
theorem dX7_perform_123 : decode cX7_perform 123 = .ok (.getfield 198, 3) := by decide +kernel
theorem dX7_perform_126 : decode cX7_perform 126 = .ok (.aload_n 1, 1) := by decide +kernel
theorem dX7_perform_127 : decode cX7_perform 127 = .ok (.getfield 201, 3) := by decide +kernel
theorem dX7_perform_130 : decode cX7_perform 130 = .ok (.l2i, 1) := by decide +kernel
theorem dX7_perform_131 : decode cX7_perform 131 = .ok (.invokevirtual 62, 3) := by decide +kernel
theorem dX7_perform_134 : decode cX7_perform 134 = .ok (.ireturn, 1) := by decide +kernel
theorem dX7_perform_135 : decode cX7_perform 135 = .ok (.aload_n 0, 1) := by decide +kernel
theorem dX7_perform_136 : decode cX7_perform 136 = .ok (.aload_n 1, 1) := by decide +kernel
theorem dX7_perform_137 : decode cX7_perform 137 = .ok (.getfield 195, 3) := by decide +kernel
theorem dX7_perform_140 : decode cX7_perform 140 = .ok (.aload_n 1, 1) := by decide +kernel
theorem dX7_perform_141 : decode cX7_perform 141 = .ok (.getfield 198, 3) := by decide +kernel
theorem dX7_perform_144 : decode cX7_perform 144 = .ok (.aload_n 1, 1) := by decide +kernel
theorem dX7_perform_145 : decode cX7_perform 145 = .ok (.getfield 201, 3) := by decide +kernel
theorem dX7_perform_148 : decode cX7_perform 148 = .ok (.l2i, 1) := by decide +kernel
theorem dX7_perform_149 : decode cX7_perform 149 = .ok (.aload_n 1, 1) := by decide +kernel
theorem dX7_perform_150 : decode cX7_perform 150 = .ok (.getfield 205, 3) := by decide +kernel
theorem dX7_perform_153 : decode cX7_perform 153 = .ok (.aload_n 1, 1) := by decide +kernel
theorem dX7_perform_154 : decode cX7_perform 154 = .ok (.getfield 208, 3) := by decide +kernel
theorem dX7_perform_157 : decode cX7_perform 157 = .ok (.invokevirtual 65, 3) := by decide +kernel
theorem dX7_perform_160 : decode cX7_perform 160 = .ok (.ireturn, 1) := by decide +kernel
theorem dX7_perform_161 : decode cX7_perform 161 = .ok (.aload_n 0, 1) := by decide +kernel
theorem dX7_perform_162 : decode cX7_perform 162 = .ok (.aload_n 1, 1) := by decide +kernel
theorem dX7_perform_163 : decode cX7_perform 163 = .ok (.getfield 195, 3) := by decide +kernel
theorem dX7_perform_166 : decode cX7_perform 166 = .ok (.aload_n 1, 1) := by decide +kernel
theorem dX7_perform_167 : decode cX7_perform 167 = .ok (.getfield 198, 3) := by decide +kernel
theorem dX7_perform_170 : decode cX7_perform 170 = .ok (.aload_n 1, 1) := by decide +kernel
theorem dX7_perform_171 : decode cX7_perform 171 = .ok (.getfield 201, 3) := by decide +kernel
theorem dX7_perform_174 : decode cX7_perform 174 = .ok (.invokevirtual 72, 3) := by decide +kernel
theorem dX7_perform_177 : decode cX7_perform 177 = .ok (.ireturn, 1) := by decide +kernel
theorem dX7_perform_178 : decode cX7_perform 178 = .ok (.aload_n 0, 1) := by decide +kernel
theorem dX7_perform_179 : decode cX7_perform 179 = .ok (.aload_n 1, 1) := by decide +kernel
theorem dX7_perform_180 : decode cX7_perform 180 = .ok (.getfield 195, 3) := by decide +kernel
theorem dX7_perform_183 : decode cX7_perform 183 = .ok (.aload_n 1, 1) := by decide +kernel
theorem dX7_perform_184 : decode cX7_perform 184 = .ok (.getfield 198, 3) := by decide +kernel
theorem dX7_perform_187 : decode cX7_perform 187 = .ok (.invokevirtual 76, 3) := by decide +kernel
theorem dX7_perform_190 : decode cX7_perform 190 = .ok (.ireturn, 1) := by decide +kernel
theorem dX7_perform_191 : decode cX7_perform 191 = .ok (.aload_n 0, 1) := by decide +kernel
theorem dX7_perform_192 : decode cX7_perform 192 = .ok (.aload_n 1, 1) := by decide +kernel
theorem dX7_perform_193 : decode cX7_perform 193 = .ok (.getfield 195, 3) := by decide +kernel
theorem dX7_perform_196 : decode cX7_perform 196 = .ok (.aload_n 1, 1) := by decide +kernel
theorem dX7_perform_197 : decode cX7_perform 197 = .ok (.getfield 198, 3) := by decide +kernel
theorem dX7_perform_200 : decode cX7_perform 200 = .ok (.invokevirtual 79, 3) := by decide +kernel
theorem dX7_perform_203 : decode cX7_perform 203 = .ok (.ireturn, 1) := by decide +kernel
theorem dX7_perform_204 : decode cX7_perform 204 = .ok (.aload_n 0, 1) := by decide +kernel
theorem dX7_perform_205 : decode cX7_perform 205 = .ok (.aload_n 1, 1) := by decide +kernel
theorem dX7_perform_206 : decode cX7_perform 206 = .ok (.getfield 195, 3) := by decide +kernel
theorem dX7_perform_209 : decode cX7_perform 209 = .ok (.aload_n 1, 1) := by decide +kernel
theorem dX7_perform_210 : decode cX7_perform 210 = .ok (.getfield 198, 3) := by decide +kernel
theorem dX7_perform_213 : decode cX7_perform 213 = .ok (.invokevirtual 82, 3) := by decide +kernel
theorem dX7_perform_216 : decode cX7_perform 216 = .ok (.ireturn, 1) := by decide +kernel
theorem dX7_perform_217 : decode cX7_perform 217 = .ok (.aload_n 0, 1) := by decide +kernel
theorem dX7_perform_218 : decode cX7_perform 218 = .ok (.aload_n 1, 1) := by decide +kernel
theorem dX7_perform_219 : decode cX7_perform 219 = .ok (.getfield 195, 3) := by decide +kernel
theorem dX7_perform_222 : decode cX7_perform 222 = .ok (.aload_n 1, 1) := by decide +kernel
theorem dX7_perform_223 : decode cX7_perform 223 = .ok (.getfield 198, 3) := by decide +kernel
theorem dX7_perform_226 : decode cX7_perform 226 = .ok (.invokevirtual 85, 3) := by decide +kernel
theorem dX7_perform_229 : decode cX7_perform 229 = .ok (.ireturn, 1) := by decide +kernel
theorem dX7_perform_230 : decode cX7_perform 230 = .ok (.aload_n 0, 1) := by decide +kernel
theorem dX7_perform_231 : decode cX7_perform 231 = .ok (.aload_n 1, 1) := by decide +kernel
theorem dX7_perform_232 : decode cX7_perform 232 = .ok (.getfield 195, 3) := by decide +kernel
theorem dX7_perform_235 : decode cX7_perform 235 = .ok (.invokevirtual 88, 3) := by decide +kernel
theorem dX7_perform_238 : decode cX7_perform 238 = .ok (.ireturn, 1) := by decide +kernel
theorem dX7_perform_239 : decode cX7_perform 239 = .ok (.aload_n 0, 1) := by decide +kernel
theorem dX7_perform_240 : decode cX7_perform 240 = .ok (.aload_n 1, 1) := by decide +kernel
theorem dX7_perform_241 : decode cX7_perform 241 = .ok (.getfield 195, 3) := by decide +kernel
theorem dX7_perform_244 : decode cX7_perform 244 = .ok (.aload_n 1, 1) := by decide +kernel
theorem dX7_perform_245 : decode cX7_perform 245 = .ok (.getfield 198, 3) := by decide +kernel
theorem dX7_perform_248 : decode cX7_perform 248 = .ok (.invokevirtual 120, 3) := by decide +kernel
theorem dX7_perform_251 : decode cX7_perform 251 = .ok (.ireturn, 1) := by decide +kernel
theorem dX7_makeThing_0 : decode cX7_makeThing 0 = .ok (.aload_n 0, 1) := by decide +kernel
theorem dX7_makeThing_1 : decode cX7_makeThing 1 = .ok (.iconst 0, 1) := by decide +kernel
theorem dX7_makeThing_2 : decode cX7_makeThing 2 = .ok (.putfield 30, 3) := by decide +kernel
theorem dX7_makeThing_5 : decode cX7_makeThing 5 = .ok (.iload_n 1, 1) := by decide +kernel
theorem dX7_makeThing_6 : decode cX7_makeThing 6 = .ok (.invokestatic 123, 3) := by decide +kernel
theorem dX7_makeThing_9 : decode cX7_makeThing 9 = .ok (.ifCond .eq 20, 3) := by decide +kernel
theorem dX7_makeThing_12 : decode cX7_makeThing 12 = .ok (.iload_n 2, 1) := by decide +kernel
theorem dX7_makeThing_13 : decode cX7_makeThing 13 = .ok (.invokestatic 211, 3) := by decide +kernel
theorem dX7_makeThing_16 : decode cX7_makeThing 16 = .ok (.ifCond .eq 13, 3) := by decide +kernel
theorem dX7_makeThing_19 : decode cX7_makeThing 19 = .ok (.iload_n 3, 1) := by decide +kernel
theorem dX7_makeThing_20 : decode cX7_makeThing 20 = .ok (.ifCond .lt 9, 3) := by decide +kernel
theorem dX7_makeThing_23 : decode cX7_makeThing 23 = .ok (.iload_n 3, 1) := by decide +kernel
theorem dX7_makeThing_24 : decode cX7_makeThing 24 = .ok (.bipush 12, 2) := by decide +kernel
theorem dX7_makeThing_26 : decode cX7_makeThing 26 = .ok (.if_icmp .le 9, 3) := by decide +kernel
theorem dX7_makeThing_29 : decode cX7_makeThing 29 = .ok (.aload_n 0, 1) := by decide +kernel
theorem dX7_makeThing_30 : decode cX7_makeThing 30 = .ok (.iconst 1, 1) := by decide +kernel
theorem dX7_makeThing_31 : decode cX7_makeThing 31 = .ok (.invokevirtual 91, 3) := by decide +kernel
theorem dX7_makeThing_34 : decode cX7_makeThing 34 = .ok (.ireturn, 1) := by decide +kernel
theorem dX7_makeThing_35 : decode cX7_makeThing 35 = .ok (.aload_n 0, 1) := by decide +kernel
theorem dX7_makeThing_36 : decode cX7_makeThing 36 = .ok (.getfield 12, 3) := by decide +kernel
theorem dX7_makeThing_39 : decode cX7_makeThing 39 = .ok (.invokevirtual 214, 3) := by decide +kernel
theorem dX7_makeThing_42 : decode cX7_makeThing 42 = .ok (.bipush 60, 2) := by decide +kernel
theorem dX7_makeThing_44 : decode cX7_makeThing 44 = .ok (.if_icmp .lt 10, 3) := by decide +kernel
theorem dX7_makeThing_47 : decode cX7_makeThing 47 = .ok (.aload_n 0, 1) := by decide +kernel
theorem dX7_makeThing_48 : decode cX7_makeThing 48 = .ok (.bipush 6, 2) := by decide +kernel
theorem dX7_makeThing_50 : decode cX7_makeThing 50 = .ok (.invokevirtual 91, 3) := by decide +kernel
theorem dX7_makeThing_53 : decode cX7_makeThing 53 = .ok (.ireturn, 1) := by decide +kernel
theorem dX7_makeThing_54 : decode cX7_makeThing 54 = .ok (.aload_n 0, 1) := by decide +kernel
theorem dX7_makeThing_55 : decode cX7_makeThing 55 = .ok (.getfield 12, 3) := by decide +kernel
theorem dX7_makeThing_58 : decode cX7_makeThing 58 = .ok (.iload_n 2, 1) := by decide +kernel
theorem dX7_makeThing_59 : decode cX7_makeThing 59 = .ok (.iload_n 3, 1) := by decide +kernel
theorem dX7_makeThing_60 : decode cX7_makeThing 60 = .ok (.invokevirtual 218, 3) := by decide +kernel
theorem dX7_makeThing_63 : decode cX7_makeThing 63 = .ok (.istore 4, 2) := by decide +kernel
theorem dX7_makeThing_65 : decode cX7_makeThing 65 = .ok (.aload_n 0, 1) := by decide +kernel
theorem dX7_makeThing_66 : decode cX7_makeThing 66 = .ok (.getfield 12, 3) := by decide +kernel
theorem dX7_makeThing_69 : decode cX7_makeThing 69 = .ok (.iload_n 1, 1) := by decide +kernel
theorem dX7_makeThing_70 : decode cX7_makeThing 70 = .ok (.iload 4, 2) := by decide +kernel
theorem dX7_makeThing_72 : decode cX7_makeThing 72 = .ok (.invokevirtual 220, 3) := by decide +kernel
theorem dX7_makeThing_75 : decode cX7_makeThing 75 = .ok (.iload 4, 2) := by decide +kernel
theorem dX7_makeThing_77 : decode cX7_makeThing 77 = .ok (.ireturn, 1) := by decide +kernel
theorem dX7_layOver_0 : decode cX7_layOver 0 = .ok (.aload_n 0, 1) := by decide +kernel
theorem dX7_layOver_1 : decode cX7_layOver 1 = .ok (.iconst 0, 1) := by decide +kernel
theorem dX7_layOver_2 : decode cX7_layOver 2 = .ok (.putfield 30, 3) := by decide +kernel
theorem dX7_layOver_5 : decode cX7_layOver 5 = .ok (.iload_n 1, 1) := by decide +kernel
theorem dX7_layOver_6 : decode cX7_layOver 6 = .ok (.invokestatic 123, 3) := by decide +kernel
theorem dX7_layOver_9 : decode cX7_layOver 9 = .ok (.ifCond .eq 10, 3) := by decide +kernel
theorem dX7_layOver_12 : decode cX7_layOver 12 = .ok (.iload_n 2, 1) := by decide +kernel
theorem dX7_layOver_13 : decode cX7_layOver 13 = .ok (.invokestatic 123, 3) := by decide +kernel
theorem dX7_layOver_16 : decode cX7_layOver 16 = .ok (.ifCond .ne 9, 3) := by decide +kernel
theorem dX7_layOver_19 : decode cX7_layOver 19 = .ok (.aload_n 0, 1) := by decide +kernel
theorem dX7_layOver_20 : decode cX7_layOver 20 = .ok (.iconst 1, 1) := by decide +kernel
theorem dX7_layOver_21 : decode cX7_layOver 21 = .ok (.invokevirtual 91, 3) := by decide +kernel
theorem dX7_layOver_24 : decode cX7_layOver 24 = .ok (.ireturn, 1) := by decide +kernel
theorem dX7_layOver_25 : decode cX7_layOver 25 = .ok (.aload_n 0, 1) := by decide +kernel
theorem dX7_layOver_26 : decode cX7_layOver 26 = .ok (.iload_n 2, 1) := by decide +kernel
theorem dX7_layOver_27 : decode cX7_layOver 27 = .ok (.aload_n 0, 1) := by decide +kernel
theorem dX7_layOver_28 : decode cX7_layOver 28 = .ok (.getfield 12, 3) := by decide +kernel
theorem dX7_layOver_31 : decode cX7_layOver 31 = .ok (.iload_n 1, 1) := by decide +kernel
theorem dX7_layOver_32 : decode cX7_layOver 32 = .ok (.invokevirtual 136, 3) := by decide +kernel
theorem dX7_layOver_35 : decode cX7_layOver 35 = .ok (.invokevirtual 224, 3) := by decide +kernel
theorem dX7_layOver_38 : decode cX7_layOver 38 = .ok (.ireturn, 1) := by decide +kernel
theorem dX7_putOnShelf_0 : decode cX7_putOnShelf 0 = .ok (.aload_n 0, 1) := by decide +kernel
theorem dX7_putOnShelf_1 : decode cX7_putOnShelf 1 = .ok (.getfield 12, 3) := by decide +kernel
theorem dX7_putOnShelf_4 : decode cX7_putOnShelf 4 = .ok (.iload_n 1, 1) := by decide +kernel
theorem dX7_putOnShelf_5 : decode cX7_putOnShelf 5 = .ok (.iload_n 2, 1) := by decide +kernel
theorem dX7_putOnShelf_6 : decode cX7_putOnShelf 6 = .ok (.invokevirtual 220, 3) := by decide +kernel
theorem dX7_putOnShelf_9 : decode cX7_putOnShelf 9 = .ok (.iload_n 2, 1) := by decide +kernel
theorem dX7_putOnShelf_10 : decode cX7_putOnShelf 10 = .ok (.iconst (-1), 1) := by decide +kernel
theorem dX7_putOnShelf_11 : decode cX7_putOnShelf 11 = .ok (.if_icmp .ne 7, 3) := by decide +kernel
theorem dX7_putOnShelf_14 : decode cX7_putOnShelf 14 = .ok (.iconst 0, 1) := by decide +kernel
theorem dX7_putOnShelf_15 : decode cX7_putOnShelf 15 = .ok (.goto 4, 3) := by decide +kernel
theorem dX7_putOnShelf_18 : decode cX7_putOnShelf 18 = .ok (.iconst 1, 1) := by decide +kernel
theorem dX7_putOnShelf_19 : decode cX7_putOnShelf 19 = .ok (.ireturn, 1) := by decide +kernel
theorem dX7_plugIn_0 : decode cX7_plugIn 0 = .ok (.iload_n 3, 1) := by decide +kernel
theorem dX7_plugIn_1 : decode cX7_plugIn 1 = .ok (.invokestatic 123, 3) := by decide +kernel
theorem dX7_plugIn_4 : decode cX7_plugIn 4 = .ok (.ifCond .ne 9, 3) := by decide +kernel
theorem dX7_plugIn_7 : decode cX7_plugIn 7 = .ok (.aload_n 0, 1) := by decide +kernel
theorem dX7_plugIn_8 : decode cX7_plugIn 8 = .ok (.iconst 1, 1) := by decide +kernel
theorem dX7_plugIn_9 : decode cX7_plugIn 9 = .ok (.invokevirtual 91, 3) := by decide +kernel
theorem dX7_plugIn_12 : decode cX7_plugIn 12 = .ok (.ireturn, 1) := by decide +kernel
theorem dX7_plugIn_13 : decode cX7_plugIn 13 = .ok (.aload_n 0, 1) := by decide +kernel
theorem dX7_plugIn_14 : decode cX7_plugIn 14 = .ok (.iload_n 1, 1) := by decide +kernel
theorem dX7_plugIn_15 : decode cX7_plugIn 15 = .ok (.ldc 166, 2) := by decide +kernel
theorem dX7_plugIn_17 : decode cX7_plugIn 17 = .ok (.iload_n 2, 1) := by decide +kernel
theorem dX7_plugIn_18 : decode cX7_plugIn 18 = .ok (.invokevirtual 154, 3) := by decide +kernel
theorem dX7_plugIn_21 : decode cX7_plugIn 21 = .ok (.ifCond .eq 5, 3) := by decide +kernel
theorem dX7_plugIn_24 : decode cX7_plugIn 24 = .ok (.iconst 0, 1) := by decide +kernel
theorem dX7_plugIn_25 : decode cX7_plugIn 25 = .ok (.ireturn, 1) := by decide +kernel
theorem dX7_plugIn_26 : decode cX7_plugIn 26 = .ok (.aload_n 0, 1) := by decide +kernel
theorem dX7_plugIn_27 : decode cX7_plugIn 27 = .ok (.getfield 12, 3) := by decide +kernel
theorem dX7_plugIn_30 : decode cX7_plugIn 30 = .ok (.iload_n 1, 1) := by decide +kernel
theorem dX7_plugIn_31 : decode cX7_plugIn 31 = .ok (.invokevirtual 136, 3) := by decide +kernel
theorem dX7_plugIn_34 : decode cX7_plugIn 34 = .ok (.istore 4, 2) := by decide +kernel
theorem dX7_plugIn_36 : decode cX7_plugIn 36 = .ok (.aload_n 0, 1) := by decide +kernel
theorem dX7_plugIn_37 : decode cX7_plugIn 37 = .ok (.getfield 12, 3) := by decide +kernel
theorem dX7_plugIn_40 : decode cX7_plugIn 40 = .ok (.iload_n 3, 1) := by decide +kernel
theorem dX7_plugIn_41 : decode cX7_plugIn 41 = .ok (.invokevirtual 136, 3) := by decide +kernel
theorem dX7_plugIn_44 : decode cX7_plugIn 44 = .ok (.istore 5, 2) := by decide +kernel
theorem dX7_plugIn_46 : decode cX7_plugIn 46 = .ok (.aload_n 0, 1) := by decide +kernel
theorem dX7_plugIn_47 : decode cX7_plugIn 47 = .ok (.getfield 12, 3) := by decide +kernel
theorem dX7_plugIn_50 : decode cX7_plugIn 50 = .ok (.iload 5, 2) := by decide +kernel
theorem dX7_plugIn_52 : decode cX7_plugIn 52 = .ok (.iload 4, 2) := by decide +kernel
theorem dX7_plugIn_54 : decode cX7_plugIn 54 = .ok (.invokevirtual 227, 3) := by decide +kernel
theorem dX7_plugIn_57 : decode cX7_plugIn 57 = .ok (.ifCond .ne 9, 3) := by decide +kernel
theorem dX7_plugIn_60 : decode cX7_plugIn 60 = .ok (.aload_n 0, 1) := by decide +kernel
theorem dX7_plugIn_61 : decode cX7_plugIn 61 = .ok (.iconst 5, 1) := by decide +kernel
theorem dX7_plugIn_62 : decode cX7_plugIn 62 = .ok (.invokevirtual 91, 3) := by decide +kernel
theorem dX7_plugIn_65 : decode cX7_plugIn 65 = .ok (.ireturn, 1) := by decide +kernel
theorem dX7_plugIn_66 : decode cX7_plugIn 66 = .ok (.aload_n 0, 1) := by decide +kernel
theorem dX7_plugIn_67 : decode cX7_plugIn 67 = .ok (.getfield 12, 3) := by decide +kernel
theorem dX7_plugIn_70 : decode cX7_plugIn 70 = .ok (.iload 4, 2) := by decide +kernel
theorem dX7_plugIn_72 : decode cX7_plugIn 72 = .ok (.iload_n 2, 1) := by decide +kernel
theorem dX7_plugIn_73 : decode cX7_plugIn 73 = .ok (.invokevirtual 158, 3) := by decide +kernel
theorem dX7_plugIn_76 : decode cX7_plugIn 76 = .ok (.lstore 6, 2) := by decide +kernel
theorem dX7_plugIn_78 : decode cX7_plugIn 78 = .ok (.aload_n 0, 1) := by decide +kernel
theorem dX7_plugIn_79 : decode cX7_plugIn 79 = .ok (.getfield 12, 3) := by decide +kernel
theorem dX7_plugIn_82 : decode cX7_plugIn 82 = .ok (.iload 4, 2) := by decide +kernel
theorem dX7_plugIn_84 : decode cX7_plugIn 84 = .ok (.iload_n 2, 1) := by decide +kernel
theorem dX7_plugIn_85 : decode cX7_plugIn 85 = .ok (.iload 5, 2) := by decide +kernel
theorem dX7_plugIn_87 : decode cX7_plugIn 87 = .ok (.i2l, 1) := by decide +kernel
theorem dX7_plugIn_88 : decode cX7_plugIn 88 = .ok (.invokevirtual 230, 3) := by decide +kernel
theorem dX7_plugIn_91 : decode cX7_plugIn 91 = .ok (.lload 6, 2) := by decide +kernel
theorem dX7_plugIn_93 : decode cX7_plugIn 93 = .ok (.ldc2_w 234, 3) := by decide +kernel
theorem dX7_plugIn_96 : decode cX7_plugIn 96 = .ok (.lcmp, 1) := by decide +kernel
theorem dX7_plugIn_97 : decode cX7_plugIn 97 = .ok (.ifCond .ne 7, 3) := by decide +kernel
theorem dX7_plugIn_100 : decode cX7_plugIn 100 = .ok (.iconst 0, 1) := by decide +kernel
theorem dX7_plugIn_101 : decode cX7_plugIn 101 = .ok (.goto 4, 3) := by decide +kernel
theorem dX7_plugIn_104 : decode cX7_plugIn 104 = .ok (.iconst 1, 1) := by decide +kernel
theorem dX7_plugIn_105 : decode cX7_plugIn 105 = .ok (.ireturn, 1) := by decide +kernel
theorem dX7_pullOut_0 : decode cX7_pullOut 0 = .ok (.iload_n 3, 1) := by decide +kernel
theorem dX7_pullOut_1 : decode cX7_pullOut 1 = .ok (.invokestatic 123, 3) := by decide +kernel
theorem dX7_pullOut_4 : decode cX7_pullOut 4 = .ok (.ifCond .ne 9, 3) := by decide +kernel
theorem dX7_pullOut_7 : decode cX7_pullOut 7 = .ok (.aload_n 0, 1) := by decide +kernel
theorem dX7_pullOut_8 : decode cX7_pullOut 8 = .ok (.iconst 1, 1) := by decide +kernel
theorem dX7_pullOut_9 : decode cX7_pullOut 9 = .ok (.invokevirtual 91, 3) := by decide +kernel
theorem dX7_pullOut_12 : decode cX7_pullOut 12 = .ok (.ireturn, 1) := by decide +kernel
theorem dX7_pullOut_13 : decode cX7_pullOut 13 = .ok (.aload_n 0, 1) := by decide +kernel
theorem dX7_pullOut_14 : decode cX7_pullOut 14 = .ok (.iload_n 1, 1) := by decide +kernel
theorem dX7_pullOut_15 : decode cX7_pullOut 15 = .ok (.ldc 166, 2) := by decide +kernel
theorem dX7_pullOut_17 : decode cX7_pullOut 17 = .ok (.iload_n 2, 1) := by decide +kernel
theorem dX7_pullOut_18 : decode cX7_pullOut 18 = .ok (.invokevirtual 154, 3) := by decide +kernel
theorem dX7_pullOut_21 : decode cX7_pullOut 21 = .ok (.ifCond .eq 5, 3) := by decide +kernel
theorem dX7_pullOut_24 : decode cX7_pullOut 24 = .ok (.iconst 0, 1) := by decide +kernel
theorem dX7_pullOut_25 : decode cX7_pullOut 25 = .ok (.ireturn, 1) := by decide +kernel
theorem dX7_pullOut_26 : decode cX7_pullOut 26 = .ok (.aload_n 0, 1) := by decide +kernel
theorem dX7_pullOut_27 : decode cX7_pullOut 27 = .ok (.iload_n 3, 1) := by decide +kernel
theorem dX7_pullOut_28 : decode cX7_pullOut 28 = .ok (.aload_n 0, 1) := by decide +kernel
theorem dX7_pullOut_29 : decode cX7_pullOut 29 = .ok (.getfield 12, 3) := by decide +kernel
theorem dX7_pullOut_32 : decode cX7_pullOut 32 = .ok (.aload_n 0, 1) := by decide +kernel
theorem dX7_pullOut_33 : decode cX7_pullOut 33 = .ok (.getfield 12, 3) := by decide +kernel
theorem dX7_pullOut_36 : decode cX7_pullOut 36 = .ok (.iload_n 1, 1) := by decide +kernel
theorem dX7_pullOut_37 : decode cX7_pullOut 37 = .ok (.invokevirtual 136, 3) := by decide +kernel
theorem dX7_pullOut_40 : decode cX7_pullOut 40 = .ok (.iload_n 2, 1) := by decide +kernel
theorem dX7_pullOut_41 : decode cX7_pullOut 41 = .ok (.invokevirtual 158, 3) := by decide +kernel
theorem dX7_pullOut_44 : decode cX7_pullOut 44 = .ok (.l2i, 1) := by decide +kernel
theorem dX7_pullOut_45 : decode cX7_pullOut 45 = .ok (.invokevirtual 224, 3) := by decide +kernel
theorem dX7_pullOut_48 : decode cX7_pullOut 48 = .ok (.ireturn, 1) := by decide +kernel
theorem dX7_copyPlaces_0 : decode cX7_copyPlaces 0 = .ok (.aload_n 0, 1) := by decide +kernel
theorem dX7_copyPlaces_1 : decode cX7_copyPlaces 1 = .ok (.iload_n 1, 1) := by decide +kernel
theorem dX7_copyPlaces_2 : decode cX7_copyPlaces 2 = .ok (.iload_n 3, 1) := by decide +kernel
theorem dX7_copyPlaces_3 : decode cX7_copyPlaces 3 = .ok (.invokevirtual 236, 3) := by decide +kernel
theorem dX7_copyPlaces_6 : decode cX7_copyPlaces 6 = .ok (.ifCond .eq 5, 3) := by decide +kernel
theorem dX7_copyPlaces_9 : decode cX7_copyPlaces 9 = .ok (.iconst 0, 1) := by decide +kernel
theorem dX7_copyPlaces_10 : decode cX7_copyPlaces 10 = .ok (.ireturn, 1) := by decide +kernel
theorem dX7_copyPlaces_11 : decode cX7_copyPlaces 11 = .ok (.aload_n 0, 1) := by decide +kernel
theorem dX7_copyPlaces_12 : decode cX7_copyPlaces 12 = .ok (.getfield 12, 3) := by decide +kernel
theorem dX7_copyPlaces_15 : decode cX7_copyPlaces 15 = .ok (.iload_n 1, 1) := by decide +kernel
theorem dX7_copyPlaces_16 : decode cX7_copyPlaces 16 = .ok (.invokevirtual 136, 3) := by decide +kernel
theorem dX7_copyPlaces_19 : decode cX7_copyPlaces 19 = .ok (.istore 6, 2) := by decide +kernel
theorem dX7_copyPlaces_21 : decode cX7_copyPlaces 21 = .ok (.aload_n 0, 1) := by decide +kernel
theorem dX7_copyPlaces_22 : decode cX7_copyPlaces 22 = .ok (.getfield 12, 3) := by decide +kernel
theorem dX7_copyPlaces_25 : decode cX7_copyPlaces 25 = .ok (.iload_n 3, 1) := by decide +kernel
theorem dX7_copyPlaces_26 : decode cX7_copyPlaces 26 = .ok (.invokevirtual 136, 3) := by decide +kernel
theorem dX7_copyPlaces_29 : decode cX7_copyPlaces 29 = .ok (.istore 7, 2) := by decide +kernel
theorem dX7_copyPlaces_31 : decode cX7_copyPlaces 31 = .ok (.aload_n 0, 1) := by decide +kernel
theorem dX7_copyPlaces_32 : decode cX7_copyPlaces 32 = .ok (.getfield 12, 3) := by decide +kernel
theorem dX7_copyPlaces_35 : decode cX7_copyPlaces 35 = .ok (.iload 6, 2) := by decide +kernel
theorem dX7_copyPlaces_37 : decode cX7_copyPlaces 37 = .ok (.iconst 0, 1) := by decide +kernel
theorem dX7_copyPlaces_38 : decode cX7_copyPlaces 38 = .ok (.invokevirtual 176, 3) := by decide +kernel
theorem dX7_copyPlaces_41 : decode cX7_copyPlaces 41 = .ok (.aload_n 0, 1) := by decide +kernel
theorem dX7_copyPlaces_42 : decode cX7_copyPlaces 42 = .ok (.getfield 12, 3) := by decide +kernel
theorem dX7_copyPlaces_45 : decode cX7_copyPlaces 45 = .ok (.iload 7, 2) := by decide +kernel
theorem dX7_copyPlaces_47 : decode cX7_copyPlaces 47 = .ok (.iconst 0, 1) := by decide +kernel
theorem dX7_copyPlaces_48 : decode cX7_copyPlaces 48 = .ok (.invokevirtual 176, 3) := by decide +kernel
theorem dX7_copyPlaces_51 : decode cX7_copyPlaces 51 = .ok (.invokestatic 239, 3) := by decide +kernel
theorem dX7_copyPlaces_54 : decode cX7_copyPlaces 54 = .ok (.ifCond .ne 9, 3) := by decide +kernel
theorem dX7_copyPlaces_57 : decode cX7_copyPlaces 57 = .ok (.aload_n 0, 1) := by decide +kernel
theorem dX7_copyPlaces_58 : decode cX7_copyPlaces 58 = .ok (.iconst 3, 1) := by decide +kernel
theorem dX7_copyPlaces_59 : decode cX7_copyPlaces 59 = .ok (.invokevirtual 91, 3) := by decide +kernel
theorem dX7_copyPlaces_62 : decode cX7_copyPlaces 62 = .ok (.ireturn, 1) := by decide +kernel
theorem dX7_copyPlaces_63 : decode cX7_copyPlaces 63 = .ok (.aload_n 0, 1) := by decide +kernel
theorem dX7_copyPlaces_64 : decode cX7_copyPlaces 64 = .ok (.getfield 12, 3) := by decide +kernel
theorem dX7_copyPlaces_67 : decode cX7_copyPlaces 67 = .ok (.iload 6, 2) := by decide +kernel
theorem dX7_copyPlaces_69 : decode cX7_copyPlaces 69 = .ok (.iload_n 2, 1) := by decide +kernel
theorem dX7_copyPlaces_70 : decode cX7_copyPlaces 70 = .ok (.iload 5, 2) := by decide +kernel
theorem dX7_copyPlaces_72 : decode cX7_copyPlaces 72 = .ok (.invokevirtual 242, 3) := by decide +kernel
theorem dX7_copyPlaces_75 : decode cX7_copyPlaces 75 = .ok (.ifCond .eq 19, 3) := by decide +kernel
theorem dX7_copyPlaces_78 : decode cX7_copyPlaces 78 = .ok (.aload_n 0, 1) := by decide +kernel
theorem dX7_copyPlaces_79 : decode cX7_copyPlaces 79 = .ok (.getfield 12, 3) := by decide +kernel
theorem dX7_copyPlaces_82 : decode cX7_copyPlaces 82 = .ok (.iload 7, 2) := by decide +kernel
theorem dX7_copyPlaces_84 : decode cX7_copyPlaces 84 = .ok (.iload 4, 2) := by decide +kernel
theorem dX7_copyPlaces_86 : decode cX7_copyPlaces 86 = .ok (.iload 5, 2) := by decide +kernel
theorem dX7_copyPlaces_88 : decode cX7_copyPlaces 88 = .ok (.invokevirtual 242, 3) := by decide +kernel
theorem dX7_copyPlaces_91 : decode cX7_copyPlaces 91 = .ok (.ifCond .ne 9, 3) := by decide +kernel
theorem dX7_copyPlaces_94 : decode cX7_copyPlaces 94 = .ok (.aload_n 0, 1) := by decide +kernel
theorem dX7_copyPlaces_95 : decode cX7_copyPlaces 95 = .ok (.iconst 4, 1) := by decide +kernel
theorem dX7_copyPlaces_96 : decode cX7_copyPlaces 96 = .ok (.invokevirtual 91, 3) := by decide +kernel
theorem dX7_copyPlaces_99 : decode cX7_copyPlaces 99 = .ok (.ireturn, 1) := by decide +kernel
theorem dX7_copyPlaces_100 : decode cX7_copyPlaces 100 = .ok (.aload_n 0, 1) := by decide +kernel
theorem dX7_copyPlaces_101 : decode cX7_copyPlaces 101 = .ok (.getfield 12, 3) := by decide +kernel
theorem dX7_copyPlaces_104 : decode cX7_copyPlaces 104 = .ok (.iload 6, 2) := by decide +kernel
theorem dX7_copyPlaces_106 : decode cX7_copyPlaces 106 = .ok (.iload_n 2, 1) := by decide +kernel
theorem dX7_copyPlaces_107 : decode cX7_copyPlaces 107 = .ok (.iload 7, 2) := by decide +kernel
theorem dX7_copyPlaces_109 : decode cX7_copyPlaces 109 = .ok (.iload 5, 2) := by decide +kernel
theorem dX7_copyPlaces_111 : decode cX7_copyPlaces 111 = .ok (.invokevirtual 245, 3) := by decide +kernel
theorem dX7_copyPlaces_114 : decode cX7_copyPlaces 114 = .ok (.istore 8, 2) := by decide +kernel
theorem dX7_copyPlaces_116 : decode cX7_copyPlaces 116 = .ok (.aload_n 0, 1) := by decide +kernel
theorem dX7_copyPlaces_117 : decode cX7_copyPlaces 117 = .ok (.getfield 12, 3) := by decide +kernel
theorem dX7_copyPlaces_120 : decode cX7_copyPlaces 120 = .ok (.iload 6, 2) := by decide +kernel
theorem dX7_copyPlaces_122 : decode cX7_copyPlaces 122 = .ok (.iload_n 2, 1) := by decide +kernel
theorem dX7_copyPlaces_123 : decode cX7_copyPlaces 123 = .ok (.iload 7, 2) := by decide +kernel
theorem dX7_copyPlaces_125 : decode cX7_copyPlaces 125 = .ok (.iload 4, 2) := by decide +kernel
theorem dX7_copyPlaces_127 : decode cX7_copyPlaces 127 = .ok (.iload 8, 2) := by decide +kernel
theorem dX7_copyPlaces_129 : decode cX7_copyPlaces 129 = .ok (.invokevirtual 249, 3) := by decide +kernel
theorem dX7_copyPlaces_132 : decode cX7_copyPlaces 132 = .ok (.iload 8, 2) := by decide +kernel
theorem dX7_copyPlaces_134 : decode cX7_copyPlaces 134 = .ok (.iload 5, 2) := by decide +kernel
theorem dX7_copyPlaces_136 : decode cX7_copyPlaces 136 = .ok (.if_icmp .ge 8, 3) := by decide +kernel
theorem dX7_copyPlaces_139 : decode cX7_copyPlaces 139 = .ok (.aload_n 0, 1) := by decide +kernel
theorem dX7_copyPlaces_140 : decode cX7_copyPlaces 140 = .ok (.iconst 5, 1) := by decide +kernel
theorem dX7_copyPlaces_141 : decode cX7_copyPlaces 141 = .ok (.putfield 30, 3) := by decide +kernel
theorem dX7_copyPlaces_144 : decode cX7_copyPlaces 144 = .ok (.iload 8, 2) := by decide +kernel
theorem dX7_copyPlaces_146 : decode cX7_copyPlaces 146 = .ok (.ireturn, 1) := by decide +kernel
theorem dX7_writeNumber_0 : decode cX7_writeNumber 0 = .ok (.aload_n 0, 1) := by decide +kernel
theorem dX7_writeNumber_1 : decode cX7_writeNumber 1 = .ok (.iload_n 1, 1) := by decide +kernel
theorem dX7_writeNumber_2 : decode cX7_writeNumber 2 = .ok (.ldc 153, 2) := by decide +kernel
theorem dX7_writeNumber_4 : decode cX7_writeNumber 4 = .ok (.iload_n 2, 1) := by decide +kernel
theorem dX7_writeNumber_5 : decode cX7_writeNumber 5 = .ok (.invokevirtual 154, 3) := by decide +kernel
theorem dX7_writeNumber_8 : decode cX7_writeNumber 8 = .ok (.ifCond .eq 5, 3) := by decide +kernel
theorem dX7_writeNumber_11 : decode cX7_writeNumber 11 = .ok (.iconst 0, 1) := by decide +kernel
theorem dX7_writeNumber_12 : decode cX7_writeNumber 12 = .ok (.ireturn, 1) := by decide +kernel
theorem dX7_writeNumber_13 : decode cX7_writeNumber 13 = .ok (.aload_n 0, 1) := by decide +kernel
theorem dX7_writeNumber_14 : decode cX7_writeNumber 14 = .ok (.getfield 12, 3) := by decide +kernel
theorem dX7_writeNumber_17 : decode cX7_writeNumber 17 = .ok (.iload_n 1, 1) := by decide +kernel
theorem dX7_writeNumber_18 : decode cX7_writeNumber 18 = .ok (.invokevirtual 136, 3) := by decide +kernel
theorem dX7_writeNumber_21 : decode cX7_writeNumber 21 = .ok (.istore 5, 2) := by decide +kernel
theorem dX7_writeNumber_23 : decode cX7_writeNumber 23 = .ok (.aload_n 0, 1) := by decide +kernel
theorem dX7_writeNumber_24 : decode cX7_writeNumber 24 = .ok (.getfield 12, 3) := by decide +kernel
theorem dX7_writeNumber_27 : decode cX7_writeNumber 27 = .ok (.iload 5, 2) := by decide +kernel
theorem dX7_writeNumber_29 : decode cX7_writeNumber 29 = .ok (.iload_n 2, 1) := by decide +kernel
theorem dX7_writeNumber_30 : decode cX7_writeNumber 30 = .ok (.aload_n 0, 1) := by decide +kernel
theorem dX7_writeNumber_31 : decode cX7_writeNumber 31 = .ok (.getfield 12, 3) := by decide +kernel
theorem dX7_writeNumber_34 : decode cX7_writeNumber 34 = .ok (.iload 5, 2) := by decide +kernel
theorem dX7_writeNumber_36 : decode cX7_writeNumber 36 = .ok (.iconst 0, 1) := by decide +kernel
theorem dX7_writeNumber_37 : decode cX7_writeNumber 37 = .ok (.invokevirtual 176, 3) := by decide +kernel
theorem dX7_writeNumber_40 : decode cX7_writeNumber 40 = .ok (.lload_n 3, 1) := by decide +kernel
theorem dX7_writeNumber_41 : decode cX7_writeNumber 41 = .ok (.invokestatic 253, 3) := by decide +kernel
theorem dX7_writeNumber_44 : decode cX7_writeNumber 44 = .ok (.invokevirtual 230, 3) := by decide +kernel
theorem dX7_writeNumber_47 : decode cX7_writeNumber 47 = .ok (.iconst 1, 1) := by decide +kernel
theorem dX7_writeNumber_48 : decode cX7_writeNumber 48 = .ok (.ireturn, 1) := by decide +kernel
theorem dX7_setKnob_0 : decode cX7_setKnob 0 = .ok (.iload_n 2, 1) := by decide +kernel
theorem dX7_setKnob_1 : decode cX7_setKnob 1 = .ok (.sipush (-1000), 3) := by decide +kernel
theorem dX7_setKnob_4 : decode cX7_setKnob 4 = .ok (.if_icmp .lt 10, 3) := by decide +kernel
theorem dX7_setKnob_7 : decode cX7_setKnob 7 = .ok (.iload_n 2, 1) := by decide +kernel
theorem dX7_setKnob_8 : decode cX7_setKnob 8 = .ok (.sipush 1000, 3) := by decide +kernel
theorem dX7_setKnob_11 : decode cX7_setKnob 11 = .ok (.if_icmp .le 9, 3) := by decide +kernel
theorem dX7_setKnob_14 : decode cX7_setKnob 14 = .ok (.aload_n 0, 1) := by decide +kernel
theorem dX7_setKnob_15 : decode cX7_setKnob 15 = .ok (.iconst 1, 1) := by decide +kernel
theorem dX7_setKnob_16 : decode cX7_setKnob 16 = .ok (.invokevirtual 91, 3) := by decide +kernel
theorem dX7_setKnob_19 : decode cX7_setKnob 19 = .ok (.ireturn, 1) := by decide +kernel
theorem dX7_setKnob_20 : decode cX7_setKnob 20 = .ok (.aload_n 0, 1) := by decide +kernel
theorem dX7_setKnob_21 : decode cX7_setKnob 21 = .ok (.iload_n 1, 1) := by decide +kernel
theorem dX7_setKnob_22 : decode cX7_setKnob 22 = .ok (.iconst 1, 1) := by decide +kernel
theorem dX7_setKnob_23 : decode cX7_setKnob 23 = .ok (.invokevirtual 132, 3) := by decide +kernel
theorem dX7_setKnob_26 : decode cX7_setKnob 26 = .ok (.ifCond .eq 5, 3) := by decide +kernel
theorem dX7_setKnob_29 : decode cX7_setKnob 29 = .ok (.iconst 0, 1) := by decide +kernel
theorem dX7_setKnob_30 : decode cX7_setKnob 30 = .ok (.ireturn, 1) := by decide +kernel
theorem dX7_setKnob_31 : decode cX7_setKnob 31 = .ok (.aload_n 0, 1) := by decide +kernel
theorem dX7_setKnob_32 : decode cX7_setKnob 32 = .ok (.getfield 12, 3) := by decide +kernel
theorem dX7_setKnob_35 : decode cX7_setKnob 35 = .ok (.iload_n 1, 1) := by decide +kernel
theorem dX7_setKnob_36 : decode cX7_setKnob 36 = .ok (.invokevirtual 136, 3) := by decide +kernel
theorem dX7_setKnob_39 : decode cX7_setKnob 39 = .ok (.istore_n 3, 1) := by decide +kernel
theorem dX7_setKnob_40 : decode cX7_setKnob 40 = .ok (.aload_n 0, 1) := by decide +kernel
theorem dX7_setKnob_41 : decode cX7_setKnob 41 = .ok (.getfield 12, 3) := by decide +kernel
theorem dX7_setKnob_44 : decode cX7_setKnob 44 = .ok (.iload_n 3, 1) := by decide +kernel
theorem dX7_setKnob_45 : decode cX7_setKnob 45 = .ok (.iconst 2, 1) := by decide +kernel
theorem dX7_setKnob_46 : decode cX7_setKnob 46 = .ok (.invokevirtual 176, 3) := by decide +kernel
theorem dX7_setKnob_49 : decode cX7_setKnob 49 = .ok (.istore 4, 2) := by decide +kernel
theorem dX7_setKnob_51 : decode cX7_setKnob 51 = .ok (.aload_n 0, 1) := by decide +kernel
theorem dX7_setKnob_52 : decode cX7_setKnob 52 = .ok (.getfield 12, 3) := by decide +kernel
theorem dX7_setKnob_55 : decode cX7_setKnob 55 = .ok (.iload_n 3, 1) := by decide +kernel
theorem dX7_setKnob_56 : decode cX7_setKnob 56 = .ok (.iconst 2, 1) := by decide +kernel
theorem dX7_setKnob_57 : decode cX7_setKnob 57 = .ok (.iload_n 2, 1) := by decide +kernel
theorem dX7_setKnob_58 : decode cX7_setKnob 58 = .ok (.invokevirtual 257, 3) := by decide +kernel
theorem dX7_setKnob_61 : decode cX7_setKnob 61 = .ok (.iload 4, 2) := by decide +kernel
theorem dX7_setKnob_63 : decode cX7_setKnob 63 = .ok (.ireturn, 1) := by decide +kernel
theorem dX7_playOnce_0 : decode cX7_playOnce 0 = .ok (.aload_n 0, 1) := by decide +kernel
theorem dX7_playOnce_1 : decode cX7_playOnce 1 = .ok (.iload_n 1, 1) := by decide +kernel
theorem dX7_playOnce_2 : decode cX7_playOnce 2 = .ok (.ldc_w 261, 3) := by decide +kernel
theorem dX7_playOnce_5 : decode cX7_playOnce 5 = .ok (.invokevirtual 132, 3) := by decide +kernel
theorem dX7_playOnce_8 : decode cX7_playOnce 8 = .ok (.ifCond .eq 5, 3) := by decide +kernel
theorem dX7_playOnce_11 : decode cX7_playOnce 11 = .ok (.iconst 0, 1) := by decide +kernel
theorem dX7_playOnce_12 : decode cX7_playOnce 12 = .ok (.ireturn, 1) := by decide +kernel
theorem dX7_playOnce_13 : decode cX7_playOnce 13 = .ok (.aload_n 0, 1) := by decide +kernel
theorem dX7_playOnce_14 : decode cX7_playOnce 14 = .ok (.getfield 19, 3) := by decide +kernel
theorem dX7_playOnce_17 : decode cX7_playOnce 17 = .ok (.aload_n 0, 1) := by decide +kernel
theorem dX7_playOnce_18 : decode cX7_playOnce 18 = .ok (.getfield 12, 3) := by decide +kernel
theorem dX7_playOnce_21 : decode cX7_playOnce 21 = .ok (.aload_n 0, 1) := by decide +kernel
theorem dX7_playOnce_22 : decode cX7_playOnce 22 = .ok (.getfield 12, 3) := by decide +kernel
theorem dX7_playOnce_25 : decode cX7_playOnce 25 = .ok (.iload_n 1, 1) := by decide +kernel
theorem dX7_playOnce_26 : decode cX7_playOnce 26 = .ok (.invokevirtual 136, 3) := by decide +kernel
theorem dX7_playOnce_29 : decode cX7_playOnce 29 = .ok (.invokevirtual 262, 3) := by decide +kernel
theorem dX7_playOnce_32 : decode cX7_playOnce 32 = .ok (.aload_n 0, 1) := by decide +kernel
theorem dX7_playOnce_33 : decode cX7_playOnce 33 = .ok (.iload_n 2, 1) := by decide +kernel
theorem dX7_playOnce_34 : decode cX7_playOnce 34 = .ok (.invokevirtual 266, 3) := by decide +kernel
theorem dX7_playOnce_37 : decode cX7_playOnce 37 = .ok (.ireturn, 1) := by decide +kernel
theorem dX7_playChain_0 : decode cX7_playChain 0 = .ok (.iload_n 1, 1) := by decide +kernel
theorem dX7_playChain_1 : decode cX7_playChain 1 = .ok (.istore_n 2, 1) := by decide +kernel
theorem dX7_playChain_2 : decode cX7_playChain 2 = .ok (.iconst 0, 1) := by decide +kernel
theorem dX7_playChain_3 : decode cX7_playChain 3 = .ok (.istore_n 3, 1) := by decide +kernel
theorem dX7_playChain_4 : decode cX7_playChain 4 = .ok (.iload_n 3, 1) := by decide +kernel
theorem dX7_playChain_5 : decode cX7_playChain 5 = .ok (.aload_n 0, 1) := by decide +kernel
theorem dX7_playChain_6 : decode cX7_playChain 6 = .ok (.getfield 19, 3) := by decide +kernel
theorem dX7_playChain_9 : decode cX7_playChain 9 = .ok (.getfield 269, 3) := by decide +kernel
theorem dX7_playChain_12 : decode cX7_playChain 12 = .ok (.if_icmp .ge 26, 3) := by decide +kernel
theorem dX7_playChain_15 : decode cX7_playChain 15 = .ok (.aload_n 0, 1) := by decide +kernel
theorem dX7_playChain_16 : decode cX7_playChain 16 = .ok (.getfield 12, 3) := by decide +kernel
theorem dX7_playChain_19 : decode cX7_playChain 19 = .ok (.aload_n 0, 1) := by decide +kernel
theorem dX7_playChain_20 : decode cX7_playChain 20 = .ok (.getfield 19, 3) := by decide +kernel
theorem dX7_playChain_23 : decode cX7_playChain 23 = .ok (.iload_n 3, 1) := by decide +kernel
theorem dX7_playChain_24 : decode cX7_playChain 24 = .ok (.invokevirtual 270, 3) := by decide +kernel
theorem dX7_playChain_27 : decode cX7_playChain 27 = .ok (.iload_n 2, 1) := by decide +kernel
theorem dX7_playChain_28 : decode cX7_playChain 28 = .ok (.invokestatic 273, 3) := by decide +kernel
theorem dX7_playChain_31 : decode cX7_playChain 31 = .ok (.istore_n 2, 1) := by decide +kernel
theorem dX7_playChain_32 : decode cX7_playChain 32 = .ok (.iinc 3 1, 3) := by decide +kernel
theorem dX7_playChain_35 : decode cX7_playChain 35 = .ok (.goto (-31), 3) := by decide +kernel
theorem dX7_playChain_38 : decode cX7_playChain 38 = .ok (.iload_n 2, 1) := by decide +kernel
theorem dX7_playChain_39 : decode cX7_playChain 39 = .ok (.ireturn, 1) := by decide +kernel
theorem dX7_runOver_0 : decode cX7_runOver 0 = .ok (.aload_n 0, 1) := by decide +kernel
theorem dX7_runOver_1 : decode cX7_runOver 1 = .ok (.iload_n 1, 1) := by decide +kernel
theorem dX7_runOver_2 : decode cX7_runOver 2 = .ok (.iload_n 2, 1) := by decide +kernel
theorem dX7_runOver_3 : decode cX7_runOver 3 = .ok (.invokevirtual 236, 3) := by decide +kernel
theorem dX7_runOver_6 : decode cX7_runOver 6 = .ok (.ifCond .eq 5, 3) := by decide +kernel
theorem dX7_runOver_9 : decode cX7_runOver 9 = .ok (.iconst 0, 1) := by decide +kernel
theorem dX7_runOver_10 : decode cX7_runOver 10 = .ok (.ireturn, 1) := by decide +kernel
theorem dX7_runOver_11 : decode cX7_runOver 11 = .ok (.aload_n 0, 1) := by decide +kernel
theorem dX7_runOver_12 : decode cX7_runOver 12 = .ok (.getfield 12, 3) := by decide +kernel
theorem dX7_runOver_15 : decode cX7_runOver 15 = .ok (.iload_n 1, 1) := by decide +kernel
theorem dX7_runOver_16 : decode cX7_runOver 16 = .ok (.invokevirtual 136, 3) := by decide +kernel
theorem dX7_runOver_19 : decode cX7_runOver 19 = .ok (.istore_n 3, 1) := by decide +kernel
theorem dX7_runOver_20 : decode cX7_runOver 20 = .ok (.aload_n 0, 1) := by decide +kernel
theorem dX7_runOver_21 : decode cX7_runOver 21 = .ok (.getfield 12, 3) := by decide +kernel
theorem dX7_runOver_24 : decode cX7_runOver 24 = .ok (.iload_n 2, 1) := by decide +kernel
theorem dX7_runOver_25 : decode cX7_runOver 25 = .ok (.invokevirtual 136, 3) := by decide +kernel
theorem dX7_runOver_28 : decode cX7_runOver 28 = .ok (.istore 4, 2) := by decide +kernel
theorem dX7_runOver_30 : decode cX7_runOver 30 = .ok (.aload_n 0, 1) := by decide +kernel
theorem dX7_runOver_31 : decode cX7_runOver 31 = .ok (.getfield 12, 3) := by decide +kernel
theorem dX7_runOver_34 : decode cX7_runOver 34 = .ok (.iload_n 3, 1) := by decide +kernel
theorem dX7_runOver_35 : decode cX7_runOver 35 = .ok (.ldc_w 261, 3) := by decide +kernel
theorem dX7_runOver_38 : decode cX7_runOver 38 = .ok (.invokevirtual 167, 3) := by decide +kernel
theorem dX7_runOver_41 : decode cX7_runOver 41 = .ok (.ifCond .eq 18, 3) := by decide +kernel
theorem dX7_runOver_44 : decode cX7_runOver 44 = .ok (.aload_n 0, 1) := by decide +kernel
theorem dX7_runOver_45 : decode cX7_runOver 45 = .ok (.getfield 12, 3) := by decide +kernel
theorem dX7_runOver_48 : decode cX7_runOver 48 = .ok (.iload 4, 2) := by decide +kernel
theorem dX7_runOver_50 : decode cX7_runOver 50 = .ok (.sipush 8192, 3) := by decide +kernel
theorem dX7_runOver_53 : decode cX7_runOver 53 = .ok (.invokevirtual 167, 3) := by decide +kernel
theorem dX7_runOver_56 : decode cX7_runOver 56 = .ok (.ifCond .ne 9, 3) := by decide +kernel
theorem dX7_runOver_59 : decode cX7_runOver 59 = .ok (.aload_n 0, 1) := by decide +kernel
theorem dX7_runOver_60 : decode cX7_runOver 60 = .ok (.iconst 3, 1) := by decide +kernel
theorem dX7_runOver_61 : decode cX7_runOver 61 = .ok (.invokevirtual 91, 3) := by decide +kernel
theorem dX7_runOver_64 : decode cX7_runOver 64 = .ok (.ireturn, 1) := by decide +kernel
theorem dX7_runOver_65 : decode cX7_runOver 65 = .ok (.aload_n 0, 1) := by decide +kernel
theorem dX7_runOver_66 : decode cX7_runOver 66 = .ok (.getfield 19, 3) := by decide +kernel
theorem dX7_runOver_69 : decode cX7_runOver 69 = .ok (.aload_n 0, 1) := by decide +kernel
theorem dX7_runOver_70 : decode cX7_runOver 70 = .ok (.getfield 12, 3) := by decide +kernel
theorem dX7_runOver_73 : decode cX7_runOver 73 = .ok (.iload_n 3, 1) := by decide +kernel
theorem dX7_runOver_74 : decode cX7_runOver 74 = .ok (.invokevirtual 262, 3) := by decide +kernel
theorem dX7_runOver_77 : decode cX7_runOver 77 = .ok (.aload_n 0, 1) := by decide +kernel
theorem dX7_runOver_78 : decode cX7_runOver 78 = .ok (.getfield 12, 3) := by decide +kernel
theorem dX7_runOver_81 : decode cX7_runOver 81 = .ok (.iload 4, 2) := by decide +kernel
theorem dX7_runOver_83 : decode cX7_runOver 83 = .ok (.invokevirtual 150, 3) := by decide +kernel
theorem dX7_runOver_86 : decode cX7_runOver 86 = .ok (.istore 5, 2) := by decide +kernel
theorem dX7_runOver_88 : decode cX7_runOver 88 = .ok (.iconst 0, 1) := by decide +kernel
theorem dX7_runOver_89 : decode cX7_runOver 89 = .ok (.istore 6, 2) := by decide +kernel
theorem dX7_runOver_91 : decode cX7_runOver 91 = .ok (.iload 6, 2) := by decide +kernel
theorem dX7_runOver_93 : decode cX7_runOver 93 = .ok (.iload 5, 2) := by decide +kernel
theorem dX7_runOver_95 : decode cX7_runOver 95 = .ok (.if_icmp .ge 37, 3) := by decide +kernel
theorem dX7_runOver_98 : decode cX7_runOver 98 = .ok (.aload_n 0, 1) := by decide +kernel
theorem dX7_runOver_99 : decode cX7_runOver 99 = .ok (.getfield 12, 3) := by decide +kernel
theorem dX7_runOver_102 : decode cX7_runOver 102 = .ok (.iload 4, 2) := by decide +kernel
theorem dX7_runOver_104 : decode cX7_runOver 104 = .ok (.iload 6, 2) := by decide +kernel
theorem dX7_runOver_106 : decode cX7_runOver 106 = .ok (.aload_n 0, 1) := by decide +kernel
theorem dX7_runOver_107 : decode cX7_runOver 107 = .ok (.aload_n 0, 1) := by decide +kernel
theorem dX7_runOver_108 : decode cX7_runOver 108 = .ok (.getfield 12, 3) := by decide +kernel
theorem dX7_runOver_111 : decode cX7_runOver 111 = .ok (.iload 4, 2) := by decide +kernel
theorem dX7_runOver_113 : decode cX7_runOver 113 = .ok (.iload 6, 2) := by decide +kernel
theorem dX7_runOver_115 : decode cX7_runOver 115 = .ok (.invokevirtual 158, 3) := by decide +kernel
theorem dX7_runOver_118 : decode cX7_runOver 118 = .ok (.l2i, 1) := by decide +kernel
theorem dX7_runOver_119 : decode cX7_runOver 119 = .ok (.invokevirtual 266, 3) := by decide +kernel
theorem dX7_runOver_122 : decode cX7_runOver 122 = .ok (.i2l, 1) := by decide +kernel
theorem dX7_runOver_123 : decode cX7_runOver 123 = .ok (.invokevirtual 230, 3) := by decide +kernel
theorem dX7_runOver_126 : decode cX7_runOver 126 = .ok (.iinc 6 1, 3) := by decide +kernel
theorem dX7_runOver_129 : decode cX7_runOver 129 = .ok (.goto (-38), 3) := by decide +kernel
theorem dX7_runOver_132 : decode cX7_runOver 132 = .ok (.iload 5, 2) := by decide +kernel
theorem dX7_runOver_134 : decode cX7_runOver 134 = .ok (.ireturn, 1) := by decide +kernel
theorem dX7_tickOn_0 : decode cX7_tickOn 0 = .ok (.iload_n 2, 1) := by decide +kernel
theorem dX7_tickOn_1 : decode cX7_tickOn 1 = .ok (.ifCond .lt 9, 3) := by decide +kernel
theorem dX7_tickOn_4 : decode cX7_tickOn 4 = .ok (.iload_n 2, 1) := by decide +kernel
theorem dX7_tickOn_5 : decode cX7_tickOn 5 = .ok (.bipush 8, 2) := by decide +kernel
theorem dX7_tickOn_7 : decode cX7_tickOn 7 = .ok (.if_icmp .le 9, 3) := by decide +kernel
theorem dX7_tickOn_10 : decode cX7_tickOn 10 = .ok (.aload_n 0, 1) := by decide +kernel
theorem dX7_tickOn_11 : decode cX7_tickOn 11 = .ok (.iconst 1, 1) := by decide +kernel
theorem dX7_tickOn_12 : decode cX7_tickOn 12 = .ok (.invokevirtual 91, 3) := by decide +kernel
theorem dX7_tickOn_15 : decode cX7_tickOn 15 = .ok (.ireturn, 1) := by decide +kernel
theorem dX7_tickOn_16 : decode cX7_tickOn 16 = .ok (.aload_n 0, 1) := by decide +kernel
theorem dX7_tickOn_17 : decode cX7_tickOn 17 = .ok (.iload_n 1, 1) := by decide +kernel
theorem dX7_tickOn_18 : decode cX7_tickOn 18 = .ok (.ldc_w 277, 3) := by decide +kernel
theorem dX7_tickOn_21 : decode cX7_tickOn 21 = .ok (.invokevirtual 132, 3) := by decide +kernel
theorem dX7_tickOn_24 : decode cX7_tickOn 24 = .ok (.ifCond .eq 5, 3) := by decide +kernel
theorem dX7_tickOn_27 : decode cX7_tickOn 27 = .ok (.iconst 0, 1) := by decide +kernel
theorem dX7_tickOn_28 : decode cX7_tickOn 28 = .ok (.ireturn, 1) := by decide +kernel
theorem dX7_tickOn_29 : decode cX7_tickOn 29 = .ok (.aload_n 0, 1) := by decide +kernel
theorem dX7_tickOn_30 : decode cX7_tickOn 30 = .ok (.getfield 12, 3) := by decide +kernel
theorem dX7_tickOn_33 : decode cX7_tickOn 33 = .ok (.iload_n 1, 1) := by decide +kernel
theorem dX7_tickOn_34 : decode cX7_tickOn 34 = .ok (.invokevirtual 136, 3) := by decide +kernel
theorem dX7_tickOn_37 : decode cX7_tickOn 37 = .ok (.istore_n 3, 1) := by decide +kernel
theorem dX7_tickOn_38 : decode cX7_tickOn 38 = .ok (.aload_n 0, 1) := by decide +kernel
theorem dX7_tickOn_39 : decode cX7_tickOn 39 = .ok (.getfield 12, 3) := by decide +kernel
theorem dX7_tickOn_42 : decode cX7_tickOn 42 = .ok (.iload_n 3, 1) := by decide +kernel
theorem dX7_tickOn_43 : decode cX7_tickOn 43 = .ok (.sipush 4096, 3) := by decide +kernel
theorem dX7_tickOn_46 : decode cX7_tickOn 46 = .ok (.invokevirtual 167, 3) := by decide +kernel
theorem dX7_tickOn_49 : decode cX7_tickOn 49 = .ok (.ifCond .eq 13, 3) := by decide +kernel
theorem dX7_tickOn_52 : decode cX7_tickOn 52 = .ok (.aload_n 0, 1) := by decide +kernel
theorem dX7_tickOn_53 : decode cX7_tickOn 53 = .ok (.getfield 12, 3) := by decide +kernel
theorem dX7_tickOn_56 : decode cX7_tickOn 56 = .ok (.iload_n 3, 1) := by decide +kernel
theorem dX7_tickOn_57 : decode cX7_tickOn 57 = .ok (.iload_n 2, 1) := by decide +kernel
theorem dX7_tickOn_58 : decode cX7_tickOn 58 = .ok (.invokestatic 278, 3) := by decide +kernel
theorem dX7_tickOn_61 : decode cX7_tickOn 61 = .ok (.ireturn, 1) := by decide +kernel
theorem dX7_tickOn_62 : decode cX7_tickOn 62 = .ok (.iconst 0, 1) := by decide +kernel
theorem dX7_tickOn_63 : decode cX7_tickOn 63 = .ok (.istore 4, 2) := by decide +kernel
theorem dX7_tickOn_65 : decode cX7_tickOn 65 = .ok (.iconst 0, 1) := by decide +kernel
theorem dX7_tickOn_66 : decode cX7_tickOn 66 = .ok (.istore 5, 2) := by decide +kernel
theorem dX7_tickOn_68 : decode cX7_tickOn 68 = .ok (.iload 5, 2) := by decide +kernel
theorem dX7_tickOn_70 : decode cX7_tickOn 70 = .ok (.aload_n 0, 1) := by decide +kernel
theorem dX7_tickOn_71 : decode cX7_tickOn 71 = .ok (.getfield 12, 3) := by decide +kernel
theorem dX7_tickOn_74 : decode cX7_tickOn 74 = .ok (.iload_n 3, 1) := by decide +kernel
theorem dX7_tickOn_75 : decode cX7_tickOn 75 = .ok (.invokevirtual 150, 3) := by decide +kernel
theorem dX7_tickOn_78 : decode cX7_tickOn 78 = .ok (.if_icmp .ge 33, 3) := by decide +kernel
theorem dX7_tickOn_81 : decode cX7_tickOn 81 = .ok (.iload 4, 2) := by decide +kernel
theorem dX7_tickOn_83 : decode cX7_tickOn 83 = .ok (.aload_n 0, 1) := by decide +kernel
theorem dX7_tickOn_84 : decode cX7_tickOn 84 = .ok (.getfield 12, 3) := by decide +kernel
theorem dX7_tickOn_87 : decode cX7_tickOn 87 = .ok (.aload_n 0, 1) := by decide +kernel
theorem dX7_tickOn_88 : decode cX7_tickOn 88 = .ok (.getfield 12, 3) := by decide +kernel
theorem dX7_tickOn_91 : decode cX7_tickOn 91 = .ok (.iload_n 3, 1) := by decide +kernel
theorem dX7_tickOn_92 : decode cX7_tickOn 92 = .ok (.iload 5, 2) := by decide +kernel
theorem dX7_tickOn_94 : decode cX7_tickOn 94 = .ok (.invokevirtual 158, 3) := by decide +kernel
theorem dX7_tickOn_97 : decode cX7_tickOn 97 = .ok (.l2i, 1) := by decide +kernel
theorem dX7_tickOn_98 : decode cX7_tickOn 98 = .ok (.iload_n 2, 1) := by decide +kernel
theorem dX7_tickOn_99 : decode cX7_tickOn 99 = .ok (.invokestatic 278, 3) := by decide +kernel
theorem dX7_tickOn_102 : decode cX7_tickOn 102 = .ok (.iadd, 1) := by decide +kernel
theorem dX7_tickOn_103 : decode cX7_tickOn 103 = .ok (.istore 4, 2) := by decide +kernel
theorem dX7_tickOn_105 : decode cX7_tickOn 105 = .ok (.iinc 5 1, 3) := by decide +kernel
theorem dX7_tickOn_108 : decode cX7_tickOn 108 = .ok (.goto (-40), 3) := by decide +kernel
theorem dX7_tickOn_111 : decode cX7_tickOn 111 = .ok (.iload 4, 2) := by decide +kernel
theorem dX7_tickOn_113 : decode cX7_tickOn 113 = .ok (.ireturn, 1) := by decide +kernel
theorem dX7_restAll_0 : decode cX7_restAll 0 = .ok (.aload_n 0, 1) := by decide +kernel
theorem dX7_restAll_1 : decode cX7_restAll 1 = .ok (.iload_n 1, 1) := by decide +kernel
theorem dX7_restAll_2 : decode cX7_restAll 2 = .ok (.ldc_w 261, 3) := by decide +kernel
theorem dX7_restAll_5 : decode cX7_restAll 5 = .ok (.invokevirtual 132, 3) := by decide +kernel
theorem dX7_restAll_8 : decode cX7_restAll 8 = .ok (.ifCond .eq 5, 3) := by decide +kernel
theorem dX7_restAll_11 : decode cX7_restAll 11 = .ok (.iconst 0, 1) := by decide +kernel
theorem dX7_restAll_12 : decode cX7_restAll 12 = .ok (.ireturn, 1) := by decide +kernel
theorem dX7_restAll_13 : decode cX7_restAll 13 = .ok (.aload_n 0, 1) := by decide +kernel
theorem dX7_restAll_14 : decode cX7_restAll 14 = .ok (.getfield 19, 3) := by decide +kernel
theorem dX7_restAll_17 : decode cX7_restAll 17 = .ok (.aload_n 0, 1) := by decide +kernel
theorem dX7_restAll_18 : decode cX7_restAll 18 = .ok (.getfield 12, 3) := by decide +kernel
theorem dX7_restAll_21 : decode cX7_restAll 21 = .ok (.aload_n 0, 1) := by decide +kernel
theorem dX7_restAll_22 : decode cX7_restAll 22 = .ok (.getfield 12, 3) := by decide +kernel
theorem dX7_restAll_25 : decode cX7_restAll 25 = .ok (.iload_n 1, 1) := by decide +kernel
theorem dX7_restAll_26 : decode cX7_restAll 26 = .ok (.invokevirtual 136, 3) := by decide +kernel
theorem dX7_restAll_29 : decode cX7_restAll 29 = .ok (.invokevirtual 262, 3) := by decide +kernel
theorem dX7_restAll_32 : decode cX7_restAll 32 = .ok (.iconst 0, 1) := by decide +kernel
theorem dX7_restAll_33 : decode cX7_restAll 33 = .ok (.istore_n 2, 1) := by decide +kernel
theorem dX7_restAll_34 : decode cX7_restAll 34 = .ok (.iload_n 2, 1) := by decide +kernel
theorem dX7_restAll_35 : decode cX7_restAll 35 = .ok (.aload_n 0, 1) := by decide +kernel
theorem dX7_restAll_36 : decode cX7_restAll 36 = .ok (.getfield 19, 3) := by decide +kernel
theorem dX7_restAll_39 : decode cX7_restAll 39 = .ok (.getfield 269, 3) := by decide +kernel
theorem dX7_restAll_42 : decode cX7_restAll 42 = .ok (.if_icmp .ge 24, 3) := by decide +kernel
theorem dX7_restAll_45 : decode cX7_restAll 45 = .ok (.aload_n 0, 1) := by decide +kernel
theorem dX7_restAll_46 : decode cX7_restAll 46 = .ok (.getfield 12, 3) := by decide +kernel
theorem dX7_restAll_49 : decode cX7_restAll 49 = .ok (.aload_n 0, 1) := by decide +kernel
theorem dX7_restAll_50 : decode cX7_restAll 50 = .ok (.getfield 19, 3) := by decide +kernel
theorem dX7_restAll_53 : decode cX7_restAll 53 = .ok (.iload_n 2, 1) := by decide +kernel
theorem dX7_restAll_54 : decode cX7_restAll 54 = .ok (.invokevirtual 270, 3) := by decide +kernel
theorem dX7_restAll_57 : decode cX7_restAll 57 = .ok (.invokestatic 281, 3) := by decide +kernel
theorem dX7_restAll_60 : decode cX7_restAll 60 = .ok (.iinc 2 1, 3) := by decide +kernel
theorem dX7_restAll_63 : decode cX7_restAll 63 = .ok (.goto (-29), 3) := by decide +kernel
theorem dX7_restAll_66 : decode cX7_restAll 66 = .ok (.aload_n 0, 1) := by decide +kernel
theorem dX7_restAll_67 : decode cX7_restAll 67 = .ok (.getfield 19, 3) := by decide +kernel
theorem dX7_restAll_70 : decode cX7_restAll 70 = .ok (.getfield 269, 3) := by decide +kernel
theorem dX7_restAll_73 : decode cX7_restAll 73 = .ok (.ireturn, 1) := by decide +kernel
theorem dX7_askWhether_0 : decode cX7_askWhether 0 = .ok (.aload_n 0, 1) := by decide +kernel
theorem dX7_askWhether_1 : decode cX7_askWhether 1 = .ok (.iconst 0, 1) := by decide +kernel
theorem dX7_askWhether_2 : decode cX7_askWhether 2 = .ok (.putfield 30, 3) := by decide +kernel
theorem dX7_askWhether_5 : decode cX7_askWhether 5 = .ok (.iload_n 1, 1) := by decide +kernel
theorem dX7_askWhether_6 : decode cX7_askWhether 6 = .ok (.invokestatic 123, 3) := by decide +kernel
theorem dX7_askWhether_9 : decode cX7_askWhether 9 = .ok (.ifCond .eq 10, 3) := by decide +kernel
theorem dX7_askWhether_12 : decode cX7_askWhether 12 = .ok (.iload_n 2, 1) := by decide +kernel
theorem dX7_askWhether_13 : decode cX7_askWhether 13 = .ok (.invokestatic 127, 3) := by decide +kernel
theorem dX7_askWhether_16 : decode cX7_askWhether 16 = .ok (.ifCond .ne 9, 3) := by decide +kernel
theorem dX7_askWhether_19 : decode cX7_askWhether 19 = .ok (.aload_n 0, 1) := by decide +kernel
theorem dX7_askWhether_20 : decode cX7_askWhether 20 = .ok (.iconst 1, 1) := by decide +kernel
theorem dX7_askWhether_21 : decode cX7_askWhether 21 = .ok (.invokevirtual 91, 3) := by decide +kernel
theorem dX7_askWhether_24 : decode cX7_askWhether 24 = .ok (.ireturn, 1) := by decide +kernel
theorem dX7_askWhether_25 : decode cX7_askWhether 25 = .ok (.aload_n 0, 1) := by decide +kernel
theorem dX7_askWhether_26 : decode cX7_askWhether 26 = .ok (.getfield 12, 3) := by decide +kernel
theorem dX7_askWhether_29 : decode cX7_askWhether 29 = .ok (.aload_n 0, 1) := by decide +kernel
theorem dX7_askWhether_30 : decode cX7_askWhether 30 = .ok (.getfield 12, 3) := by decide +kernel
theorem dX7_askWhether_33 : decode cX7_askWhether 33 = .ok (.iload_n 1, 1) := by decide +kernel
theorem dX7_askWhether_34 : decode cX7_askWhether 34 = .ok (.invokevirtual 136, 3) := by decide +kernel
theorem dX7_askWhether_37 : decode cX7_askWhether 37 = .ok (.iconst 1, 1) := by decide +kernel
theorem dX7_askWhether_38 : decode cX7_askWhether 38 = .ok (.iload_n 2, 1) := by decide +kernel
theorem dX7_askWhether_39 : decode cX7_askWhether 39 = .ok (.ishl, 1) := by decide +kernel
theorem dX7_askWhether_40 : decode cX7_askWhether 40 = .ok (.invokevirtual 167, 3) := by decide +kernel
theorem dX7_askWhether_43 : decode cX7_askWhether 43 = .ok (.ifCond .eq 7, 3) := by decide +kernel
theorem dX7_askWhether_46 : decode cX7_askWhether 46 = .ok (.iconst 1, 1) := by decide +kernel
theorem dX7_askWhether_47 : decode cX7_askWhether 47 = .ok (.goto 4, 3) := by decide +kernel
theorem dX7_askWhether_50 : decode cX7_askWhether 50 = .ok (.iconst 0, 1) := by decide +kernel
theorem dX7_askWhether_51 : decode cX7_askWhether 51 = .ok (.ireturn, 1) := by decide +kernel
theorem dX7_takeFromRow_0 : decode cX7_takeFromRow 0 = .ok (.aload_n 0, 1) := by decide +kernel
theorem dX7_takeFromRow_1 : decode cX7_takeFromRow 1 = .ok (.getfield 12, 3) := by decide +kernel
theorem dX7_takeFromRow_4 : decode cX7_takeFromRow 4 = .ok (.iload_n 1, 1) := by decide +kernel
theorem dX7_takeFromRow_5 : decode cX7_takeFromRow 5 = .ok (.iload_n 3, 1) := by decide +kernel
theorem dX7_takeFromRow_6 : decode cX7_takeFromRow 6 = .ok (.invokevirtual 163, 3) := by decide +kernel
theorem dX7_takeFromRow_9 : decode cX7_takeFromRow 9 = .ok (.ifCond .ne 10, 3) := by decide +kernel
theorem dX7_takeFromRow_12 : decode cX7_takeFromRow 12 = .ok (.aload_n 0, 1) := by decide +kernel
theorem dX7_takeFromRow_13 : decode cX7_takeFromRow 13 = .ok (.iconst 4, 1) := by decide +kernel
theorem dX7_takeFromRow_14 : decode cX7_takeFromRow 14 = .ok (.invokevirtual 91, 3) := by decide +kernel
theorem dX7_takeFromRow_17 : decode cX7_takeFromRow 17 = .ok (.i2l, 1) := by decide +kernel
theorem dX7_takeFromRow_18 : decode cX7_takeFromRow 18 = .ok (.lreturn, 1) := by decide +kernel
theorem dX7_takeFromRow_19 : decode cX7_takeFromRow 19 = .ok (.aload_n 0, 1) := by decide +kernel
theorem dX7_takeFromRow_20 : decode cX7_takeFromRow 20 = .ok (.getfield 12, 3) := by decide +kernel
theorem dX7_takeFromRow_23 : decode cX7_takeFromRow 23 = .ok (.iload_n 1, 1) := by decide +kernel
theorem dX7_takeFromRow_24 : decode cX7_takeFromRow 24 = .ok (.iload_n 3, 1) := by decide +kernel
theorem dX7_takeFromRow_25 : decode cX7_takeFromRow 25 = .ok (.invokevirtual 158, 3) := by decide +kernel
theorem dX7_takeFromRow_28 : decode cX7_takeFromRow 28 = .ok (.lstore 4, 2) := by decide +kernel
theorem dX7_takeFromRow_30 : decode cX7_takeFromRow 30 = .ok (.iload_n 2, 1) := by decide +kernel
theorem dX7_takeFromRow_31 : decode cX7_takeFromRow 31 = .ok (.ldc 153, 2) := by decide +kernel
theorem dX7_takeFromRow_33 : decode cX7_takeFromRow 33 = .ok (.invokestatic 140, 3) := by decide +kernel
theorem dX7_takeFromRow_36 : decode cX7_takeFromRow 36 = .ok (.ifCond .eq 6, 3) := by decide +kernel
theorem dX7_takeFromRow_39 : decode cX7_takeFromRow 39 = .ok (.lload 4, 2) := by decide +kernel
theorem dX7_takeFromRow_41 : decode cX7_takeFromRow 41 = .ok (.lreturn, 1) := by decide +kernel
theorem dX7_takeFromRow_42 : decode cX7_takeFromRow 42 = .ok (.lload 4, 2) := by decide +kernel
theorem dX7_takeFromRow_44 : decode cX7_takeFromRow 44 = .ok (.ldc2_w 234, 3) := by decide +kernel
theorem dX7_takeFromRow_47 : decode cX7_takeFromRow 47 = .ok (.lcmp, 1) := by decide +kernel
theorem dX7_takeFromRow_48 : decode cX7_takeFromRow 48 = .ok (.ifCond .ne 10, 3) := by decide +kernel
theorem dX7_takeFromRow_51 : decode cX7_takeFromRow 51 = .ok (.aload_n 0, 1) := by decide +kernel
theorem dX7_takeFromRow_52 : decode cX7_takeFromRow 52 = .ok (.iconst 2, 1) := by decide +kernel
theorem dX7_takeFromRow_53 : decode cX7_takeFromRow 53 = .ok (.invokevirtual 91, 3) := by decide +kernel
theorem dX7_takeFromRow_56 : decode cX7_takeFromRow 56 = .ok (.i2l, 1) := by decide +kernel
theorem dX7_takeFromRow_57 : decode cX7_takeFromRow 57 = .ok (.lreturn, 1) := by decide +kernel
theorem dX7_takeFromRow_58 : decode cX7_takeFromRow 58 = .ok (.iload_n 2, 1) := by decide +kernel
theorem dX7_takeFromRow_59 : decode cX7_takeFromRow 59 = .ok (.ldc 162, 2) := by decide +kernel
theorem dX7_takeFromRow_61 : decode cX7_takeFromRow 61 = .ok (.invokestatic 140, 3) := by decide +kernel
theorem dX7_takeFromRow_64 : decode cX7_takeFromRow 64 = .ok (.ifCond .eq 17, 3) := by decide +kernel
theorem dX7_takeFromRow_67 : decode cX7_takeFromRow 67 = .ok (.aload_n 0, 1) := by decide +kernel
theorem dX7_takeFromRow_68 : decode cX7_takeFromRow 68 = .ok (.getfield 12, 3) := by decide +kernel
theorem dX7_takeFromRow_71 : decode cX7_takeFromRow 71 = .ok (.lload 4, 2) := by decide +kernel
theorem dX7_takeFromRow_73 : decode cX7_takeFromRow 73 = .ok (.l2i, 1) := by decide +kernel
theorem dX7_takeFromRow_74 : decode cX7_takeFromRow 74 = .ok (.invokevirtual 150, 3) := by decide +kernel
theorem dX7_takeFromRow_77 : decode cX7_takeFromRow 77 = .ok (.i2l, 1) := by decide +kernel
theorem dX7_takeFromRow_78 : decode cX7_takeFromRow 78 = .ok (.goto 5, 3) := by decide +kernel
theorem dX7_takeFromRow_81 : decode cX7_takeFromRow 81 = .ok (.lload 4, 2) := by decide +kernel
theorem dX7_takeFromRow_83 : decode cX7_takeFromRow 83 = .ok (.lreturn, 1) := by decide +kernel
theorem dX7_takeFromOther_0 : decode cX7_takeFromOther 0 = .ok (.iload_n 2, 1) := by decide +kernel
theorem dX7_takeFromOther_1 : decode cX7_takeFromOther 1 = .ok (.tableswitch 141 0 12 #[67, 77, 86, 99, 99, 141, 141, 141, 141, 109, 109, 120, 131], 67) := by decide +kernel
theorem dX7_takeFromOther_68 : decode cX7_takeFromOther 68 = .ok (.aload_n 0, 1) := by decide +kernel
theorem dX7_takeFromOther_69 : decode cX7_takeFromOther 69 = .ok (.getfield 12, 3) := by decide +kernel
theorem dX7_takeFromOther_72 : decode cX7_takeFromOther 72 = .ok (.iload_n 1, 1) := by decide +kernel
theorem dX7_takeFromOther_73 : decode cX7_takeFromOther 73 = .ok (.iconst 3, 1) := by decide +kernel
theorem dX7_takeFromOther_74 : decode cX7_takeFromOther 74 = .ok (.invokevirtual 176, 3) := by decide +kernel
theorem dX7_takeFromOther_77 : decode cX7_takeFromOther 77 = .ok (.ireturn, 1) := by decide +kernel
theorem dX7_takeFromOther_78 : decode cX7_takeFromOther 78 = .ok (.aload_n 0, 1) := by decide +kernel
theorem dX7_takeFromOther_79 : decode cX7_takeFromOther 79 = .ok (.getfield 12, 3) := by decide +kernel
theorem dX7_takeFromOther_82 : decode cX7_takeFromOther 82 = .ok (.iload_n 1, 1) := by decide +kernel
theorem dX7_takeFromOther_83 : decode cX7_takeFromOther 83 = .ok (.invokestatic 170, 3) := by decide +kernel
theorem dX7_takeFromOther_86 : decode cX7_takeFromOther 86 = .ok (.ireturn, 1) := by decide +kernel
theorem dX7_takeFromOther_87 : decode cX7_takeFromOther 87 = .ok (.aload_n 0, 1) := by decide +kernel
theorem dX7_takeFromOther_88 : decode cX7_takeFromOther 88 = .ok (.getfield 12, 3) := by decide +kernel
theorem dX7_takeFromOther_91 : decode cX7_takeFromOther 91 = .ok (.iload_n 1, 1) := by decide +kernel
theorem dX7_takeFromOther_92 : decode cX7_takeFromOther 92 = .ok (.iconst 2, 1) := by decide +kernel
theorem dX7_takeFromOther_93 : decode cX7_takeFromOther 93 = .ok (.invokevirtual 176, 3) := by decide +kernel
theorem dX7_takeFromOther_96 : decode cX7_takeFromOther 96 = .ok (.invokestatic 284, 3) := by decide +kernel
theorem dX7_takeFromOther_99 : decode cX7_takeFromOther 99 = .ok (.ireturn, 1) := by decide +kernel
theorem dX7_takeFromOther_100 : decode cX7_takeFromOther 100 = .ok (.aload_n 0, 1) := by decide +kernel
theorem dX7_takeFromOther_101 : decode cX7_takeFromOther 101 = .ok (.getfield 12, 3) := by decide +kernel
theorem dX7_takeFromOther_104 : decode cX7_takeFromOther 104 = .ok (.iload_n 1, 1) := by decide +kernel
theorem dX7_takeFromOther_105 : decode cX7_takeFromOther 105 = .ok (.iconst 4, 1) := by decide +kernel
theorem dX7_takeFromOther_106 : decode cX7_takeFromOther 106 = .ok (.invokevirtual 176, 3) := by decide +kernel
theorem dX7_takeFromOther_109 : decode cX7_takeFromOther 109 = .ok (.ireturn, 1) := by decide +kernel
theorem dX7_takeFromOther_110 : decode cX7_takeFromOther 110 = .ok (.aload_n 0, 1) := by decide +kernel
theorem dX7_takeFromOther_111 : decode cX7_takeFromOther 111 = .ok (.getfield 12, 3) := by decide +kernel
theorem dX7_takeFromOther_114 : decode cX7_takeFromOther 114 = .ok (.iload_n 1, 1) := by decide +kernel
theorem dX7_takeFromOther_115 : decode cX7_takeFromOther 115 = .ok (.bipush 6, 2) := by decide +kernel
theorem dX7_takeFromOther_117 : decode cX7_takeFromOther 117 = .ok (.invokevirtual 176, 3) := by decide +kernel
theorem dX7_takeFromOther_120 : decode cX7_takeFromOther 120 = .ok (.ireturn, 1) := by decide +kernel
theorem dX7_takeFromOther_121 : decode cX7_takeFromOther 121 = .ok (.aload_n 0, 1) := by decide +kernel
theorem dX7_takeFromOther_122 : decode cX7_takeFromOther 122 = .ok (.getfield 12, 3) := by decide +kernel
theorem dX7_takeFromOther_125 : decode cX7_takeFromOther 125 = .ok (.iload_n 1, 1) := by decide +kernel
theorem dX7_takeFromOther_126 : decode cX7_takeFromOther 126 = .ok (.bipush 9, 2) := by decide +kernel
theorem dX7_takeFromOther_128 : decode cX7_takeFromOther 128 = .ok (.invokevirtual 176, 3) := by decide +kernel
theorem dX7_takeFromOther_131 : decode cX7_takeFromOther 131 = .ok (.ireturn, 1) := by decide +kernel
theorem dX7_takeFromOther_132 : decode cX7_takeFromOther 132 = .ok (.aload_n 0, 1) := by decide +kernel
theorem dX7_takeFromOther_133 : decode cX7_takeFromOther 133 = .ok (.getfield 12, 3) := by decide +kernel
theorem dX7_takeFromOther_136 : decode cX7_takeFromOther 136 = .ok (.iload_n 1, 1) := by decide +kernel
theorem dX7_takeFromOther_137 : decode cX7_takeFromOther 137 = .ok (.iconst 0, 1) := by decide +kernel
theorem dX7_takeFromOther_138 : decode cX7_takeFromOther 138 = .ok (.invokevirtual 176, 3) := by decide +kernel
theorem dX7_takeFromOther_141 : decode cX7_takeFromOther 141 = .ok (.ireturn, 1) := by decide +kernel
theorem dX7_takeFromOther_142 : decode cX7_takeFromOther 142 = .ok (.aload_n 0, 1) := by decide +kernel
theorem dX7_takeFromOther_143 : decode cX7_takeFromOther 143 = .ok (.getfield 12, 3) := by decide +kernel
theorem dX7_takeFromOther_146 : decode cX7_takeFromOther 146 = .ok (.iload_n 1, 1) := by decide +kernel
theorem dX7_takeFromOther_147 : decode cX7_takeFromOther 147 = .ok (.iconst 5, 1) := by decide +kernel
theorem dX7_takeFromOther_148 : decode cX7_takeFromOther 148 = .ok (.invokevirtual 176, 3) := by decide +kernel
theorem dX7_takeFromOther_151 : decode cX7_takeFromOther 151 = .ok (.ireturn, 1) := by decide +kernel
end
section
theorem dL_law_0 : decode cL_law 0 = .ok (.new 7, 3) := by decide +kernel
theorem dL_law_3 : decode cL_law 3 = .ok (.dup, 1) := by decide +kernel
theorem dL_law_4 : decode cL_law 4 = .ok (.invokespecial 9, 3) := by decide +kernel
theorem dL_law_7 : decode cL_law 7 = .ok (.astore_n 1, 1) := by decide +kernel
theorem dL_law_8 : decode cL_law 8 = .ok (.new 10, 3) := by decide +kernel
theorem dL_law_11 : decode cL_law 11 = .ok (.dup, 1) := by decide +kernel
theorem dL_law_12 : decode cL_law 12 = .ok (.invokespecial 12, 3) := by decide +kernel
theorem dL_law_15 : decode cL_law 15 = .ok (.astore_n 2, 1) := by decide +kernel
theorem dL_law_16 : decode cL_law 16 = .ok (.iconst 0, 1) := by decide +kernel
theorem dL_law_17 : decode cL_law 17 = .ok (.istore_n 3, 1) := by decide +kernel
theorem dL_law_18 : decode cL_law 18 = .ok (.iload_n 3, 1) := by decide +kernel
theorem dL_law_19 : decode cL_law 19 = .ok (.aload_n 0, 1) := by decide +kernel
theorem dL_law_20 : decode cL_law 20 = .ok (.arraylength, 1) := by decide +kernel
theorem dL_law_21 : decode cL_law 21 = .ok (.bipush 6, 2) := by decide +kernel
theorem dL_law_23 : decode cL_law 23 = .ok (.isub, 1) := by decide +kernel
theorem dL_law_24 : decode cL_law 24 = .ok (.if_icmp .gt 910, 3) := by decide +kernel
theorem dL_law_27 : decode cL_law 27 = .ok (.aload_n 0, 1) := by decide +kernel
theorem dL_law_28 : decode cL_law 28 = .ok (.iload_n 3, 1) := by decide +kernel
theorem dL_law_29 : decode cL_law 29 = .ok (.iaload, 1) := by decide +kernel
theorem dL_law_30 : decode cL_law 30 = .ok (.bipush 31, 2) := by decide +kernel
theorem dL_law_32 : decode cL_law 32 = .ok (.iand, 1) := by decide +kernel
theorem dL_law_33 : decode cL_law 33 = .ok (.tableswitch 895 0 23 #[111, 154, 187, 230, 273, 336, 409, 442, 475, 508, 541, 564, 597, 610, 623, 646, 659, 672, 705, 749, 772, 806, 849, 882], 111) := by decide +kernel
theorem dL_law_144 : decode cL_law 144 = .ok (.aload_n 1, 1) := by decide +kernel
theorem dL_law_145 : decode cL_law 145 = .ok (.aload_n 0, 1) := by decide +kernel
theorem dL_law_146 : decode cL_law 146 = .ok (.iload_n 3, 1) := by decide +kernel
theorem dL_law_147 : decode cL_law 147 = .ok (.iconst 1, 1) := by decide +kernel
theorem dL_law_148 : decode cL_law 148 = .ok (.iadd, 1) := by decide +kernel
theorem dL_law_149 : decode cL_law 149 = .ok (.iaload, 1) := by decide +kernel
theorem dL_law_150 : decode cL_law 150 = .ok (.aload_n 0, 1) := by decide +kernel
theorem dL_law_151 : decode cL_law 151 = .ok (.iload_n 3, 1) := by decide +kernel
theorem dL_law_152 : decode cL_law 152 = .ok (.iconst 2, 1) := by decide +kernel
theorem dL_law_153 : decode cL_law 153 = .ok (.iadd, 1) := by decide +kernel
theorem dL_law_154 : decode cL_law 154 = .ok (.iaload, 1) := by decide +kernel
theorem dL_law_155 : decode cL_law 155 = .ok (.aload_n 0, 1) := by decide +kernel
theorem dL_law_156 : decode cL_law 156 = .ok (.iload_n 3, 1) := by decide +kernel
theorem dL_law_157 : decode cL_law 157 = .ok (.iconst 3, 1) := by decide +kernel
theorem dL_law_158 : decode cL_law 158 = .ok (.iadd, 1) := by decide +kernel
theorem dL_law_159 : decode cL_law 159 = .ok (.iaload, 1) := by decide +kernel
theorem dL_law_160 : decode cL_law 160 = .ok (.invokevirtual 13, 3) := by decide +kernel
theorem dL_law_163 : decode cL_law 163 = .ok (.aload_n 2, 1) := by decide +kernel
theorem dL_law_164 : decode cL_law 164 = .ok (.aload_n 0, 1) := by decide +kernel
theorem dL_law_165 : decode cL_law 165 = .ok (.iload_n 3, 1) := by decide +kernel
theorem dL_law_166 : decode cL_law 166 = .ok (.iconst 1, 1) := by decide +kernel
theorem dL_law_167 : decode cL_law 167 = .ok (.iadd, 1) := by decide +kernel
theorem dL_law_168 : decode cL_law 168 = .ok (.iaload, 1) := by decide +kernel
theorem dL_law_169 : decode cL_law 169 = .ok (.aload_n 0, 1) := by decide +kernel
theorem dL_law_170 : decode cL_law 170 = .ok (.iload_n 3, 1) := by decide +kernel
theorem dL_law_171 : decode cL_law 171 = .ok (.iconst 2, 1) := by decide +kernel
theorem dL_law_172 : decode cL_law 172 = .ok (.iadd, 1) := by decide +kernel
theorem dL_law_173 : decode cL_law 173 = .ok (.iaload, 1) := by decide +kernel
theorem dL_law_174 : decode cL_law 174 = .ok (.aload_n 0, 1) := by decide +kernel
theorem dL_law_175 : decode cL_law 175 = .ok (.iload_n 3, 1) := by decide +kernel
theorem dL_law_176 : decode cL_law 176 = .ok (.iconst 3, 1) := by decide +kernel
theorem dL_law_177 : decode cL_law 177 = .ok (.iadd, 1) := by decide +kernel
theorem dL_law_178 : decode cL_law 178 = .ok (.iaload, 1) := by decide +kernel
theorem dL_law_179 : decode cL_law 179 = .ok (.invokevirtual 17, 3) := by decide +kernel
theorem dL_law_182 : decode cL_law 182 = .ok (.if_icmp .eq 746, 3) := by decide +kernel
theorem dL_law_185 : decode cL_law 185 = .ok (.iconst 0, 1) := by decide +kernel
theorem dL_law_186 : decode cL_law 186 = .ok (.ireturn, 1) := by decide +kernel
theorem dL_law_187 : decode cL_law 187 = .ok (.aload_n 1, 1) := by decide +kernel
theorem dL_law_188 : decode cL_law 188 = .ok (.aload_n 0, 1) := by decide +kernel
theorem dL_law_189 : decode cL_law 189 = .ok (.iload_n 3, 1) := by decide +kernel
theorem dL_law_190 : decode cL_law 190 = .ok (.iconst 1, 1) := by decide +kernel
theorem dL_law_191 : decode cL_law 191 = .ok (.iadd, 1) := by decide +kernel
theorem dL_law_192 : decode cL_law 192 = .ok (.iaload, 1) := by decide +kernel
theorem dL_law_193 : decode cL_law 193 = .ok (.aload_n 0, 1) := by decide +kernel
theorem dL_law_194 : decode cL_law 194 = .ok (.iload_n 3, 1) := by decide +kernel
theorem dL_law_195 : decode cL_law 195 = .ok (.iconst 2, 1) := by decide +kernel
theorem dL_law_196 : decode cL_law 196 = .ok (.iadd, 1) := by decide +kernel
theorem dL_law_197 : decode cL_law 197 = .ok (.iaload, 1) := by decide +kernel
theorem dL_law_198 : decode cL_law 198 = .ok (.invokevirtual 18, 3) := by decide +kernel
theorem dL_law_201 : decode cL_law 201 = .ok (.aload_n 2, 1) := by decide +kernel
theorem dL_law_202 : decode cL_law 202 = .ok (.aload_n 0, 1) := by decide +kernel
theorem dL_law_203 : decode cL_law 203 = .ok (.iload_n 3, 1) := by decide +kernel
theorem dL_law_204 : decode cL_law 204 = .ok (.iconst 1, 1) := by decide +kernel
theorem dL_law_205 : decode cL_law 205 = .ok (.iadd, 1) := by decide +kernel
theorem dL_law_206 : decode cL_law 206 = .ok (.iaload, 1) := by decide +kernel
theorem dL_law_207 : decode cL_law 207 = .ok (.aload_n 0, 1) := by decide +kernel
theorem dL_law_208 : decode cL_law 208 = .ok (.iload_n 3, 1) := by decide +kernel
theorem dL_law_209 : decode cL_law 209 = .ok (.iconst 2, 1) := by decide +kernel
theorem dL_law_210 : decode cL_law 210 = .ok (.iadd, 1) := by decide +kernel
theorem dL_law_211 : decode cL_law 211 = .ok (.iaload, 1) := by decide +kernel
theorem dL_law_212 : decode cL_law 212 = .ok (.invokevirtual 22, 3) := by decide +kernel
theorem dL_law_215 : decode cL_law 215 = .ok (.if_icmp .eq 713, 3) := by decide +kernel
theorem dL_law_218 : decode cL_law 218 = .ok (.iconst 0, 1) := by decide +kernel
theorem dL_law_219 : decode cL_law 219 = .ok (.ireturn, 1) := by decide +kernel
theorem dL_law_220 : decode cL_law 220 = .ok (.aload_n 1, 1) := by decide +kernel
theorem dL_law_221 : decode cL_law 221 = .ok (.aload_n 0, 1) := by decide +kernel
theorem dL_law_222 : decode cL_law 222 = .ok (.iload_n 3, 1) := by decide +kernel
theorem dL_law_223 : decode cL_law 223 = .ok (.iconst 1, 1) := by decide +kernel
theorem dL_law_224 : decode cL_law 224 = .ok (.iadd, 1) := by decide +kernel
theorem dL_law_225 : decode cL_law 225 = .ok (.iaload, 1) := by decide +kernel
theorem dL_law_226 : decode cL_law 226 = .ok (.aload_n 0, 1) := by decide +kernel
theorem dL_law_227 : decode cL_law 227 = .ok (.iload_n 3, 1) := by decide +kernel
theorem dL_law_228 : decode cL_law 228 = .ok (.iconst 2, 1) := by decide +kernel
theorem dL_law_229 : decode cL_law 229 = .ok (.iadd, 1) := by decide +kernel
theorem dL_law_230 : decode cL_law 230 = .ok (.iaload, 1) := by decide +kernel
theorem dL_law_231 : decode cL_law 231 = .ok (.aload_n 0, 1) := by decide +kernel
theorem dL_law_232 : decode cL_law 232 = .ok (.iload_n 3, 1) := by decide +kernel
theorem dL_law_233 : decode cL_law 233 = .ok (.iconst 3, 1) := by decide +kernel
theorem dL_law_234 : decode cL_law 234 = .ok (.iadd, 1) := by decide +kernel
theorem dL_law_235 : decode cL_law 235 = .ok (.iaload, 1) := by decide +kernel
theorem dL_law_236 : decode cL_law 236 = .ok (.invokevirtual 23, 3) := by decide +kernel
theorem dL_law_239 : decode cL_law 239 = .ok (.aload_n 2, 1) := by decide +kernel
theorem dL_law_240 : decode cL_law 240 = .ok (.aload_n 0, 1) := by decide +kernel
theorem dL_law_241 : decode cL_law 241 = .ok (.iload_n 3, 1) := by decide +kernel
theorem dL_law_242 : decode cL_law 242 = .ok (.iconst 1, 1) := by decide +kernel
theorem dL_law_243 : decode cL_law 243 = .ok (.iadd, 1) := by decide +kernel
theorem dL_law_244 : decode cL_law 244 = .ok (.iaload, 1) := by decide +kernel
theorem dL_law_245 : decode cL_law 245 = .ok (.aload_n 0, 1) := by decide +kernel
theorem dL_law_246 : decode cL_law 246 = .ok (.iload_n 3, 1) := by decide +kernel
theorem dL_law_247 : decode cL_law 247 = .ok (.iconst 2, 1) := by decide +kernel
theorem dL_law_248 : decode cL_law 248 = .ok (.iadd, 1) := by decide +kernel
theorem dL_law_249 : decode cL_law 249 = .ok (.iaload, 1) := by decide +kernel
theorem dL_law_250 : decode cL_law 250 = .ok (.aload_n 0, 1) := by decide +kernel
theorem dL_law_251 : decode cL_law 251 = .ok (.iload_n 3, 1) := by decide +kernel
theorem dL_law_252 : decode cL_law 252 = .ok (.iconst 3, 1) := by decide +kernel
theorem dL_law_253 : decode cL_law 253 = .ok (.iadd, 1) := by decide +kernel
theorem dL_law_254 : decode cL_law 254 = .ok (.iaload, 1) := by decide +kernel
theorem dL_law_255 : decode cL_law 255 = .ok (.invokevirtual 26, 3) := by decide +kernel
theorem dL_law_258 : decode cL_law 258 = .ok (.if_icmp .eq 670, 3) := by decide +kernel
theorem dL_law_261 : decode cL_law 261 = .ok (.iconst 0, 1) := by decide +kernel
theorem dL_law_262 : decode cL_law 262 = .ok (.ireturn, 1) := by decide +kernel
theorem dL_law_263 : decode cL_law 263 = .ok (.aload_n 1, 1) := by decide +kernel
theorem dL_law_264 : decode cL_law 264 = .ok (.aload_n 0, 1) := by decide +kernel
theorem dL_law_265 : decode cL_law 265 = .ok (.iload_n 3, 1) := by decide +kernel
theorem dL_law_266 : decode cL_law 266 = .ok (.iconst 1, 1) := by decide +kernel
theorem dL_law_267 : decode cL_law 267 = .ok (.iadd, 1) := by decide +kernel
theorem dL_law_268 : decode cL_law 268 = .ok (.iaload, 1) := by decide +kernel
theorem dL_law_269 : decode cL_law 269 = .ok (.aload_n 0, 1) := by decide +kernel
theorem dL_law_270 : decode cL_law 270 = .ok (.iload_n 3, 1) := by decide +kernel
theorem dL_law_271 : decode cL_law 271 = .ok (.iconst 2, 1) := by decide +kernel
theorem dL_law_272 : decode cL_law 272 = .ok (.iadd, 1) := by decide +kernel
theorem dL_law_273 : decode cL_law 273 = .ok (.iaload, 1) := by decide +kernel
theorem dL_law_274 : decode cL_law 274 = .ok (.aload_n 0, 1) := by decide +kernel
theorem dL_law_275 : decode cL_law 275 = .ok (.iload_n 3, 1) := by decide +kernel
theorem dL_law_276 : decode cL_law 276 = .ok (.iconst 3, 1) := by decide +kernel
theorem dL_law_277 : decode cL_law 277 = .ok (.iadd, 1) := by decide +kernel
theorem dL_law_278 : decode cL_law 278 = .ok (.iaload, 1) := by decide +kernel
theorem dL_law_279 : decode cL_law 279 = .ok (.invokevirtual 27, 3) := by decide +kernel
theorem dL_law_282 : decode cL_law 282 = .ok (.aload_n 2, 1) := by decide +kernel
theorem dL_law_283 : decode cL_law 283 = .ok (.aload_n 0, 1) := by decide +kernel
theorem dL_law_284 : decode cL_law 284 = .ok (.iload_n 3, 1) := by decide +kernel
theorem dL_law_285 : decode cL_law 285 = .ok (.iconst 1, 1) := by decide +kernel
theorem dL_law_286 : decode cL_law 286 = .ok (.iadd, 1) := by decide +kernel
theorem dL_law_287 : decode cL_law 287 = .ok (.iaload, 1) := by decide +kernel
theorem dL_law_288 : decode cL_law 288 = .ok (.aload_n 0, 1) := by decide +kernel
theorem dL_law_289 : decode cL_law 289 = .ok (.iload_n 3, 1) := by decide +kernel
theorem dL_law_290 : decode cL_law 290 = .ok (.iconst 2, 1) := by decide +kernel
theorem dL_law_291 : decode cL_law 291 = .ok (.iadd, 1) := by decide +kernel
theorem dL_law_292 : decode cL_law 292 = .ok (.iaload, 1) := by decide +kernel
theorem dL_law_293 : decode cL_law 293 = .ok (.aload_n 0, 1) := by decide +kernel
theorem dL_law_294 : decode cL_law 294 = .ok (.iload_n 3, 1) := by decide +kernel
theorem dL_law_295 : decode cL_law 295 = .ok (.iconst 3, 1) := by decide +kernel
theorem dL_law_296 : decode cL_law 296 = .ok (.iadd, 1) := by decide +kernel
theorem dL_law_297 : decode cL_law 297 = .ok (.iaload, 1) := by decide +kernel
theorem dL_law_298 : decode cL_law 298 = .ok (.invokevirtual 30, 3) := by decide +kernel
theorem dL_law_301 : decode cL_law 301 = .ok (.if_icmp .eq 627, 3) := by decide +kernel
theorem dL_law_304 : decode cL_law 304 = .ok (.iconst 0, 1) := by decide +kernel
theorem dL_law_305 : decode cL_law 305 = .ok (.ireturn, 1) := by decide +kernel
theorem dL_law_306 : decode cL_law 306 = .ok (.aload_n 1, 1) := by decide +kernel
theorem dL_law_307 : decode cL_law 307 = .ok (.aload_n 0, 1) := by decide +kernel
theorem dL_law_308 : decode cL_law 308 = .ok (.iload_n 3, 1) := by decide +kernel
theorem dL_law_309 : decode cL_law 309 = .ok (.iconst 1, 1) := by decide +kernel
theorem dL_law_310 : decode cL_law 310 = .ok (.iadd, 1) := by decide +kernel
theorem dL_law_311 : decode cL_law 311 = .ok (.iaload, 1) := by decide +kernel
theorem dL_law_312 : decode cL_law 312 = .ok (.aload_n 0, 1) := by decide +kernel
theorem dL_law_313 : decode cL_law 313 = .ok (.iload_n 3, 1) := by decide +kernel
theorem dL_law_314 : decode cL_law 314 = .ok (.iconst 2, 1) := by decide +kernel
theorem dL_law_315 : decode cL_law 315 = .ok (.iadd, 1) := by decide +kernel
theorem dL_law_316 : decode cL_law 316 = .ok (.iaload, 1) := by decide +kernel
theorem dL_law_317 : decode cL_law 317 = .ok (.aload_n 0, 1) := by decide +kernel
theorem dL_law_318 : decode cL_law 318 = .ok (.iload_n 3, 1) := by decide +kernel
theorem dL_law_319 : decode cL_law 319 = .ok (.iconst 3, 1) := by decide +kernel
theorem dL_law_320 : decode cL_law 320 = .ok (.iadd, 1) := by decide +kernel
theorem dL_law_321 : decode cL_law 321 = .ok (.iaload, 1) := by decide +kernel
theorem dL_law_322 : decode cL_law 322 = .ok (.aload_n 0, 1) := by decide +kernel
theorem dL_law_323 : decode cL_law 323 = .ok (.iload_n 3, 1) := by decide +kernel
theorem dL_law_324 : decode cL_law 324 = .ok (.iconst 4, 1) := by decide +kernel
theorem dL_law_325 : decode cL_law 325 = .ok (.iadd, 1) := by decide +kernel
theorem dL_law_326 : decode cL_law 326 = .ok (.iaload, 1) := by decide +kernel
theorem dL_law_327 : decode cL_law 327 = .ok (.aload_n 0, 1) := by decide +kernel
theorem dL_law_328 : decode cL_law 328 = .ok (.iload_n 3, 1) := by decide +kernel
theorem dL_law_329 : decode cL_law 329 = .ok (.iconst 5, 1) := by decide +kernel
theorem dL_law_330 : decode cL_law 330 = .ok (.iadd, 1) := by decide +kernel
theorem dL_law_331 : decode cL_law 331 = .ok (.iaload, 1) := by decide +kernel
theorem dL_law_332 : decode cL_law 332 = .ok (.invokevirtual 31, 3) := by decide +kernel
theorem dL_law_335 : decode cL_law 335 = .ok (.aload_n 2, 1) := by decide +kernel
theorem dL_law_336 : decode cL_law 336 = .ok (.aload_n 0, 1) := by decide +kernel
theorem dL_law_337 : decode cL_law 337 = .ok (.iload_n 3, 1) := by decide +kernel
theorem dL_law_338 : decode cL_law 338 = .ok (.iconst 1, 1) := by decide +kernel
theorem dL_law_339 : decode cL_law 339 = .ok (.iadd, 1) := by decide +kernel
theorem dL_law_340 : decode cL_law 340 = .ok (.iaload, 1) := by decide +kernel
theorem dL_law_341 : decode cL_law 341 = .ok (.aload_n 0, 1) := by decide +kernel
theorem dL_law_342 : decode cL_law 342 = .ok (.iload_n 3, 1) := by decide +kernel
theorem dL_law_343 : decode cL_law 343 = .ok (.iconst 2, 1) := by decide +kernel
theorem dL_law_344 : decode cL_law 344 = .ok (.iadd, 1) := by decide +kernel
theorem dL_law_345 : decode cL_law 345 = .ok (.iaload, 1) := by decide +kernel
theorem dL_law_346 : decode cL_law 346 = .ok (.aload_n 0, 1) := by decide +kernel
theorem dL_law_347 : decode cL_law 347 = .ok (.iload_n 3, 1) := by decide +kernel
theorem dL_law_348 : decode cL_law 348 = .ok (.iconst 3, 1) := by decide +kernel
theorem dL_law_349 : decode cL_law 349 = .ok (.iadd, 1) := by decide +kernel
theorem dL_law_350 : decode cL_law 350 = .ok (.iaload, 1) := by decide +kernel
theorem dL_law_351 : decode cL_law 351 = .ok (.aload_n 0, 1) := by decide +kernel
theorem dL_law_352 : decode cL_law 352 = .ok (.iload_n 3, 1) := by decide +kernel
theorem dL_law_353 : decode cL_law 353 = .ok (.iconst 4, 1) := by decide +kernel
theorem dL_law_354 : decode cL_law 354 = .ok (.iadd, 1) := by decide +kernel
theorem dL_law_355 : decode cL_law 355 = .ok (.iaload, 1) := by decide +kernel
theorem dL_law_356 : decode cL_law 356 = .ok (.aload_n 0, 1) := by decide +kernel
theorem dL_law_357 : decode cL_law 357 = .ok (.iload_n 3, 1) := by decide +kernel
theorem dL_law_358 : decode cL_law 358 = .ok (.iconst 5, 1) := by decide +kernel
theorem dL_law_359 : decode cL_law 359 = .ok (.iadd, 1) := by decide +kernel
theorem dL_law_360 : decode cL_law 360 = .ok (.iaload, 1) := by decide +kernel
theorem dL_law_361 : decode cL_law 361 = .ok (.invokevirtual 35, 3) := by decide +kernel
theorem dL_law_364 : decode cL_law 364 = .ok (.if_icmp .eq 564, 3) := by decide +kernel
theorem dL_law_367 : decode cL_law 367 = .ok (.iconst 0, 1) := by decide +kernel
theorem dL_law_368 : decode cL_law 368 = .ok (.ireturn, 1) := by decide +kernel
theorem dL_law_369 : decode cL_law 369 = .ok (.aload_n 1, 1) := by decide +kernel
theorem dL_law_370 : decode cL_law 370 = .ok (.aload_n 0, 1) := by decide +kernel
theorem dL_law_371 : decode cL_law 371 = .ok (.iload_n 3, 1) := by decide +kernel
theorem dL_law_372 : decode cL_law 372 = .ok (.iconst 1, 1) := by decide +kernel
theorem dL_law_373 : decode cL_law 373 = .ok (.iadd, 1) := by decide +kernel
theorem dL_law_374 : decode cL_law 374 = .ok (.iaload, 1) := by decide +kernel
theorem dL_law_375 : decode cL_law 375 = .ok (.aload_n 0, 1) := by decide +kernel
theorem dL_law_376 : decode cL_law 376 = .ok (.iload_n 3, 1) := by decide +kernel
theorem dL_law_377 : decode cL_law 377 = .ok (.iconst 2, 1) := by decide +kernel
theorem dL_law_378 : decode cL_law 378 = .ok (.iadd, 1) := by decide +kernel
theorem dL_law_379 : decode cL_law 379 = .ok (.iaload, 1) := by decide +kernel
theorem dL_law_380 : decode cL_law 380 = .ok (.aload_n 0, 1) := by decide +kernel
theorem dL_law_381 : decode cL_law 381 = .ok (.iload_n 3, 1) := by decide +kernel
theorem dL_law_382 : decode cL_law 382 = .ok (.iconst 3, 1) := by decide +kernel
theorem dL_law_383 : decode cL_law 383 = .ok (.iadd, 1) := by decide +kernel
theorem dL_law_384 : decode cL_law 384 = .ok (.iaload, 1) := by decide +kernel
theorem dL_law_385 : decode cL_law 385 = .ok (.i2l, 1) := by decide +kernel
theorem dL_law_386 : decode cL_law 386 = .ok (.bipush 32, 2) := by decide +kernel
theorem dL_law_388 : decode cL_law 388 = .ok (.lshl, 1) := by decide +kernel
theorem dL_law_389 : decode cL_law 389 = .ok (.aload_n 0, 1) := by decide +kernel
theorem dL_law_390 : decode cL_law 390 = .ok (.iload_n 3, 1) := by decide +kernel
theorem dL_law_391 : decode cL_law 391 = .ok (.iconst 4, 1) := by decide +kernel
theorem dL_law_392 : decode cL_law 392 = .ok (.iadd, 1) := by decide +kernel
theorem dL_law_393 : decode cL_law 393 = .ok (.iaload, 1) := by decide +kernel
theorem dL_law_394 : decode cL_law 394 = .ok (.i2l, 1) := by decide +kernel
theorem dL_law_395 : decode cL_law 395 = .ok (.ldc2_w 36, 3) := by decide +kernel
theorem dL_law_398 : decode cL_law 398 = .ok (.land, 1) := by decide +kernel
theorem dL_law_399 : decode cL_law 399 = .ok (.lor, 1) := by decide +kernel
theorem dL_law_400 : decode cL_law 400 = .ok (.invokevirtual 38, 3) := by decide +kernel
theorem dL_law_403 : decode cL_law 403 = .ok (.aload_n 2, 1) := by decide +kernel
theorem dL_law_404 : decode cL_law 404 = .ok (.aload_n 0, 1) := by decide +kernel
theorem dL_law_405 : decode cL_law 405 = .ok (.iload_n 3, 1) := by decide +kernel
theorem dL_law_406 : decode cL_law 406 = .ok (.iconst 1, 1) := by decide +kernel
theorem dL_law_407 : decode cL_law 407 = .ok (.iadd, 1) := by decide +kernel
theorem dL_law_408 : decode cL_law 408 = .ok (.iaload, 1) := by decide +kernel
theorem dL_law_409 : decode cL_law 409 = .ok (.aload_n 0, 1) := by decide +kernel
theorem dL_law_410 : decode cL_law 410 = .ok (.iload_n 3, 1) := by decide +kernel
theorem dL_law_411 : decode cL_law 411 = .ok (.iconst 2, 1) := by decide +kernel
theorem dL_law_412 : decode cL_law 412 = .ok (.iadd, 1) := by decide +kernel
theorem dL_law_413 : decode cL_law 413 = .ok (.iaload, 1) := by decide +kernel
theorem dL_law_414 : decode cL_law 414 = .ok (.aload_n 0, 1) := by decide +kernel
theorem dL_law_415 : decode cL_law 415 = .ok (.iload_n 3, 1) := by decide +kernel
theorem dL_law_416 : decode cL_law 416 = .ok (.iconst 3, 1) := by decide +kernel
theorem dL_law_417 : decode cL_law 417 = .ok (.iadd, 1) := by decide +kernel
theorem dL_law_418 : decode cL_law 418 = .ok (.iaload, 1) := by decide +kernel
theorem dL_law_419 : decode cL_law 419 = .ok (.i2l, 1) := by decide +kernel
theorem dL_law_420 : decode cL_law 420 = .ok (.bipush 32, 2) := by decide +kernel
theorem dL_law_422 : decode cL_law 422 = .ok (.lshl, 1) := by decide +kernel
theorem dL_law_423 : decode cL_law 423 = .ok (.aload_n 0, 1) := by decide +kernel
theorem dL_law_424 : decode cL_law 424 = .ok (.iload_n 3, 1) := by decide +kernel
theorem dL_law_425 : decode cL_law 425 = .ok (.iconst 4, 1) := by decide +kernel
theorem dL_law_426 : decode cL_law 426 = .ok (.iadd, 1) := by decide +kernel
theorem dL_law_427 : decode cL_law 427 = .ok (.iaload, 1) := by decide +kernel
theorem dL_law_428 : decode cL_law 428 = .ok (.i2l, 1) := by decide +kernel
theorem dL_law_429 : decode cL_law 429 = .ok (.ldc2_w 36, 3) := by decide +kernel
theorem dL_law_432 : decode cL_law 432 = .ok (.land, 1) := by decide +kernel
theorem dL_law_433 : decode cL_law 433 = .ok (.lor, 1) := by decide +kernel
theorem dL_law_434 : decode cL_law 434 = .ok (.invokevirtual 42, 3) := by decide +kernel
theorem dL_law_437 : decode cL_law 437 = .ok (.if_icmp .eq 491, 3) := by decide +kernel
theorem dL_law_440 : decode cL_law 440 = .ok (.iconst 0, 1) := by decide +kernel
theorem dL_law_441 : decode cL_law 441 = .ok (.ireturn, 1) := by decide +kernel
theorem dL_law_442 : decode cL_law 442 = .ok (.aload_n 1, 1) := by decide +kernel
theorem dL_law_443 : decode cL_law 443 = .ok (.aload_n 0, 1) := by decide +kernel
theorem dL_law_444 : decode cL_law 444 = .ok (.iload_n 3, 1) := by decide +kernel
theorem dL_law_445 : decode cL_law 445 = .ok (.iconst 1, 1) := by decide +kernel
theorem dL_law_446 : decode cL_law 446 = .ok (.iadd, 1) := by decide +kernel
theorem dL_law_447 : decode cL_law 447 = .ok (.iaload, 1) := by decide +kernel
theorem dL_law_448 : decode cL_law 448 = .ok (.aload_n 0, 1) := by decide +kernel
theorem dL_law_449 : decode cL_law 449 = .ok (.iload_n 3, 1) := by decide +kernel
theorem dL_law_450 : decode cL_law 450 = .ok (.iconst 2, 1) := by decide +kernel
theorem dL_law_451 : decode cL_law 451 = .ok (.iadd, 1) := by decide +kernel
theorem dL_law_452 : decode cL_law 452 = .ok (.iaload, 1) := by decide +kernel
theorem dL_law_453 : decode cL_law 453 = .ok (.invokevirtual 43, 3) := by decide +kernel
theorem dL_law_456 : decode cL_law 456 = .ok (.aload_n 2, 1) := by decide +kernel
theorem dL_law_457 : decode cL_law 457 = .ok (.aload_n 0, 1) := by decide +kernel
theorem dL_law_458 : decode cL_law 458 = .ok (.iload_n 3, 1) := by decide +kernel
theorem dL_law_459 : decode cL_law 459 = .ok (.iconst 1, 1) := by decide +kernel
theorem dL_law_460 : decode cL_law 460 = .ok (.iadd, 1) := by decide +kernel
theorem dL_law_461 : decode cL_law 461 = .ok (.iaload, 1) := by decide +kernel
theorem dL_law_462 : decode cL_law 462 = .ok (.aload_n 0, 1) := by decide +kernel
theorem dL_law_463 : decode cL_law 463 = .ok (.iload_n 3, 1) := by decide +kernel
theorem dL_law_464 : decode cL_law 464 = .ok (.iconst 2, 1) := by decide +kernel
theorem dL_law_465 : decode cL_law 465 = .ok (.iadd, 1) := by decide +kernel
theorem dL_law_466 : decode cL_law 466 = .ok (.iaload, 1) := by decide +kernel
theorem dL_law_467 : decode cL_law 467 = .ok (.invokevirtual 46, 3) := by decide +kernel
theorem dL_law_470 : decode cL_law 470 = .ok (.if_icmp .eq 458, 3) := by decide +kernel
theorem dL_law_473 : decode cL_law 473 = .ok (.iconst 0, 1) := by decide +kernel
theorem dL_law_474 : decode cL_law 474 = .ok (.ireturn, 1) := by decide +kernel
theorem dL_law_475 : decode cL_law 475 = .ok (.aload_n 1, 1) := by decide +kernel
theorem dL_law_476 : decode cL_law 476 = .ok (.aload_n 0, 1) := by decide +kernel
theorem dL_law_477 : decode cL_law 477 = .ok (.iload_n 3, 1) := by decide +kernel
theorem dL_law_478 : decode cL_law 478 = .ok (.iconst 1, 1) := by decide +kernel
theorem dL_law_479 : decode cL_law 479 = .ok (.iadd, 1) := by decide +kernel
theorem dL_law_480 : decode cL_law 480 = .ok (.iaload, 1) := by decide +kernel
theorem dL_law_481 : decode cL_law 481 = .ok (.aload_n 0, 1) := by decide +kernel
theorem dL_law_482 : decode cL_law 482 = .ok (.iload_n 3, 1) := by decide +kernel
theorem dL_law_483 : decode cL_law 483 = .ok (.iconst 2, 1) := by decide +kernel
theorem dL_law_484 : decode cL_law 484 = .ok (.iadd, 1) := by decide +kernel
theorem dL_law_485 : decode cL_law 485 = .ok (.iaload, 1) := by decide +kernel
theorem dL_law_486 : decode cL_law 486 = .ok (.invokevirtual 47, 3) := by decide +kernel
theorem dL_law_489 : decode cL_law 489 = .ok (.aload_n 2, 1) := by decide +kernel
theorem dL_law_490 : decode cL_law 490 = .ok (.aload_n 0, 1) := by decide +kernel
theorem dL_law_491 : decode cL_law 491 = .ok (.iload_n 3, 1) := by decide +kernel
theorem dL_law_492 : decode cL_law 492 = .ok (.iconst 1, 1) := by decide +kernel
theorem dL_law_493 : decode cL_law 493 = .ok (.iadd, 1) := by decide +kernel
theorem dL_law_494 : decode cL_law 494 = .ok (.iaload, 1) := by decide +kernel
theorem dL_law_495 : decode cL_law 495 = .ok (.aload_n 0, 1) := by decide +kernel
theorem dL_law_496 : decode cL_law 496 = .ok (.iload_n 3, 1) := by decide +kernel
theorem dL_law_497 : decode cL_law 497 = .ok (.iconst 2, 1) := by decide +kernel
theorem dL_law_498 : decode cL_law 498 = .ok (.iadd, 1) := by decide +kernel
theorem dL_law_499 : decode cL_law 499 = .ok (.iaload, 1) := by decide +kernel
theorem dL_law_500 : decode cL_law 500 = .ok (.invokevirtual 50, 3) := by decide +kernel
theorem dL_law_503 : decode cL_law 503 = .ok (.if_icmp .eq 425, 3) := by decide +kernel
theorem dL_law_506 : decode cL_law 506 = .ok (.iconst 0, 1) := by decide +kernel
theorem dL_law_507 : decode cL_law 507 = .ok (.ireturn, 1) := by decide +kernel
theorem dL_law_508 : decode cL_law 508 = .ok (.aload_n 1, 1) := by decide +kernel
theorem dL_law_509 : decode cL_law 509 = .ok (.aload_n 0, 1) := by decide +kernel
theorem dL_law_510 : decode cL_law 510 = .ok (.iload_n 3, 1) := by decide +kernel
theorem dL_law_511 : decode cL_law 511 = .ok (.iconst 1, 1) := by decide +kernel
theorem dL_law_512 : decode cL_law 512 = .ok (.iadd, 1) := by decide +kernel
theorem dL_law_513 : decode cL_law 513 = .ok (.iaload, 1) := by decide +kernel
theorem dL_law_514 : decode cL_law 514 = .ok (.aload_n 0, 1) := by decide +kernel
theorem dL_law_515 : decode cL_law 515 = .ok (.iload_n 3, 1) := by decide +kernel
theorem dL_law_516 : decode cL_law 516 = .ok (.iconst 2, 1) := by decide +kernel
theorem dL_law_517 : decode cL_law 517 = .ok (.iadd, 1) := by decide +kernel
theorem dL_law_518 : decode cL_law 518 = .ok (.iaload, 1) := by decide +kernel
theorem dL_law_519 : decode cL_law 519 = .ok (.invokevirtual 51, 3) := by decide +kernel
theorem dL_law_522 : decode cL_law 522 = .ok (.aload_n 2, 1) := by decide +kernel
theorem dL_law_523 : decode cL_law 523 = .ok (.aload_n 0, 1) := by decide +kernel
theorem dL_law_524 : decode cL_law 524 = .ok (.iload_n 3, 1) := by decide +kernel
theorem dL_law_525 : decode cL_law 525 = .ok (.iconst 1, 1) := by decide +kernel
theorem dL_law_526 : decode cL_law 526 = .ok (.iadd, 1) := by decide +kernel
theorem dL_law_527 : decode cL_law 527 = .ok (.iaload, 1) := by decide +kernel
theorem dL_law_528 : decode cL_law 528 = .ok (.aload_n 0, 1) := by decide +kernel
theorem dL_law_529 : decode cL_law 529 = .ok (.iload_n 3, 1) := by decide +kernel
theorem dL_law_530 : decode cL_law 530 = .ok (.iconst 2, 1) := by decide +kernel
theorem dL_law_531 : decode cL_law 531 = .ok (.iadd, 1) := by decide +kernel
theorem dL_law_532 : decode cL_law 532 = .ok (.iaload, 1) := by decide +kernel
theorem dL_law_533 : decode cL_law 533 = .ok (.invokevirtual 54, 3) := by decide +kernel
theorem dL_law_536 : decode cL_law 536 = .ok (.if_icmp .eq 392, 3) := by decide +kernel
theorem dL_law_539 : decode cL_law 539 = .ok (.iconst 0, 1) := by decide +kernel
theorem dL_law_540 : decode cL_law 540 = .ok (.ireturn, 1) := by decide +kernel
theorem dL_law_541 : decode cL_law 541 = .ok (.aload_n 1, 1) := by decide +kernel
theorem dL_law_542 : decode cL_law 542 = .ok (.aload_n 0, 1) := by decide +kernel
theorem dL_law_543 : decode cL_law 543 = .ok (.iload_n 3, 1) := by decide +kernel
theorem dL_law_544 : decode cL_law 544 = .ok (.iconst 1, 1) := by decide +kernel
theorem dL_law_545 : decode cL_law 545 = .ok (.iadd, 1) := by decide +kernel
theorem dL_law_546 : decode cL_law 546 = .ok (.iaload, 1) := by decide +kernel
theorem dL_law_547 : decode cL_law 547 = .ok (.aload_n 0, 1) := by decide +kernel
theorem dL_law_548 : decode cL_law 548 = .ok (.iload_n 3, 1) := by decide +kernel
theorem dL_law_549 : decode cL_law 549 = .ok (.iconst 2, 1) := by decide +kernel
theorem dL_law_550 : decode cL_law 550 = .ok (.iadd, 1) := by decide +kernel
theorem dL_law_551 : decode cL_law 551 = .ok (.iaload, 1) := by decide +kernel
theorem dL_law_552 : decode cL_law 552 = .ok (.invokevirtual 55, 3) := by decide +kernel
theorem dL_law_555 : decode cL_law 555 = .ok (.aload_n 2, 1) := by decide +kernel
theorem dL_law_556 : decode cL_law 556 = .ok (.aload_n 0, 1) := by decide +kernel
theorem dL_law_557 : decode cL_law 557 = .ok (.iload_n 3, 1) := by decide +kernel
theorem dL_law_558 : decode cL_law 558 = .ok (.iconst 1, 1) := by decide +kernel
theorem dL_law_559 : decode cL_law 559 = .ok (.iadd, 1) := by decide +kernel
theorem dL_law_560 : decode cL_law 560 = .ok (.iaload, 1) := by decide +kernel
theorem dL_law_561 : decode cL_law 561 = .ok (.aload_n 0, 1) := by decide +kernel
theorem dL_law_562 : decode cL_law 562 = .ok (.iload_n 3, 1) := by decide +kernel
theorem dL_law_563 : decode cL_law 563 = .ok (.iconst 2, 1) := by decide +kernel
theorem dL_law_564 : decode cL_law 564 = .ok (.iadd, 1) := by decide +kernel
theorem dL_law_565 : decode cL_law 565 = .ok (.iaload, 1) := by decide +kernel
theorem dL_law_566 : decode cL_law 566 = .ok (.invokevirtual 58, 3) := by decide +kernel
theorem dL_law_569 : decode cL_law 569 = .ok (.if_icmp .eq 359, 3) := by decide +kernel
theorem dL_law_572 : decode cL_law 572 = .ok (.iconst 0, 1) := by decide +kernel
theorem dL_law_573 : decode cL_law 573 = .ok (.ireturn, 1) := by decide +kernel
theorem dL_law_574 : decode cL_law 574 = .ok (.aload_n 1, 1) := by decide +kernel
theorem dL_law_575 : decode cL_law 575 = .ok (.aload_n 0, 1) := by decide +kernel
theorem dL_law_576 : decode cL_law 576 = .ok (.iload_n 3, 1) := by decide +kernel
theorem dL_law_577 : decode cL_law 577 = .ok (.iconst 1, 1) := by decide +kernel
theorem dL_law_578 : decode cL_law 578 = .ok (.iadd, 1) := by decide +kernel
theorem dL_law_579 : decode cL_law 579 = .ok (.iaload, 1) := by decide +kernel
theorem dL_law_580 : decode cL_law 580 = .ok (.invokevirtual 59, 3) := by decide +kernel
theorem dL_law_583 : decode cL_law 583 = .ok (.aload_n 2, 1) := by decide +kernel
theorem dL_law_584 : decode cL_law 584 = .ok (.aload_n 0, 1) := by decide +kernel
theorem dL_law_585 : decode cL_law 585 = .ok (.iload_n 3, 1) := by decide +kernel
theorem dL_law_586 : decode cL_law 586 = .ok (.iconst 1, 1) := by decide +kernel
theorem dL_law_587 : decode cL_law 587 = .ok (.iadd, 1) := by decide +kernel
theorem dL_law_588 : decode cL_law 588 = .ok (.iaload, 1) := by decide +kernel
theorem dL_law_589 : decode cL_law 589 = .ok (.invokevirtual 63, 3) := by decide +kernel
theorem dL_law_592 : decode cL_law 592 = .ok (.if_icmp .eq 336, 3) := by decide +kernel
theorem dL_law_595 : decode cL_law 595 = .ok (.iconst 0, 1) := by decide +kernel
theorem dL_law_596 : decode cL_law 596 = .ok (.ireturn, 1) := by decide +kernel
theorem dL_law_597 : decode cL_law 597 = .ok (.aload_n 1, 1) := by decide +kernel
theorem dL_law_598 : decode cL_law 598 = .ok (.aload_n 0, 1) := by decide +kernel
theorem dL_law_599 : decode cL_law 599 = .ok (.iload_n 3, 1) := by decide +kernel
theorem dL_law_600 : decode cL_law 600 = .ok (.iconst 1, 1) := by decide +kernel
theorem dL_law_601 : decode cL_law 601 = .ok (.iadd, 1) := by decide +kernel
theorem dL_law_602 : decode cL_law 602 = .ok (.iaload, 1) := by decide +kernel
theorem dL_law_603 : decode cL_law 603 = .ok (.aload_n 0, 1) := by decide +kernel
theorem dL_law_604 : decode cL_law 604 = .ok (.iload_n 3, 1) := by decide +kernel
theorem dL_law_605 : decode cL_law 605 = .ok (.iconst 2, 1) := by decide +kernel
theorem dL_law_606 : decode cL_law 606 = .ok (.iadd, 1) := by decide +kernel
theorem dL_law_607 : decode cL_law 607 = .ok (.iaload, 1) := by decide +kernel
theorem dL_law_608 : decode cL_law 608 = .ok (.invokevirtual 64, 3) := by decide +kernel
theorem dL_law_611 : decode cL_law 611 = .ok (.aload_n 2, 1) := by decide +kernel
theorem dL_law_612 : decode cL_law 612 = .ok (.aload_n 0, 1) := by decide +kernel
theorem dL_law_613 : decode cL_law 613 = .ok (.iload_n 3, 1) := by decide +kernel
theorem dL_law_614 : decode cL_law 614 = .ok (.iconst 1, 1) := by decide +kernel
theorem dL_law_615 : decode cL_law 615 = .ok (.iadd, 1) := by decide +kernel
theorem dL_law_616 : decode cL_law 616 = .ok (.iaload, 1) := by decide +kernel
theorem dL_law_617 : decode cL_law 617 = .ok (.aload_n 0, 1) := by decide +kernel
theorem dL_law_618 : decode cL_law 618 = .ok (.iload_n 3, 1) := by decide +kernel
theorem dL_law_619 : decode cL_law 619 = .ok (.iconst 2, 1) := by decide +kernel
theorem dL_law_620 : decode cL_law 620 = .ok (.iadd, 1) := by decide +kernel
theorem dL_law_621 : decode cL_law 621 = .ok (.iaload, 1) := by decide +kernel
theorem dL_law_622 : decode cL_law 622 = .ok (.invokevirtual 67, 3) := by decide +kernel
theorem dL_law_625 : decode cL_law 625 = .ok (.if_icmp .eq 303, 3) := by decide +kernel
theorem dL_law_628 : decode cL_law 628 = .ok (.iconst 0, 1) := by decide +kernel
theorem dL_law_629 : decode cL_law 629 = .ok (.ireturn, 1) := by decide +kernel
theorem dL_law_630 : decode cL_law 630 = .ok (.aload_n 1, 1) := by decide +kernel
theorem dL_law_631 : decode cL_law 631 = .ok (.invokevirtual 68, 3) := by decide +kernel
theorem dL_law_634 : decode cL_law 634 = .ok (.aload_n 2, 1) := by decide +kernel
theorem dL_law_635 : decode cL_law 635 = .ok (.invokevirtual 72, 3) := by decide +kernel
theorem dL_law_638 : decode cL_law 638 = .ok (.if_icmp .eq 290, 3) := by decide +kernel
theorem dL_law_641 : decode cL_law 641 = .ok (.iconst 0, 1) := by decide +kernel
theorem dL_law_642 : decode cL_law 642 = .ok (.ireturn, 1) := by decide +kernel
theorem dL_law_643 : decode cL_law 643 = .ok (.aload_n 1, 1) := by decide +kernel
theorem dL_law_644 : decode cL_law 644 = .ok (.invokevirtual 73, 3) := by decide +kernel
theorem dL_law_647 : decode cL_law 647 = .ok (.aload_n 2, 1) := by decide +kernel
theorem dL_law_648 : decode cL_law 648 = .ok (.invokevirtual 76, 3) := by decide +kernel
theorem dL_law_651 : decode cL_law 651 = .ok (.if_icmp .eq 277, 3) := by decide +kernel
theorem dL_law_654 : decode cL_law 654 = .ok (.iconst 0, 1) := by decide +kernel
theorem dL_law_655 : decode cL_law 655 = .ok (.ireturn, 1) := by decide +kernel
theorem dL_law_656 : decode cL_law 656 = .ok (.aload_n 1, 1) := by decide +kernel
theorem dL_law_657 : decode cL_law 657 = .ok (.aload_n 0, 1) := by decide +kernel
theorem dL_law_658 : decode cL_law 658 = .ok (.iload_n 3, 1) := by decide +kernel
theorem dL_law_659 : decode cL_law 659 = .ok (.iconst 1, 1) := by decide +kernel
theorem dL_law_660 : decode cL_law 660 = .ok (.iadd, 1) := by decide +kernel
theorem dL_law_661 : decode cL_law 661 = .ok (.iaload, 1) := by decide +kernel
theorem dL_law_662 : decode cL_law 662 = .ok (.invokevirtual 77, 3) := by decide +kernel
theorem dL_law_665 : decode cL_law 665 = .ok (.aload_n 2, 1) := by decide +kernel
theorem dL_law_666 : decode cL_law 666 = .ok (.aload_n 0, 1) := by decide +kernel
theorem dL_law_667 : decode cL_law 667 = .ok (.iload_n 3, 1) := by decide +kernel
theorem dL_law_668 : decode cL_law 668 = .ok (.iconst 1, 1) := by decide +kernel
theorem dL_law_669 : decode cL_law 669 = .ok (.iadd, 1) := by decide +kernel
theorem dL_law_670 : decode cL_law 670 = .ok (.iaload, 1) := by decide +kernel
theorem dL_law_671 : decode cL_law 671 = .ok (.invokevirtual 80, 3) := by decide +kernel
theorem dL_law_674 : decode cL_law 674 = .ok (.if_icmp .eq 254, 3) := by decide +kernel
theorem dL_law_677 : decode cL_law 677 = .ok (.iconst 0, 1) := by decide +kernel
theorem dL_law_678 : decode cL_law 678 = .ok (.ireturn, 1) := by decide +kernel
theorem dL_law_679 : decode cL_law 679 = .ok (.aload_n 1, 1) := by decide +kernel
theorem dL_law_680 : decode cL_law 680 = .ok (.invokevirtual 81, 3) := by decide +kernel
theorem dL_law_683 : decode cL_law 683 = .ok (.aload_n 2, 1) := by decide +kernel
theorem dL_law_684 : decode cL_law 684 = .ok (.invokevirtual 84, 3) := by decide +kernel
theorem dL_law_687 : decode cL_law 687 = .ok (.if_icmp .eq 241, 3) := by decide +kernel
theorem dL_law_690 : decode cL_law 690 = .ok (.iconst 0, 1) := by decide +kernel
theorem dL_law_691 : decode cL_law 691 = .ok (.ireturn, 1) := by decide +kernel
theorem dL_law_692 : decode cL_law 692 = .ok (.aload_n 1, 1) := by decide +kernel
theorem dL_law_693 : decode cL_law 693 = .ok (.invokevirtual 85, 3) := by decide +kernel
theorem dL_law_696 : decode cL_law 696 = .ok (.aload_n 2, 1) := by decide +kernel
theorem dL_law_697 : decode cL_law 697 = .ok (.invokevirtual 88, 3) := by decide +kernel
theorem dL_law_700 : decode cL_law 700 = .ok (.if_icmp .eq 228, 3) := by decide +kernel
theorem dL_law_703 : decode cL_law 703 = .ok (.iconst 0, 1) := by decide +kernel
theorem dL_law_704 : decode cL_law 704 = .ok (.ireturn, 1) := by decide +kernel
theorem dL_law_705 : decode cL_law 705 = .ok (.aload_n 1, 1) := by decide +kernel
theorem dL_law_706 : decode cL_law 706 = .ok (.aload_n 0, 1) := by decide +kernel
theorem dL_law_707 : decode cL_law 707 = .ok (.iload_n 3, 1) := by decide +kernel
theorem dL_law_708 : decode cL_law 708 = .ok (.iconst 1, 1) := by decide +kernel
theorem dL_law_709 : decode cL_law 709 = .ok (.iadd, 1) := by decide +kernel
theorem dL_law_710 : decode cL_law 710 = .ok (.iaload, 1) := by decide +kernel
theorem dL_law_711 : decode cL_law 711 = .ok (.aload_n 0, 1) := by decide +kernel
theorem dL_law_712 : decode cL_law 712 = .ok (.iload_n 3, 1) := by decide +kernel
theorem dL_law_713 : decode cL_law 713 = .ok (.iconst 2, 1) := by decide +kernel
theorem dL_law_714 : decode cL_law 714 = .ok (.iadd, 1) := by decide +kernel
theorem dL_law_715 : decode cL_law 715 = .ok (.iaload, 1) := by decide +kernel
theorem dL_law_716 : decode cL_law 716 = .ok (.invokevirtual 89, 3) := by decide +kernel
theorem dL_law_719 : decode cL_law 719 = .ok (.aload_n 2, 1) := by decide +kernel
theorem dL_law_720 : decode cL_law 720 = .ok (.aload_n 0, 1) := by decide +kernel
theorem dL_law_721 : decode cL_law 721 = .ok (.iload_n 3, 1) := by decide +kernel
theorem dL_law_722 : decode cL_law 722 = .ok (.iconst 1, 1) := by decide +kernel
theorem dL_law_723 : decode cL_law 723 = .ok (.iadd, 1) := by decide +kernel
theorem dL_law_724 : decode cL_law 724 = .ok (.iaload, 1) := by decide +kernel
theorem dL_law_725 : decode cL_law 725 = .ok (.aload_n 0, 1) := by decide +kernel
theorem dL_law_726 : decode cL_law 726 = .ok (.iload_n 3, 1) := by decide +kernel
theorem dL_law_727 : decode cL_law 727 = .ok (.iconst 2, 1) := by decide +kernel
theorem dL_law_728 : decode cL_law 728 = .ok (.iadd, 1) := by decide +kernel
theorem dL_law_729 : decode cL_law 729 = .ok (.iaload, 1) := by decide +kernel
theorem dL_law_730 : decode cL_law 730 = .ok (.invokevirtual 92, 3) := by decide +kernel
theorem dL_law_733 : decode cL_law 733 = .ok (.if_icmp .eq 195, 3) := by decide +kernel
theorem dL_law_736 : decode cL_law 736 = .ok (.iconst 0, 1) := by decide +kernel
theorem dL_law_737 : decode cL_law 737 = .ok (.ireturn, 1) := by decide +kernel
theorem dL_law_738 : decode cL_law 738 = .ok (.aload_n 1, 1) := by decide +kernel
theorem dL_law_739 : decode cL_law 739 = .ok (.aload_n 0, 1) := by decide +kernel
theorem dL_law_740 : decode cL_law 740 = .ok (.iload_n 3, 1) := by decide +kernel
theorem dL_law_741 : decode cL_law 741 = .ok (.iconst 1, 1) := by decide +kernel
theorem dL_law_742 : decode cL_law 742 = .ok (.iadd, 1) := by decide +kernel
theorem dL_law_743 : decode cL_law 743 = .ok (.iaload, 1) := by decide +kernel
theorem dL_law_744 : decode cL_law 744 = .ok (.aload_n 0, 1) := by decide +kernel
theorem dL_law_745 : decode cL_law 745 = .ok (.iload_n 3, 1) := by decide +kernel
theorem dL_law_746 : decode cL_law 746 = .ok (.iconst 2, 1) := by decide +kernel
theorem dL_law_747 : decode cL_law 747 = .ok (.iadd, 1) := by decide +kernel
theorem dL_law_748 : decode cL_law 748 = .ok (.iaload, 1) := by decide +kernel
theorem dL_law_749 : decode cL_law 749 = .ok (.aload_n 0, 1) := by decide +kernel
theorem dL_law_750 : decode cL_law 750 = .ok (.iload_n 3, 1) := by decide +kernel
theorem dL_law_751 : decode cL_law 751 = .ok (.iconst 3, 1) := by decide +kernel
theorem dL_law_752 : decode cL_law 752 = .ok (.iadd, 1) := by decide +kernel
theorem dL_law_753 : decode cL_law 753 = .ok (.iaload, 1) := by decide +kernel
theorem dL_law_754 : decode cL_law 754 = .ok (.invokevirtual 93, 3) := by decide +kernel
theorem dL_law_757 : decode cL_law 757 = .ok (.aload_n 2, 1) := by decide +kernel
theorem dL_law_758 : decode cL_law 758 = .ok (.aload_n 0, 1) := by decide +kernel
theorem dL_law_759 : decode cL_law 759 = .ok (.iload_n 3, 1) := by decide +kernel
theorem dL_law_760 : decode cL_law 760 = .ok (.iconst 1, 1) := by decide +kernel
theorem dL_law_761 : decode cL_law 761 = .ok (.iadd, 1) := by decide +kernel
theorem dL_law_762 : decode cL_law 762 = .ok (.iaload, 1) := by decide +kernel
theorem dL_law_763 : decode cL_law 763 = .ok (.aload_n 0, 1) := by decide +kernel
theorem dL_law_764 : decode cL_law 764 = .ok (.iload_n 3, 1) := by decide +kernel
theorem dL_law_765 : decode cL_law 765 = .ok (.iconst 2, 1) := by decide +kernel
theorem dL_law_766 : decode cL_law 766 = .ok (.iadd, 1) := by decide +kernel
theorem dL_law_767 : decode cL_law 767 = .ok (.iaload, 1) := by decide +kernel
theorem dL_law_768 : decode cL_law 768 = .ok (.aload_n 0, 1) := by decide +kernel
theorem dL_law_769 : decode cL_law 769 = .ok (.iload_n 3, 1) := by decide +kernel
theorem dL_law_770 : decode cL_law 770 = .ok (.iconst 3, 1) := by decide +kernel
theorem dL_law_771 : decode cL_law 771 = .ok (.iadd, 1) := by decide +kernel
theorem dL_law_772 : decode cL_law 772 = .ok (.iaload, 1) := by decide +kernel
theorem dL_law_773 : decode cL_law 773 = .ok (.invokevirtual 97, 3) := by decide +kernel
theorem dL_law_776 : decode cL_law 776 = .ok (.lcmp, 1) := by decide +kernel
theorem dL_law_777 : decode cL_law 777 = .ok (.ifCond .eq 151, 3) := by decide +kernel
theorem dL_law_780 : decode cL_law 780 = .ok (.iconst 0, 1) := by decide +kernel
theorem dL_law_781 : decode cL_law 781 = .ok (.ireturn, 1) := by decide +kernel
theorem dL_law_782 : decode cL_law 782 = .ok (.aload_n 1, 1) := by decide +kernel
theorem dL_law_783 : decode cL_law 783 = .ok (.aload_n 0, 1) := by decide +kernel
theorem dL_law_784 : decode cL_law 784 = .ok (.iload_n 3, 1) := by decide +kernel
theorem dL_law_785 : decode cL_law 785 = .ok (.iconst 1, 1) := by decide +kernel
theorem dL_law_786 : decode cL_law 786 = .ok (.iadd, 1) := by decide +kernel
theorem dL_law_787 : decode cL_law 787 = .ok (.iaload, 1) := by decide +kernel
theorem dL_law_788 : decode cL_law 788 = .ok (.invokevirtual 98, 3) := by decide +kernel
theorem dL_law_791 : decode cL_law 791 = .ok (.aload_n 2, 1) := by decide +kernel
theorem dL_law_792 : decode cL_law 792 = .ok (.aload_n 0, 1) := by decide +kernel
theorem dL_law_793 : decode cL_law 793 = .ok (.iload_n 3, 1) := by decide +kernel
theorem dL_law_794 : decode cL_law 794 = .ok (.iconst 1, 1) := by decide +kernel
theorem dL_law_795 : decode cL_law 795 = .ok (.iadd, 1) := by decide +kernel
theorem dL_law_796 : decode cL_law 796 = .ok (.iaload, 1) := by decide +kernel
theorem dL_law_797 : decode cL_law 797 = .ok (.invokevirtual 101, 3) := by decide +kernel
theorem dL_law_800 : decode cL_law 800 = .ok (.if_icmp .eq 128, 3) := by decide +kernel
theorem dL_law_803 : decode cL_law 803 = .ok (.iconst 0, 1) := by decide +kernel
theorem dL_law_804 : decode cL_law 804 = .ok (.ireturn, 1) := by decide +kernel
theorem dL_law_805 : decode cL_law 805 = .ok (.aload_n 1, 1) := by decide +kernel
theorem dL_law_806 : decode cL_law 806 = .ok (.aload_n 0, 1) := by decide +kernel
theorem dL_law_807 : decode cL_law 807 = .ok (.iload_n 3, 1) := by decide +kernel
theorem dL_law_808 : decode cL_law 808 = .ok (.iconst 1, 1) := by decide +kernel
theorem dL_law_809 : decode cL_law 809 = .ok (.iadd, 1) := by decide +kernel
theorem dL_law_810 : decode cL_law 810 = .ok (.iaload, 1) := by decide +kernel
theorem dL_law_811 : decode cL_law 811 = .ok (.aload_n 0, 1) := by decide +kernel
theorem dL_law_812 : decode cL_law 812 = .ok (.iload_n 3, 1) := by decide +kernel
theorem dL_law_813 : decode cL_law 813 = .ok (.iconst 2, 1) := by decide +kernel
theorem dL_law_814 : decode cL_law 814 = .ok (.iadd, 1) := by decide +kernel
theorem dL_law_815 : decode cL_law 815 = .ok (.iaload, 1) := by decide +kernel
theorem dL_law_816 : decode cL_law 816 = .ok (.invokevirtual 102, 3) := by decide +kernel
theorem dL_law_819 : decode cL_law 819 = .ok (.aload_n 2, 1) := by decide +kernel
theorem dL_law_820 : decode cL_law 820 = .ok (.aload_n 0, 1) := by decide +kernel
theorem dL_law_821 : decode cL_law 821 = .ok (.iload_n 3, 1) := by decide +kernel
theorem dL_law_822 : decode cL_law 822 = .ok (.iconst 1, 1) := by decide +kernel
theorem dL_law_823 : decode cL_law 823 = .ok (.iadd, 1) := by decide +kernel
theorem dL_law_824 : decode cL_law 824 = .ok (.iaload, 1) := by decide +kernel
theorem dL_law_825 : decode cL_law 825 = .ok (.aload_n 0, 1) := by decide +kernel
theorem dL_law_826 : decode cL_law 826 = .ok (.iload_n 3, 1) := by decide +kernel
theorem dL_law_827 : decode cL_law 827 = .ok (.iconst 2, 1) := by decide +kernel
theorem dL_law_828 : decode cL_law 828 = .ok (.iadd, 1) := by decide +kernel
theorem dL_law_829 : decode cL_law 829 = .ok (.iaload, 1) := by decide +kernel
theorem dL_law_830 : decode cL_law 830 = .ok (.invokevirtual 106, 3) := by decide +kernel
theorem dL_law_833 : decode cL_law 833 = .ok (.lcmp, 1) := by decide +kernel
theorem dL_law_834 : decode cL_law 834 = .ok (.ifCond .eq 94, 3) := by decide +kernel
theorem dL_law_837 : decode cL_law 837 = .ok (.iconst 0, 1) := by decide +kernel
theorem dL_law_838 : decode cL_law 838 = .ok (.ireturn, 1) := by decide +kernel
theorem dL_law_839 : decode cL_law 839 = .ok (.aload_n 1, 1) := by decide +kernel
theorem dL_law_840 : decode cL_law 840 = .ok (.aload_n 0, 1) := by decide +kernel
theorem dL_law_841 : decode cL_law 841 = .ok (.iload_n 3, 1) := by decide +kernel
theorem dL_law_842 : decode cL_law 842 = .ok (.iconst 1, 1) := by decide +kernel
theorem dL_law_843 : decode cL_law 843 = .ok (.iadd, 1) := by decide +kernel
theorem dL_law_844 : decode cL_law 844 = .ok (.iaload, 1) := by decide +kernel
theorem dL_law_845 : decode cL_law 845 = .ok (.aload_n 0, 1) := by decide +kernel
theorem dL_law_846 : decode cL_law 846 = .ok (.iload_n 3, 1) := by decide +kernel
theorem dL_law_847 : decode cL_law 847 = .ok (.iconst 2, 1) := by decide +kernel
theorem dL_law_848 : decode cL_law 848 = .ok (.iadd, 1) := by decide +kernel
theorem dL_law_849 : decode cL_law 849 = .ok (.iaload, 1) := by decide +kernel
theorem dL_law_850 : decode cL_law 850 = .ok (.aload_n 0, 1) := by decide +kernel
theorem dL_law_851 : decode cL_law 851 = .ok (.iload_n 3, 1) := by decide +kernel
theorem dL_law_852 : decode cL_law 852 = .ok (.iconst 3, 1) := by decide +kernel
theorem dL_law_853 : decode cL_law 853 = .ok (.iadd, 1) := by decide +kernel
theorem dL_law_854 : decode cL_law 854 = .ok (.iaload, 1) := by decide +kernel
theorem dL_law_855 : decode cL_law 855 = .ok (.invokevirtual 107, 3) := by decide +kernel
theorem dL_law_858 : decode cL_law 858 = .ok (.aload_n 2, 1) := by decide +kernel
theorem dL_law_859 : decode cL_law 859 = .ok (.aload_n 0, 1) := by decide +kernel
theorem dL_law_860 : decode cL_law 860 = .ok (.iload_n 3, 1) := by decide +kernel
theorem dL_law_861 : decode cL_law 861 = .ok (.iconst 1, 1) := by decide +kernel
theorem dL_law_862 : decode cL_law 862 = .ok (.iadd, 1) := by decide +kernel
theorem dL_law_863 : decode cL_law 863 = .ok (.iaload, 1) := by decide +kernel
theorem dL_law_864 : decode cL_law 864 = .ok (.aload_n 0, 1) := by decide +kernel
theorem dL_law_865 : decode cL_law 865 = .ok (.iload_n 3, 1) := by decide +kernel
theorem dL_law_866 : decode cL_law 866 = .ok (.iconst 2, 1) := by decide +kernel
theorem dL_law_867 : decode cL_law 867 = .ok (.iadd, 1) := by decide +kernel
theorem dL_law_868 : decode cL_law 868 = .ok (.iaload, 1) := by decide +kernel
theorem dL_law_869 : decode cL_law 869 = .ok (.aload_n 0, 1) := by decide +kernel
theorem dL_law_870 : decode cL_law 870 = .ok (.iload_n 3, 1) := by decide +kernel
theorem dL_law_871 : decode cL_law 871 = .ok (.iconst 3, 1) := by decide +kernel
theorem dL_law_872 : decode cL_law 872 = .ok (.iadd, 1) := by decide +kernel
theorem dL_law_873 : decode cL_law 873 = .ok (.iaload, 1) := by decide +kernel
theorem dL_law_874 : decode cL_law 874 = .ok (.invokevirtual 110, 3) := by decide +kernel
theorem dL_law_877 : decode cL_law 877 = .ok (.if_icmp .eq 51, 3) := by decide +kernel
theorem dL_law_880 : decode cL_law 880 = .ok (.iconst 0, 1) := by decide +kernel
theorem dL_law_881 : decode cL_law 881 = .ok (.ireturn, 1) := by decide +kernel
theorem dL_law_882 : decode cL_law 882 = .ok (.aload_n 1, 1) := by decide +kernel
theorem dL_law_883 : decode cL_law 883 = .ok (.aload_n 0, 1) := by decide +kernel
theorem dL_law_884 : decode cL_law 884 = .ok (.iload_n 3, 1) := by decide +kernel
theorem dL_law_885 : decode cL_law 885 = .ok (.iconst 1, 1) := by decide +kernel
theorem dL_law_886 : decode cL_law 886 = .ok (.iadd, 1) := by decide +kernel
theorem dL_law_887 : decode cL_law 887 = .ok (.iaload, 1) := by decide +kernel
theorem dL_law_888 : decode cL_law 888 = .ok (.aload_n 0, 1) := by decide +kernel
theorem dL_law_889 : decode cL_law 889 = .ok (.iload_n 3, 1) := by decide +kernel
theorem dL_law_890 : decode cL_law 890 = .ok (.iconst 2, 1) := by decide +kernel
theorem dL_law_891 : decode cL_law 891 = .ok (.iadd, 1) := by decide +kernel
theorem dL_law_892 : decode cL_law 892 = .ok (.iaload, 1) := by decide +kernel
theorem dL_law_893 : decode cL_law 893 = .ok (.invokevirtual 111, 3) := by decide +kernel
theorem dL_law_896 : decode cL_law 896 = .ok (.aload_n 2, 1) := by decide +kernel
theorem dL_law_897 : decode cL_law 897 = .ok (.aload_n 0, 1) := by decide +kernel
theorem dL_law_898 : decode cL_law 898 = .ok (.iload_n 3, 1) := by decide +kernel
theorem dL_law_899 : decode cL_law 899 = .ok (.iconst 1, 1) := by decide +kernel
theorem dL_law_900 : decode cL_law 900 = .ok (.iadd, 1) := by decide +kernel
theorem dL_law_901 : decode cL_law 901 = .ok (.iaload, 1) := by decide +kernel
theorem dL_law_902 : decode cL_law 902 = .ok (.aload_n 0, 1) := by decide +kernel
theorem dL_law_903 : decode cL_law 903 = .ok (.iload_n 3, 1) := by decide +kernel
theorem dL_law_904 : decode cL_law 904 = .ok (.iconst 2, 1) := by decide +kernel
theorem dL_law_905 : decode cL_law 905 = .ok (.iadd, 1) := by decide +kernel
theorem dL_law_906 : decode cL_law 906 = .ok (.iaload, 1) := by decide +kernel
theorem dL_law_907 : decode cL_law 907 = .ok (.invokevirtual 114, 3) := by decide +kernel
theorem dL_law_910 : decode cL_law 910 = .ok (.if_icmp .eq 18, 3) := by decide +kernel
theorem dL_law_913 : decode cL_law 913 = .ok (.iconst 0, 1) := by decide +kernel
theorem dL_law_914 : decode cL_law 914 = .ok (.ireturn, 1) := by decide +kernel
theorem dL_law_915 : decode cL_law 915 = .ok (.aload_n 1, 1) := by decide +kernel
theorem dL_law_916 : decode cL_law 916 = .ok (.invokevirtual 115, 3) := by decide +kernel
theorem dL_law_919 : decode cL_law 919 = .ok (.aload_n 2, 1) := by decide +kernel
theorem dL_law_920 : decode cL_law 920 = .ok (.invokevirtual 118, 3) := by decide +kernel
theorem dL_law_923 : decode cL_law 923 = .ok (.if_icmp .eq 5, 3) := by decide +kernel
theorem dL_law_926 : decode cL_law 926 = .ok (.iconst 0, 1) := by decide +kernel
theorem dL_law_927 : decode cL_law 927 = .ok (.ireturn, 1) := by decide +kernel
theorem dL_law_928 : decode cL_law 928 = .ok (.iinc 3 6, 3) := by decide +kernel
theorem dL_law_931 : decode cL_law 931 = .ok (.goto (-913), 3) := by decide +kernel
theorem dL_law_934 : decode cL_law 934 = .ok (.iconst 1, 1) := by decide +kernel
theorem dL_law_935 : decode cL_law 935 = .ok (.ireturn, 1) := by decide +kernel
end
section
/-! the uniform setting: one list of words for every method, one world, one A -/
abbrev g_Env : Type := va_G × ClassId × ClassId × ClassId × Nat × Nat
abbrev g_tys (E : g_Env) : List (ClassId × FieldType) := [(E.2.1, .int), (E.2.2.1, .long), (E.2.2.2.1, .object "PatchHall$Line")]
def g_lst (xs : List Int32) (j : Nat) : Int32 := xs.getD j 0
def g_aboveL : List Int32 := [1, 3, 7, 15, 31, 33, 97, 225, 481, 513, 5633, 6144, 4096, 8192, 16384, 32768, 65536, 131072, 393216, 917504, 1179648, 2097152, 6422528, 8388608, 25165824]
def g_wantedL : List Int32 := [13, 0, 1, 2, 7, 12, 10, 17, 19]
def g_above : Nat → Int32 := g_lst g_aboveL
def g_wanted : Nat → Int32 := g_lst g_wantedL
def g_Z (E : g_Env) (A : Nat → Prop) (U : State) (H : Heap) : Prop := va_Z "PatchHall$Kinds" "ABOVE" "[I" (.ref E.2.2.2.2.1) A U H ∧ va_T .int E.2.2.2.2.1 25 (fun j => .int (g_above j)) A U H ∧ va_Z "PatchHall$Kinds" "WANTED" "[I" (.ref E.2.2.2.2.2) A U H ∧ va_T .int E.2.2.2.2.2 9 (fun j => .int (g_wanted j)) A U H
def g_at (E : g_Env) (A : Nat → Prop) (ws : va_W) (U : State) : Prop := va_P E.1 vwCl ws U.heap ∧ va_K E.1 vwCl (g_tys E) U ∧ va_D A ws ∧ (∀ q, U.heap.size ≤ q → A q) ∧ (∀ w ∈ g_nest, va_Nw w U) ∧ g_Z E A U U.heap
def g_B (E : g_Env) (A : Nat → Prop) (ws : va_W) (t : State) : Prop := va_P E.1 vwCl ws t.heap ∧ va_D A ws
def g_C (E : g_Env) (A : Nat → Prop) (p : Program) (s : State) (m : MethodId) (args : Array Value) (c : Code) (cc : ByteArray) (nL : Nat) (own : String) : Prop :=
  CallFix p m c cc nL s args g_tbl own ∧ va_K E.1 vwCl (g_tys E) s ∧ (∀ q, s.heap.size ≤ q → A q) ∧ (∀ w ∈ g_nest, va_Nw w s) ∧ g_Z E A s s.heap
def g_W (E : g_Env) (A : Nat → Prop) (s : State) (H : Heap) (locs : List Loc) (ws : va_W) : Prop := va_P E.1 vwCl ws H ∧ va_D A ws ∧ va_S A s.heap H locs
theorem g_Z.moved {E : g_Env} {A : Nat → Prop} {u U : State} {H : Heap} (hvm : u.vm.Alike U.vm) (h : g_Z E A u H) : g_Z E A U H := ⟨h.1.moved hvm, h.2.1.moved hvm, h.2.2.1.moved hvm, h.2.2.2.moved hvm⟩
theorem g_Z.kept {E : g_Env} {A : Nat → Prop} {U : State} {H H1 : Heap} (h : g_Z E A U H) (hq : ∀ a : Nat, a < H.size → ¬ A a → H1[a]? = H[a]?) : g_Z E A U H1 := ⟨h.1.kept hq, h.2.1.kept hq, h.2.2.1.kept hq, h.2.2.2.kept hq⟩
theorem g_Z.narrow {E : g_Env} {A B : Nat → Prop} {U : State} {H : Heap} (h : g_Z E A U H) (hAB : ∀ q, B q → A q) : g_Z E B U H := ⟨h.1.narrow hAB, h.2.1.narrow hAB, h.2.2.1.narrow hAB, h.2.2.2.narrow hAB⟩
theorem g_nest_ok : ∀ w ∈ g_nest, ∀ (s U : State), s.WarmedH U.vm → va_Nw w s → va_Nw w U := by
  intro w hw s U hW h
  simp only [g_nest, List.mem_cons, List.not_mem_nil, or_false] at hw
  rcases hw with rfl | rfl | rfl | rfl | rfl | rfl | rfl | rfl | rfl | rfl | rfl | rfl | rfl | rfl | rfl | rfl | rfl <;> first | exact va_Nw.warmF hW h | exact va_Nw.warmM hW h
theorem g_nest_tab : ∀ w ∈ g_nest, w.onTables = true := by decide +kernel
theorem g_good {y : MethodName} {b : ByteArray} {n : Nat} {r : Option FieldType} (h : Cond.code y b n r ∈ g_tbl) : GoodIn g_tbl (Cond.code y b n r :: g_tbl) := by
  have key : ∀ w ∈ g_tbl, w ∈ g_tbl ∧ ((w.onTables && w.keeps) = true ∨ ∃ ty, w = .arrayClass ty) := fun w hw => ⟨hw, good_of_word (List.mem_filter.mp hw).2⟩
  intro w hw
  rcases List.mem_cons.mp hw with rfl | hw
  · exact key _ h
  · exact key _ hw
theorem g_blind {E : g_Env} {A : Nat → Prop} {av : List Value} {ws : va_W} : FrameBlind (va_Pc av (g_at E A ws)) := by
  intro a U g mk h
  obtain ⟨h0, h1, h2, h3, h4, h5, h6⟩ := h
  exact ⟨h0, h1, va_K.moved (u := U) (U := U.calling g mk a) (Vm.Alike.refl U.vm) h2, h3, h4, fun w hw => va_Nw.same (g_nest_tab w hw) (u := U) (U := U.calling g mk a) rfl (h5 w hw), g_Z.moved (u := U) (U := U.calling g mk a) (Vm.Alike.refl U.vm) h6⟩
theorem g_at_call {E : g_Env} {A : Nat → Prop} {p : Program} {s : State} {m : MethodId} {args : Array Value} {c : Code} {cc : ByteArray} {nL : Nat} {own : String} {H : Heap} {locs : List Loc} {ws : va_W} (C : g_C E A p s m args c cc nL own) (X : g_W E A s H locs ws) : ∀ U : State, U.heap = H → s.WarmedH U.vm → g_at E A ws U := by
  intro U hU hW
  obtain ⟨hP, hD, hS⟩ := X
  obtain ⟨-, hK, hA, hN, hZ⟩ := C
  refine ⟨by rw [hU]; exact hP, va_K.moved hW.alike hK, hD, fun q hq => hA q (Nat.le_trans hS.1 (by rw [hU] at hq; exact hq)), fun w hw => g_nest_ok w hw s U hW (hN w hw), ?_⟩
  rw [hU]
  exact (hZ.kept hS.2.1).moved hW.alike
/-- a method of ours, with its world before and behind it -/
abbrev g_Mi (l : Launch) (y : MethodName) (b : ByteArray) (n : Nat) (ret : Option FieldType) (rm : Room) (E : g_Env) (A : Nat → Prop) (av : List Value) (ws : va_W) (r : Int32) (ws' : va_W) : Prop :=
  Met l y (.code y b n ret :: g_tbl) rm (va_Pc av (g_at E A ws)) (va_Qi (fun (r' : Int32) (u' : va_W) => r' = r ∧ u' = ws') (g_B E A) A) rm.cells rm.slots A
abbrev g_Ml (l : Launch) (y : MethodName) (b : ByteArray) (n : Nat) (rm : Room) (E : g_Env) (A : Nat → Prop) (av : List Value) (ws : va_W) (r : Int64) (ws' : va_W) : Prop :=
  Met l y (.code y b n (some .long) :: g_tbl) rm (va_Pc av (g_at E A ws)) (va_Ql (fun (r' : Int64) (u' : va_W) => r' = r ∧ u' = ws') (g_B E A) A) rm.cells rm.slots A
abbrev g_Mv (l : Launch) (y : MethodName) (b : ByteArray) (n : Nat) (rm : Room) (E : g_Env) (A : Nat → Prop) (av : List Value) (ws : va_W) (ws' : va_W) : Prop :=
  Met l y (.code y b n none :: g_tbl) rm (va_Pc av (g_at E A ws)) (va_Qv (fun (u' : va_W) => u' = ws') (g_B E A) A) rm.cells rm.slots A
theorem g_start {l : Launch} {y : MethodName} {b : ByteArray} {n : Nat} {ret : Option FieldType} {rm : Room} {E : g_Env} {A : Nat → Prop} {av : List Value} {ws : va_W} {Qc : Array Value → State → Outcome → State → Prop} (hy : plainName y.cls = true) (hlen : (lg_sl av).length ≤ n)
    (body : ∀ (p : Program) (e : Env) (s : State) (m : MethodId) (below : List Frame) (meth : Method) (c : Code), g_C E A p s m av.toArray c b n y.cls → meth.sig.returnType = ret → meth.locks = false → meth.name = y.name → ∀ ls : Array Slot, lv_has ls n (lv_args 0 av) → g_W E A s s.heap [] ws → W p l e rm s m av.toArray below meth c s.heap [] 0 0 (MQ below Qc av.toArray s rm.cells rm.slots A) (F0 m 0 ls [])) :
    Met l y (.code y b n ret :: g_tbl) rm (va_Pc av (g_at E A ws)) Qc rm.cells rm.slots A := by
  refine Met.ofW (cc := b) (maxL := n) (ret := ret) hy rfl ?_
  intro p e s m args below meth c s₁ B hml hv
  obtain ⟨rfl, hP, hK, hD, hA, hN, hZ⟩ := hv
  have hts := atoms_spec (ws := Cond.code y b n ret :: g_tbl) B.pre
  have hown : s.vm.findClass y.cls = some m.cls := findClass_of_methodNamed B.named
  have hl := lv_entry av (n := n) hlen
  rw [lg_entry_eq]
  exact body p e s m below meth c ⟨⟨B.exec, B.bytes, hml, hown, fun w hw => hts w (List.mem_cons_of_mem _ hw)⟩, hK, hA, hN, hZ⟩ B.returns B.notSynchronized (name_of_methodNamed B.named B.method).1 _ hl ⟨hP, hD, va_S.rf⟩
/-! what a step of the pure function gives -/
def g_let {α β : Type} (v : α) (k : α → Option β) : Option β := k v
def g_ck {α : Type} (i : Int32) (n : Nat) (k : Option α) : Option α := if i < 0 ∨ n ≤ i.toNatClampNeg then none else k
theorem g_le {α β : Type} {v : α} {k : α → Option β} {o : β} (h : g_let v k = some o) : ∃ x, x = v ∧ k x = some o := ⟨v, rfl, h⟩
theorem g_cke {α : Type} {i : Int32} {n : Nat} {k : Option α} {o : α} (h : g_ck i n k = some o) : vp_in i n ∧ k = some o := by
  unfold g_ck at h
  by_cases hc : i < 0 ∨ n ≤ i.toNatClampNeg
  · rw [if_pos hc] at h; cases h
  · rw [if_neg hc] at h; exact ⟨hc, h⟩
theorem g_be {α β : Type} {x : Option α} {k : α → Option β} {o : β} (h : x.bind k = some o) : ∃ a, x = some a ∧ k a = some o := by
  cases x with
  | none => cases h
  | some a => exact ⟨a, rfl, h⟩
theorem g_t {α : Type} {c : Prop} {d : Decidable c} {x y : Option α} {o : α} (h : (@ite (Option α) c d x y) = some o) (hc : c) : x = some o := by rw [if_pos hc] at h; exact h
theorem g_f {α : Type} {c : Prop} {d : Decidable c} {x y : Option α} {o : α} (h : (@ite (Option α) c d x y) = some o) (hc : ¬ c) : y = some o := by rw [if_neg hc] at h; exact h
def g_bool {α : Type} (v : Int32) (k : Option α) : Option α := if v = 0 ∨ v = 1 then k else none
theorem g_bz {α : Type} {v : Int32} {k : Option α} {o : α} (h : g_bool v k = some o) : narrow .boolean (.int v) = .int v ∧ k = some o := by
  unfold g_bool at h
  by_cases hc : v = 0 ∨ v = 1
  · rw [if_pos hc] at h
    rcases hc with rfl | rfl <;> exact ⟨rfl, h⟩
  · rw [if_neg hc] at h; cases h
def g_fuel : Nat := 5000
theorem g_ne {x kk : Int32} (k : Int) (h : ¬ x = kk) (hk : kk.toInt = k) : x.toInt ≠ k := fun e => h (Int32.toInt_inj.mp (e.trans hk.symm))
section GK
variable {p : Program} {l : Launch} {e : Env} {R : Room} {s : State} {m : MethodId} {args : Array Value} {below : List Frame} {meth : Method} {c : Code} {H : Heap} {locs : List Loc} {cells slots : Nat} {Q : State → Prop}
variable {cc : ByteArray} {pc nL : Nat} {ls : Array Slot} {rest : List Value} {A : Nat → Prop} {ws : va_W} {E : g_Env} {own : String} {a : Nat}
theorem g_iret {σ : Type} (F : σ → va_W) {r v : Int32} {w1 w2 : σ} (C : g_C E A p s m args c cc nL own) (hr : meth.sig.returnType = some .int) (hk : meth.locks = false) (X : g_W E A s H locs (F w1)) (hf : some (v, w1) = some (r, w2)) (hdg : decode cc pc = .ok (.ireturn, 1)) :
    W p l e R s m args below meth c H locs cells slots (MQ below (va_Qi (fun (r' : Int32) (u' : va_W) => r' = r ∧ u' = F w2) (g_B E A) A) args s cells slots A) (F0 m pc ls [.int v]) := by
  cases hf
  exact W.iret C.1.1 C.1.2.1 hr (fun t ht hW => ⟨⟨_, _, rfl, ⟨rfl, rfl⟩, by rw [ht]; exact X.1, X.2.1⟩, X.2.2.F ht⟩) X.2.2.2.2 hdg hk
theorem g_zret {σ : Type} (F : σ → va_W) {r v : Int32} {w1 w2 : σ} (C : g_C E A p s m args c cc nL own) (hr : meth.sig.returnType = some .boolean) (hk : meth.locks = false) (hn : narrow .boolean (.int v) = .int v) (X : g_W E A s H locs (F w1)) (hf : some (v, w1) = some (r, w2)) (hdg : decode cc pc = .ok (.ireturn, 1)) :
    W p l e R s m args below meth c H locs cells slots (MQ below (va_Qi (fun (r' : Int32) (u' : va_W) => r' = r ∧ u' = F w2) (g_B E A) A) args s cells slots A) (F0 m pc ls [.int v]) := by
  cases hf
  exact W.zret (ty := .boolean) C.1.1 C.1.2.1 hr hn (fun t ht hW => ⟨⟨_, _, rfl, ⟨rfl, rfl⟩, by rw [ht]; exact X.1, X.2.1⟩, X.2.2.F ht⟩) X.2.2.2.2 hdg hk
theorem g_lret {σ : Type} (F : σ → va_W) {r v : Int64} {w1 w2 : σ} (C : g_C E A p s m args c cc nL own) (hr : meth.sig.returnType = some .long) (hk : meth.locks = false) (X : g_W E A s H locs (F w1)) (hf : some (v, w1) = some (r, w2)) (hdg : decode cc pc = .ok (.lreturn, 1)) :
    W p l e R s m args below meth c H locs cells slots (MQ below (va_Ql (fun (r' : Int64) (u' : va_W) => r' = r ∧ u' = F w2) (g_B E A) A) args s cells slots A) (F0 m pc ls [.long v]) := by
  cases hf
  exact W.lret C.1.1 C.1.2.1 hr (fun t ht hW => ⟨⟨_, _, rfl, ⟨rfl, rfl⟩, by rw [ht]; exact X.1, X.2.1⟩, X.2.2.F ht⟩) X.2.2.2.2 hdg hk
theorem g_vret {σ : Type} (F : σ → va_W) {w1 w2 : σ} (C : g_C E A p s m args c cc nL own) (hr : meth.sig.returnType = none) (hk : meth.locks = false) (X : g_W E A s H locs (F w1)) (hf : some w1 = some w2) (hdg : decode cc pc = .ok (.return_, 1)) :
    W p l e R s m args below meth c H locs cells slots (MQ below (va_Qv (fun (u' : va_W) => u' = F w2) (g_B E A) A) args s cells slots A) (F0 m pc ls []) := by
  cases hf
  exact W.vret C.1.1 C.1.2.1 hr (fun t ht hW => ⟨⟨F w1, rfl, rfl, by rw [ht]; exact X.1, X.2.1⟩, X.2.2.F ht⟩) X.2.2.2.2 hdg hk
/-! fields and arrays -/
theorem g_get {Cn : String} {T : u_T} {N ci index : Nat} (C : g_C E A p s m args c cc nL own) (X : g_W E A s H locs ws) (hin : ∀ w ∈ u_ws Cn T N, w ∈ g_tbl) (q0 : Nat) {fs : List Value} (he : ws[q0]? = some (a, .inr (ci, fs))) (hc : vwCl[ci]? = some (Cn, T, N)) (k : Nat) (hk : k < N) (hT : (T k).1 = Cn) (hlink : Cond.fieldLink own index Cn (T k).2.1 (T k).2.2.1 ∈ g_tbl) {v : Value} (hv : fs[k]? = some v) (hdg : decode cc pc = .ok (.getfield index, 3))
    (kk : W p l e R s m args below meth c H locs cells slots Q (F0 m (pc + 3) ls (v :: rest))) : W p l e R s m args below meth c H locs cells slots Q (F0 m pc ls (.ref a :: rest)) :=
  va_get C.1.1 C.1.2.1 C.1.2.2.2.2 hin C.1.2.2.2.1 C.2.1 X.1 q0 he hc k hk (C.1.2.2.2.2 _ hlink) (fun x h => by rw [hT] at h; exact h) hv hdg kk
theorem g_getN {Cn host : String} {T : u_T} {N ci index : Nat} (C : g_C E A p s m args c cc nL own) (X : g_W E A s H locs ws) (hin : ∀ w ∈ u_ws Cn T N, w ∈ g_tbl) (q0 : Nat) {fs : List Value} (he : ws[q0]? = some (a, .inr (ci, fs))) (hc : vwCl[ci]? = some (Cn, T, N)) (k : Nat) (hk : k < N) (hT : (T k).1 = Cn) (hlink : Cond.fieldLinkNest own index Cn (T k).2.1 (T k).2.2.1 host ∈ g_nest) {v : Value} (hv : fs[k]? = some v) (hdg : decode cc pc = .ok (.getfield index, 3))
    (kk : W p l e R s m args below meth c H locs cells slots Q (F0 m (pc + 3) ls (v :: rest))) : W p l e R s m args below meth c H locs cells slots Q (F0 m pc ls (.ref a :: rest)) :=
  va_getN C.1.1 C.1.2.1 C.1.2.2.2.2 hin C.1.2.2.2.1 C.2.1 X.1 q0 he hc k hk (va_Nw.use rfl (C.2.2.2.1 _ hlink)) (fun x h => by rw [hT] at h; exact h) hv hdg kk
theorem g_put {Cn : String} {T : u_T} {N ci index : Nat} {ty0 : Nat → FieldType} (C : g_C E A p s m args c cc nL own) (X : g_W E A s H locs ws) (hin : ∀ w ∈ u_ws Cn T N, w ∈ g_tbl) (hty : ∀ k, k < N → parseFieldDescriptor (T k).2.2.1 = some (ty0 k)) (hnm : ∀ a, a < N → ∀ b, b < N → a ≠ b → (T a).2.1 ≠ (T b).2.1) (q0 : Nat) {fs : List Value} (he : ws[q0]? = some (a, .inr (ci, fs))) (hc : vwCl[ci]? = some (Cn, T, N)) (k : Nat) (hk : k < N) (hT : (T k).1 = Cn) (hlink : Cond.fieldLink own index Cn (T k).2.1 (T k).2.2.1 ∈ g_tbl) (hfin : (T k).2.2.2 = false) {v : Value} (hn : narrow (ty0 k) v = v) (hfit : fits (ty0 k) v = true) (hl : k < fs.length) (hdg : decode cc pc = .ok (.putfield index, 3)) {ws2 : va_W} (hws : ws.set q0 (a, .inr (ci, fs.set k v)) = ws2)
    (kk : ∀ (H1 : Heap) (locs1 : List Loc), g_W E A s H1 locs1 ws2 → W p l e R s m args below meth c H1 locs1 cells slots Q (F0 m (pc + 3) ls rest)) : W p l e R s m args below meth c H locs cells slots Q (F0 m pc ls (v :: .ref a :: rest)) := by
  subst hws
  exact va_put C.1.1 C.1.2.1 C.1.2.2.2.2 hin ty0 hty hnm C.1.2.2.2.1 C.2.1 X.1 X.2.1 X.2.2 q0 he hc k hk (C.1.2.2.2.2 _ hlink) (fun x h => by rw [hT] at h; exact h) hfin (hty k hk) hn hfit hl hdg (fun H1 locs1 h1 h2 h3 => kk H1 locs1 ⟨h1, h2, h3⟩)
theorem g_putN {Cn host : String} {T : u_T} {N ci index : Nat} {ty0 : Nat → FieldType} (C : g_C E A p s m args c cc nL own) (X : g_W E A s H locs ws) (hin : ∀ w ∈ u_ws Cn T N, w ∈ g_tbl) (hty : ∀ k, k < N → parseFieldDescriptor (T k).2.2.1 = some (ty0 k)) (hnm : ∀ a, a < N → ∀ b, b < N → a ≠ b → (T a).2.1 ≠ (T b).2.1) (q0 : Nat) {fs : List Value} (he : ws[q0]? = some (a, .inr (ci, fs))) (hc : vwCl[ci]? = some (Cn, T, N)) (k : Nat) (hk : k < N) (hT : (T k).1 = Cn) (hlink : Cond.fieldLinkNest own index Cn (T k).2.1 (T k).2.2.1 host ∈ g_nest) (hfin : (T k).2.2.2 = false) {v : Value} (hn : narrow (ty0 k) v = v) (hfit : fits (ty0 k) v = true) (hl : k < fs.length) (hdg : decode cc pc = .ok (.putfield index, 3)) {ws2 : va_W} (hws : ws.set q0 (a, .inr (ci, fs.set k v)) = ws2)
    (kk : ∀ (H1 : Heap) (locs1 : List Loc), g_W E A s H1 locs1 ws2 → W p l e R s m args below meth c H1 locs1 cells slots Q (F0 m (pc + 3) ls rest)) : W p l e R s m args below meth c H locs cells slots Q (F0 m pc ls (v :: .ref a :: rest)) := by
  subst hws
  exact va_putN C.1.1 C.1.2.1 C.1.2.2.2.2 hin ty0 hty hnm C.1.2.2.2.1 C.2.1 X.1 X.2.1 X.2.2 q0 he hc k hk (va_Nw.use rfl (C.2.2.2.1 _ hlink)) (fun x h => by rw [hT] at h; exact h) hfin (hty k hk) hn hfit hl hdg (fun H1 locs1 h1 h2 h3 => kk H1 locs1 ⟨h1, h2, h3⟩)
theorem g_iald (C : g_C E A p s m args c cc nL own) (X : g_W E A s H locs ws) (q0 : Nat) {n : Nat} {f : Nat → Int32} (ha : ws[q0]? = some (a, .inl (E.2.1, n, .inl f))) {i : Int32} (hin : vp_in i n) {v : Int32} (hv : v = f i.toNatClampNeg) (hdg : decode cc pc = .ok (.iaload, 1))
    (kk : W p l e R s m args below meth c H locs cells slots Q (F0 m (pc + 1) ls (.int v :: rest))) : W p l e R s m args below meth c H locs cells slots Q (F0 m pc ls (.int i :: .ref a :: rest)) := by
  subst hv
  exact va_iald C.1.1 C.1.2.1 C.2.1 X.1 q0 0 ha rfl hin hdg kk
theorem g_lald (C : g_C E A p s m args c cc nL own) (X : g_W E A s H locs ws) (q0 : Nat) {n : Nat} {f : Nat → Int64} (ha : ws[q0]? = some (a, .inl (E.2.2.1, n, .inr (.inl f)))) {i : Int32} (hin : vp_in i n) {v : Int64} (hv : v = f i.toNatClampNeg) (hdg : decode cc pc = .ok (.laload, 1))
    (kk : W p l e R s m args below meth c H locs cells slots Q (F0 m (pc + 1) ls (.long v :: rest))) : W p l e R s m args below meth c H locs cells slots Q (F0 m pc ls (.int i :: .ref a :: rest)) := by
  subst hv
  exact va_lald C.1.1 C.1.2.1 C.2.1 X.1 q0 1 ha rfl hin hdg kk
theorem g_iast (C : g_C E A p s m args c cc nL own) (X : g_W E A s H locs ws) (q0 : Nat) {n : Nat} {f : Nat → Int32} (ha : ws[q0]? = some (a, .inl (E.2.1, n, .inl f))) {i x : Int32} (hin : vp_in i n) (hdg : decode cc pc = .ok (.iastore, 1)) {ws2 : va_W} (hws : ws.set q0 (a, .inl (E.2.1, n, .inl (upd f i.toNatClampNeg x))) = ws2)
    (kk : ∀ (H1 : Heap) (locs1 : List Loc), g_W E A s H1 locs1 ws2 → W p l e R s m args below meth c H1 locs1 cells slots Q (F0 m (pc + 1) ls rest)) : W p l e R s m args below meth c H locs cells slots Q (F0 m pc ls (.int x :: .int i :: .ref a :: rest)) := by
  subst hws
  exact va_iast C.1.1 C.1.2.1 C.2.1 X.1 X.2.1 X.2.2 q0 0 ha rfl hin hdg (fun H1 locs1 h1 h2 h3 => kk H1 locs1 ⟨h1, h2, h3⟩)
theorem g_last (C : g_C E A p s m args c cc nL own) (X : g_W E A s H locs ws) (q0 : Nat) {n : Nat} {f : Nat → Int64} (ha : ws[q0]? = some (a, .inl (E.2.2.1, n, .inr (.inl f)))) {i : Int32} {x : Int64} (hin : vp_in i n) (hdg : decode cc pc = .ok (.lastore, 1)) {ws2 : va_W} (hws : ws.set q0 (a, .inl (E.2.2.1, n, .inr (.inl (vp_updL f i.toNatClampNeg x)))) = ws2)
    (kk : ∀ (H1 : Heap) (locs1 : List Loc), g_W E A s H1 locs1 ws2 → W p l e R s m args below meth c H1 locs1 cells slots Q (F0 m (pc + 1) ls rest)) : W p l e R s m args below meth c H locs cells slots Q (F0 m pc ls (.long x :: .int i :: .ref a :: rest)) := by
  subst hws
  exact va_last C.1.1 C.1.2.1 C.2.1 X.1 X.2.1 X.2.2 q0 1 ha rfl hin hdg (fun H1 locs1 h1 h2 h3 => kk H1 locs1 ⟨h1, h2, h3⟩)
theorem g_ilen (C : g_C E A p s m args c cc nL own) (X : g_W E A s H locs ws) (q0 : Nat) {n : Nat} {f : Nat → Int32} (ha : ws[q0]? = some (a, .inl (E.2.1, n, .inl f))) {v : Int32} (hv : Int32.ofNat n = v) (hdg : decode cc pc = .ok (.arraylength, 1))
    (kk : W p l e R s m args below meth c H locs cells slots Q (F0 m (pc + 1) ls (.int v :: rest))) : W p l e R s m args below meth c H locs cells slots Q (F0 m pc ls (.ref a :: rest)) :=
  va_alen C.1.1 C.1.2.1 C.2.1 X.1 q0 0 ha rfl hv hdg kk
theorem g_llen (C : g_C E A p s m args c cc nL own) (X : g_W E A s H locs ws) (q0 : Nat) {n : Nat} {f : Nat → Int64} (ha : ws[q0]? = some (a, .inl (E.2.2.1, n, .inr (.inl f)))) {v : Int32} (hv : Int32.ofNat n = v) (hdg : decode cc pc = .ok (.arraylength, 1))
    (kk : W p l e R s m args below meth c H locs cells slots Q (F0 m (pc + 1) ls (.int v :: rest))) : W p l e R s m args below meth c H locs cells slots Q (F0 m pc ls (.ref a :: rest)) :=
  va_alen C.1.1 C.1.2.1 C.2.1 X.1 q0 1 ha rfl hv hdg kk
theorem g_rlen (C : g_C E A p s m args c cc nL own) (X : g_W E A s H locs ws) (q0 : Nat) {n : Nat} {f : Nat → Option Nat} (ha : ws[q0]? = some (a, .inl (E.2.2.2.1, n, .inr (.inr (.inr (.inr f)))))) {v : Int32} (hv : Int32.ofNat n = v) (hdg : decode cc pc = .ok (.arraylength, 1))
    (kk : W p l e R s m args below meth c H locs cells slots Q (F0 m (pc + 1) ls (.int v :: rest))) : W p l e R s m args below meth c H locs cells slots Q (F0 m pc ls (.ref a :: rest)) :=
  va_alen C.1.1 C.1.2.1 C.2.1 X.1 q0 2 ha rfl hv hdg kk
theorem g_tabIn (hexec : p.tables.exec = Jvm.exec) (hb : c.code = cc) {dflt lo hi : Int} {offs : Array Int} {len : Nat} {x kk : Int32} (hxk : x = kk) {off : Int} {tgt : Nat} (hdg : decode cc pc = .ok (.tableswitch dflt lo hi offs, len)) (h1 : ¬ kk.toInt < lo) (h2 : ¬ hi < kk.toInt) (ho : offs[(kk.toInt - lo).toNat]? = some off) (ht : (pc : Int) + off = (tgt : Int))
    (k : W p l e R s m args below meth c H locs cells slots Q (F0 m tgt ls rest)) : W p l e R s m args below meth c H locs cells slots Q (F0 m pc ls (.int x :: rest)) := by
  subst hxk
  exact lv_tableIn hexec hb hdg h1 h2 ho ht k
/-! calls -/
def g_KV (y : MethodName) (b : ByteArray) (n : Nat) (ret : Option FieldType) (k : Nat) : Prop := Cond.code y b n ret ∈ g_tbl ∧ Cond.instanceMethod y ∈ g_tbl ∧ Cond.selects y.cls y y ∈ g_tbl ∧ Cond.initialized y.cls ∈ g_tbl ∧ (y.cls ≠ "java/lang/invoke/MethodHandle" ∧ y.cls ≠ "java/lang/invoke/VarHandle" ∧ (parseMethodDescriptor y.desc).map (fun d => d.parameters.length) = some k)
def g_KS (y : MethodName) (b : ByteArray) (n : Nat) (ret : Option FieldType) (k : Nat) : Prop := Cond.code y b n ret ∈ g_tbl ∧ Cond.static y ∈ g_tbl ∧ Cond.initialized y.cls ∈ g_tbl ∧ (y.cls ≠ "java/lang/invoke/MethodHandle" ∧ y.cls ≠ "java/lang/invoke/VarHandle" ∧ (parseMethodDescriptor y.desc).map (fun d => d.parameters.length) = some k)
variable {y : MethodName} {b' : ByteArray} {n' k' index : Nat} {ret' : Option FieldType} {rm : Room} {As : List Value} {Pc : Array Value → State → Prop} {Qc : Array Value → State → Outcome → State → Prop} {mc ms : Nat} {T : u_T} {N : Nat} {fs : List Value} {st : List Value} {ws' : va_W}
theorem g_runV (C : g_C E A p s m args c cc nL own) (X : g_W E A s H locs ws) (hM : Met l y (.code y b' n' ret' :: g_tbl) rm (va_Pc (.ref a :: As) (g_at E A ws)) Qc rm.cells rm.slots A) (K : g_KV y b' n' ret' k') (hlink : Cond.methodLink own index y ∈ g_tbl) (q0 ci : Nat) (he : ws[q0]? = some (a, .inr (ci, fs))) (hc : vwCl[ci]? = some (y.cls, T, N)) (hl : ls.size = nL) (hn : As.length = k') (hR : rm.frames + 1 ≤ R.frames ∧ 8 + (n' + 11) + rm.locals ≤ R.locals) (hst : st = As.reverse ++ .ref a :: rest) (hre : (rest.map fun v => v.category).sum ≤ 8) (hdg : decode cc pc = .ok (.invokevirtual index, 3)) (hcs : cells + rm.cells ≤ R.cells ∧ slots + rm.slots ≤ R.slots) :
    va_Run p l e R s m args below meth c H locs cells slots rm.cells rm.slots (F0 m pc ls st) rest (Qc (Value.ref a :: As).toArray) A := by
  have hts := C.1.2.2.2.2
  exact va_runV (As := As) (rest := rest) C.1 hM ⟨callB_of k' hts (g_good K.1) rfl rfl rfl (hts _ K.2.2.2.1) (hts _ hlink) K.2.2.2.2 hR, hts _ K.2.1, hts _ K.2.2.1⟩ ⟨g_blind, va_recv C.2.1 X.1 hc he, fun U hU hW => ⟨rfl, g_at_call C X U hU hW⟩⟩ rfl hn hl hst (lv_room hre) hdg hcs
theorem g_runS (C : g_C E A p s m args c cc nL own) (X : g_W E A s H locs ws) (hM : Met l y (.code y b' n' ret' :: g_tbl) rm (va_Pc As (g_at E A ws)) Qc rm.cells rm.slots A) (K : g_KS y b' n' ret' k') (hlink : Cond.methodLink own index y ∈ g_tbl) (hl : ls.size = nL) (hn : As.length = k') (hR : rm.frames + 1 ≤ R.frames ∧ 8 + (n' + 11) + rm.locals ≤ R.locals) (hst : st = As.reverse ++ rest) (hre : (rest.map fun v => v.category).sum ≤ 8) (hdg : decode cc pc = .ok (.invokestatic index, 3)) (hcs : cells + rm.cells ≤ R.cells ∧ slots + rm.slots ≤ R.slots) :
    va_Run p l e R s m args below meth c H locs cells slots rm.cells rm.slots (F0 m pc ls st) rest (Qc As.toArray) A := by
  have hts := C.1.2.2.2.2
  exact va_runS (As := As) (rest := rest) C.1 hM ⟨callB_of k' hts (g_good K.1) rfl rfl rfl (hts _ K.2.2.1) (hts _ hlink) K.2.2.2 hR, hts _ K.2.1⟩ ⟨g_blind, fun U hU hW => ⟨rfl, g_at_call C X U hU hW⟩⟩ rfl hn hl hst (lv_room hre) hdg hcs
theorem g_runSN {host : String} (C : g_C E A p s m args c cc nL own) (X : g_W E A s H locs ws) (hM : Met l y (.code y b' n' ret' :: g_tbl) rm (va_Pc As (g_at E A ws)) Qc rm.cells rm.slots A) (K : g_KS y b' n' ret' k') (hlink : Cond.methodLinkNest own index y host ∈ g_nest) (hl : ls.size = nL) (hn : As.length = k') (hR : rm.frames + 1 ≤ R.frames ∧ 8 + (n' + 11) + rm.locals ≤ R.locals) (hst : st = As.reverse ++ rest) (hre : (rest.map fun v => v.category).sum ≤ 8) (hdg : decode cc pc = .ok (.invokestatic index, 3)) (hcs : cells + rm.cells ≤ R.cells ∧ slots + rm.slots ≤ R.slots) :
    va_Run p l e R s m args below meth c H locs cells slots rm.cells rm.slots (F0 m pc ls st) rest (Qc As.toArray) A := by
  have hts := C.1.2.2.2.2
  exact va_runSN (As := As) (rest := rest) C.1 hM ⟨va_cnB k' hts (g_good K.1) rfl rfl rfl (C.2.2.2.1 _ hlink) (hts _ K.2.2.1) K.2.2.2 hR, hts _ K.2.1, trivial⟩ ⟨g_blind, fun U hU hW => ⟨rfl, g_at_call C X U hU hW⟩⟩ rfl hn hl hst (lv_room hre) hdg hcs
theorem g_calli {a' : Array Value} {st : List Value} {r : Int32} (X : g_W E A s H locs ws) (hr : va_Run p l e R s m args below meth c H locs cells slots mc ms (F0 m pc ls st) rest (va_Qi (fun (r' : Int32) (u' : va_W) => r' = r ∧ u' = ws') (g_B E A) A a') A) (hmc : mc = 0) (hms : ms = 0)
    (kk : ∀ (H1 : Heap) (locs1 : List Loc), g_W E A s H1 locs1 ws' → W p l e R s m args below meth c H1 locs1 cells slots Q (F0 m (pc + 3) ls (.int r :: rest))) : W p l e R s m args below meth c H locs cells slots Q (F0 m pc ls st) := by
  subst hmc hms
  refine va_calli hr X.2.2 (fun q _ h => h) (fun q h => h) (fun r1 u t H1 locs1 ht hvm hw hB hz hk hS => ?_)
  obtain ⟨rfl, rfl⟩ := hw
  exact kk H1 locs1 ⟨by rw [← ht]; exact hB.1, hB.2, hS⟩
theorem g_calll {a' : Array Value} {st : List Value} {r : Int64} (X : g_W E A s H locs ws) (hr : va_Run p l e R s m args below meth c H locs cells slots mc ms (F0 m pc ls st) rest (va_Ql (fun (r' : Int64) (u' : va_W) => r' = r ∧ u' = ws') (g_B E A) A a') A) (hmc : mc = 0) (hms : ms = 0)
    (kk : ∀ (H1 : Heap) (locs1 : List Loc), g_W E A s H1 locs1 ws' → W p l e R s m args below meth c H1 locs1 cells slots Q (F0 m (pc + 3) ls (.long r :: rest))) : W p l e R s m args below meth c H locs cells slots Q (F0 m pc ls st) := by
  subst hmc hms
  refine va_calll hr X.2.2 (fun q _ h => h) (fun q h => h) (fun r1 u t H1 locs1 ht hvm hw hB hz hk hS => ?_)
  obtain ⟨rfl, rfl⟩ := hw
  exact kk H1 locs1 ⟨by rw [← ht]; exact hB.1, hB.2, hS⟩
theorem g_callv {a' : Array Value} {st : List Value} (X : g_W E A s H locs ws) (hr : va_Run p l e R s m args below meth c H locs cells slots mc ms (F0 m pc ls st) rest (va_Qv (fun (u' : va_W) => u' = ws') (g_B E A) A a') A) (hmc : mc = 0) (hms : ms = 0)
    (kk : ∀ (H1 : Heap) (locs1 : List Loc), g_W E A s H1 locs1 ws' → W p l e R s m args below meth c H1 locs1 cells slots Q (F0 m (pc + 3) ls rest)) : W p l e R s m args below meth c H locs cells slots Q (F0 m pc ls st) := by
  subst hmc hms
  refine va_callv hr X.2.2 (fun q _ h => h) (fun q h => h) (fun u t H1 locs1 ht hvm hw hB hz hk hS => ?_)
  subst hw
  exact kk H1 locs1 ⟨by rw [← ht]; exact hB.1, hB.2, hS⟩
end GK
end
