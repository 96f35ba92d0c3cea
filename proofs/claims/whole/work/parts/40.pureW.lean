/-! PURE 22: what holds between the two, and the acts as steps -/
abbrev AA : Type := LL ⊕ (Nat × Nat × Nat)
def EncA1 (v : RS) (i : Nat) : AA → Prop
  | .inl L => EncAt (v.2.1 6) (6 * i) L ∧ v.2.2 7 i = L.2.2.2.2.2.2 ∧ 1 ≤ L.1 ∧ L.1 ≤ 12
  | .inr c => v.2.1 6 (6 * i) = 13 ∧ v.2.1 6 (6 * i + 1) = nI c.1 ∧ v.2.1 6 (6 * i + 2) = nI c.2.1 ∧ v.2.1 6 (6 * i + 3) = nI c.2.2
def EncA (v : RS) : List AA → Prop
  | [] => True
  | A :: As => EncA1 v As.length A ∧ EncA v As
theorem EncA1.keep {v v' : RS} {i : Nat} {A : AA} (h6 : ∀ j, j < 6 * i + 6 → v'.2.1 6 j = v.2.1 6 j) (h7 : v'.2.2 7 i = v.2.2 7 i) (h : EncA1 v i A) : EncA1 v' i A := by
  cases A with
  | inl L =>
    obtain ⟨⟨a0, a1, a2, a3, a4, a5⟩, b, c⟩ := h
    exact ⟨⟨(h6 _ (by omega)).trans a0, (h6 _ (by omega)).trans a1, (h6 _ (by omega)).trans a2, (h6 _ (by omega)).trans a3, (h6 _ (by omega)).trans a4, (h6 _ (by omega)).trans a5⟩, h7.trans b, c⟩
  | inr c =>
    obtain ⟨a0, a1, a2, a3⟩ := h
    exact ⟨(h6 _ (by omega)).trans a0, (h6 _ (by omega)).trans a1, (h6 _ (by omega)).trans a2, (h6 _ (by omega)).trans a3⟩
theorem EncA.keep {v v' : RS} : ∀ {As : List AA}, (∀ j, j < 6 * As.length → v'.2.1 6 j = v.2.1 6 j) → (∀ j, j < As.length → v'.2.2 7 j = v.2.2 7 j) → EncA v As → EncA v' As := by
  intro As
  induction As with
  | nil => intro _ _ _; trivial
  | cons A As ih =>
    intro h6 h7 h
    simp only [List.length_cons] at h6 h7
    exact ⟨h.1.keep (fun j hj => h6 j (by omega)) (h7 _ (by omega)), ih (fun j hj => h6 j (by omega)) (fun j hj => h7 j (by omega)) h.2⟩
def StepA (Ls : List LL) : AA → GH → GH → Prop
  | .inl L, M, M' => ∃ r y, SR (doR L) M r y M'
  | .inr c, M, M' => ∀ v, gM v = M → EncL v Ls → ∃ r v' y', fR_carried v (nI c.1) (nI c.2.1) (nI c.2.2) = some (r, v') ∧ RSt v v' y' M'
def M00 : GH := (fun _ => 0, fun _ => 0)
def Z0 (M : GH) : Prop := (∀ i, 557 ≤ i → M.1 i = 0) ∧ ∀ i, 720 ≤ i → M.2 i = 0
theorem Z0.ext {M M' : GH} (h : Z0 M) (e : Ext M M') : Z0 M' := ⟨fun i hi => (e.2.1 i hi).trans (h.1 i hi), fun i hi => (e.2.2 i hi).trans (h.2 i hi)⟩
def HC (E : g_Env) (Ls : List LL) (rs : va_W) : List AA → Option Nat → GH → Prop
  | [], _, M => M = M00
  | A :: As, lat, M => ∃ (M1 : GH) (q q1 q2 N : Nat) (e0 : Option Nat) (f0 : Nat → Int32) (g0 : Nat → Int64), WF M1 ∧ Z0 M1 ∧ lat = some q ∧ (q, .inr (1, [.int (nI N), .ref q1, .ref q2, va_rf e0])) ∈ rs ∧ (q1, .inl (E.2.1, N, .inl f0)) ∈ rs ∧ (q2, .inl (E.2.2.1, N, .inr (.inl g0))) ∈ rs ∧ RestP N f0 g0 M M1 ∧ StepA Ls A M1 M ∧ HC E Ls rs As e0 M1
theorem HC.mono {E : g_Env} {Ls : List LL} {rs rs' : va_W} (h : ∀ x, x ∈ rs → x ∈ rs') : ∀ {As : List AA} {lat : Option Nat} {M : GH}, HC E Ls rs As lat M → HC E Ls rs' As lat M := by
  intro As
  induction As with
  | nil => intro lat M hh; exact hh
  | cons A As ih =>
    intro lat M hh
    obtain ⟨M1, q, q1, q2, N, e0, f0, g0, a1, a2, a3, a4, a5, a6, a7, a8, a9⟩ := hh
    exact ⟨M1, q, q1, q2, N, e0, f0, g0, a1, a2, a3, h _ a4, h _ a5, h _ a6, a7, a8, ih a9⟩
theorem EncL.app {v : RS} {Ls : List LL} {L : LL} (h : EncL v (Ls ++ [L])) : EncL v Ls := fun i K hi => h i K (by rw [List.getElem?_append_left (List.getElem?_eq_some_iff.mp hi).1]; exact hi)
theorem StepA.app {Ls : List LL} {L : LL} {A : AA} {M M' : GH} (h : StepA Ls A M M') : StepA (Ls ++ [L]) A M M' := by
  cases A with
  | inl K => exact h
  | inr c => exact fun v hv he => h v hv he.app
theorem HC.app {E : g_Env} {Ls : List LL} {L : LL} {rs : va_W} : ∀ {As : List AA} {lat : Option Nat} {M : GH}, HC E Ls rs As lat M → HC E (Ls ++ [L]) rs As lat M := by
  intro As
  induction As with
  | nil => intro lat M hh; exact hh
  | cons A As ih =>
    intro lat M hh
    obtain ⟨M1, q, q1, q2, N, e0, f0, g0, a1, a2, a3, a4, a5, a6, a7, a8, a9⟩ := hh
    exact ⟨M1, q, q1, q2, N, e0, f0, g0, a1, a2, a3, a4, a5, a6, a7, a8.app, ih a9⟩
def InvC (E : g_Env) (n : Nat) (M : GH) (Ls : List LL) (As : List AA) (fr sz : Nat) (v : RS) (w : CS) : Prop :=
  (WF M ∧ Z0 M ∧ gM v = M ∧ Rel (w.2.1 2) M ∧ Rel (w.2.1 3) M) ∧
  (v.1 15 = w.1 0 ∧ v.1 8 = nI As.length ∧ w.1 1 = nI As.length ∧ As.length ≤ n) ∧
  (v.1 14 = w.1 4 ∧ (v.1 14 = 0 ∨ (v.1 14 = 1 ∧ fr + sz = Ls.length))) ∧
  (v.1 11 = nI Ls.length ∧ Ls.length ≤ n ∧ v.1 12 = nI fr ∧ v.1 13 = nI sz ∧ sz ≤ 16 ∧ fr + sz ≤ Ls.length) ∧
  EncL v Ls ∧ EncA v As ∧ okLs Ls ∧ SheetC w Ls fr sz ∧ HC E Ls w.2.2.2.2.2 As w.2.2.2.1 M
def Inv (E : g_Env) (n : Nat) (v : RS) (w : CS) : Prop := ∃ (M : GH) (Ls : List LL) (As : List AA) (fr sz : Nat), InvC E n M Ls As fr sz v w
/-- nothing but the reason changed -/
def RW (v v' : RS) (y : Int32) : Prop := v'.1 = va_up v.1 15 y ∧ gM v' = gM v ∧ v'.2.1 6 = v.2.1 6 ∧ v'.2.1 9 = v.2.1 9 ∧ v'.2.2 7 = v.2.2 7 ∧ v'.2.2 10 = v.2.2 10
theorem Inv.same {E : g_Env} {n : Nat} {v v' : RS} {w w' : CS} {y : Int32} (h : Inv E n v w) (hR : RW v v' y) (hC : CSt w w' y (gM v)) : Inv E (n + 1) v' w' := by
  obtain ⟨M, Ls, As, fr, sz, ⟨a1, a2, a3, a4, a5⟩, ⟨b1, b2, b3, b4⟩, ⟨c1, c2⟩, ⟨d1, d2, d3, d4, d5, d6⟩, e1, e2, e3, e4, e5⟩ := h
  obtain ⟨r1, r2, r3, r4, r5, r6⟩ := hR
  obtain ⟨s1, s2, s3, s4, s5⟩ := id hC
  have rs : ∀ k, k ≠ 15 → v'.1 k = v.1 k := fun k hk => by rw [r1, up_ne _ _ hk]
  refine ⟨M, Ls, As, fr, sz, ⟨a1, a2, r2.trans a3, by rw [a3] at s3; exact s3, by rw [s4]; exact a5⟩, ⟨by rw [r1, up_same, s1], (rs 8 (by decide)).trans b2, (s2 1 (by decide) (by decide)).trans b3, by omega⟩, ⟨by rw [rs 14 (by decide), s2 4 (by decide) (by decide)]; exact c1, by rw [rs 14 (by decide)]; exact c2⟩, ⟨(rs 11 (by decide)).trans d1, by omega, (rs 12 (by decide)).trans d3, (rs 13 (by decide)).trans d4, d5, d6⟩, ?_, ?_, e3, hC.sheet e4, ?_⟩
  · intro i L hi
    rw [r4, r6]
    exact e1 i L hi
  · exact e2.keep (fun j _ => by rw [r3]) (fun j _ => by rw [r5])
  · rw [s5]; exact e5
theorem RSt.rw {v v' : RS} {y : Int32} (h : RSt v v' y (gM v)) : RW v v' y := ⟨h.1, h.g, h.ar (by decide), h.ar (by decide), h.2.2.2 7 (by decide) (by decide), h.2.2.2 10 (by decide) (by decide)⟩
theorem sheet_mono {w w' : CS} {Ls : List LL} {fr sz : Nat} (h : SheetC w Ls fr sz) (h3 : w'.1 3 = w.1 3) (hl : w'.2.2.2.2.1 = w.2.2.2.2.1) (hp : ∀ x, x ∈ w.2.2.2.2.2 → x ∈ w'.2.2.2.2.2) : SheetC w' Ls fr sz := by
  refine ⟨h3.trans h.1, fun i L hi hL => ?_⟩
  obtain ⟨q, a, b⟩ := h.2 i L hi hL
  exact ⟨q, by rw [hl]; exact a, hp _ b⟩
/-- an act is kept, on both sides -/
theorem keep_core {E : g_Env} {n : Nat} {M M' : GH} {Ls : List LL} {As : List AA} {fr sz : Nat} {v v2 : RS} {w w1 : CS} {y : Int32} {x : Int64} (A : AA) (h : InvC E n M Ls As fr sz v w) (hn : n < 512) (hw' : WF M') (hE : Ext M M')
    (r1 : v2.1 = va_up v.1 15 y) (r2 : gM v2 = M') (r3 : v2.2.1 6 = v.2.1 6) (r4 : v2.2.1 9 = v.2.1 9) (r5 : v2.2.2 7 = v.2.2 7) (r6 : v2.2.2 10 = v.2.2 10)
    (hC : CSt w w1 y M') (hA : ∀ v3 : RS, (∀ j, j < 6 → v3.2.1 6 (6 * As.length + j) = v2.2.1 17 j) → v3.2.2 7 As.length = x → EncA1 v3 As.length A)
    (hS : StepA Ls A M M') (res : Int32) :
    ∃ v3, fR_keepAct v2 x = some v3 ∧ ∀ Q : Int32 → CS → Prop, (∀ w3, Inv E (n + 1) v3 w3 → Q res w3) → wC__keep E Q w1 res := by
  obtain ⟨⟨a1, a2, a3, a4, a5⟩, ⟨b1, b2, b3, b4⟩, ⟨c1, c2⟩, ⟨d1, d2, d3, d4, d5, d6⟩, e1, e2, e3, e4, e5⟩ := h
  obtain ⟨s1, s2, s3, s4, s5⟩ := id hC
  have rs : ∀ k, k ≠ 15 → v2.1 k = v.1 k := fun k hk => by rw [r1, up_ne _ _ hk]
  obtain ⟨f', k1, k2, k3⟩ := R_keepAct v2 x ((rs 8 (by decide)).trans b2) (show As.length ≤ 511 by omega)
  refine ⟨_, k1, fun Q hQ => ?_⟩
  refine ⟨(0, w1), ?_, ?_⟩
  · unfold fC_S_isHistoryFull
    rw [s2 1 (by decide) (by decide), b3, if_pos (show nI As.length < 512 from nI_lt (a := As.length) (b := 512) (by omega) (by decide))]
  · rw [if_pos (show ((0 : Int32), w1).1 = 0 from rfl)]
    show wC_S_keepAct E (fun w28 => Q res w28) w1
    refine C_keepAct E a1 hw' hE.1 w1 s3 (by rw [s4]; exact a5) _ (fun q q1 q2 N s2' f2 g2 hs2 hP => hQ _ ?_)
    generalize hw3 : cK3 E q q1 q2 (nI N) w1.2.2.2.1 (cI (cLat (cS w1 s2') (some q)) 1 (w1.1 1 + 1), f2, g2) = w3
    have eN : (nI N).toNatClampNeg = N := nI_clamp (by have := hP.1; omega)
    have p1 : ∀ k, k ≠ 1 → w3.1 k = w1.1 k := fun k hk => by rw [← hw3]; show va_up w1.1 1 (w1.1 1 + 1) k = _; exact up_ne _ _ hk
    have p1' : w3.1 1 = w1.1 1 + 1 := by rw [← hw3]; show va_up w1.1 1 (w1.1 1 + 1) 1 = _; exact up_same _ _ _
    have p2 : w3.2.1 2 = w1.2.1 2 := by rw [← hw3]; exact cS_get2 w1 s2'
    have p3 : w3.2.1 3 = s2' := by rw [← hw3]; exact cS_get3 w1 s2'
    have p4 : w3.2.2.2.1 = some q := by rw [← hw3]; rfl
    have p5 : w3.2.2.2.2.1 = w.2.2.2.2.1 := by rw [← hw3]; show w1.2.2.2.2.1 = _; rw [s5]
    have p6 : w3.2.2.2.2.2 = ((w.2.2.2.2.2 ++ [(q, .inr (1, [.int (nI N), .ref q1, .ref q2, va_rf w.2.2.2.1]))]) ++ [(q1, .inl (E.2.1, N, .inl f2))]) ++ [(q2, .inl (E.2.2.1, N, .inr (.inl g2)))] := by
      rw [← hw3]
      show ((w1.2.2.2.2.2 ++ [(q, .inr (1, [.int (nI N), .ref q1, .ref q2, va_rf w1.2.2.2.1]))]) ++ [(q1, .inl (E.2.1, (nI N).toNatClampNeg, .inl f2))]) ++ [(q2, .inl (E.2.2.1, (nI N).toNatClampNeg, .inr (.inl g2)))] = _
      rw [s5, eN]
    have hmem : ∀ z, z ∈ w.2.2.2.2.2 → z ∈ w3.2.2.2.2.2 := fun z hz => by rw [p6]; exact List.mem_append_left _ (List.mem_append_left _ (List.mem_append_left _ hz))
    refine ⟨M', Ls, A :: As, fr, sz, ⟨hw', a2.ext hE, ?_, by rw [p2]; exact s3, by rw [p3]; exact hs2⟩, ⟨?_, ?_, ?_, ?_⟩, ⟨?_, ?_⟩, ⟨?_, by omega, ?_, ?_, d5, d6⟩, ?_, ⟨?_, ?_⟩, e3, ?_, ?_⟩
    · rw [← r2]
      show (va_up v2.2.1 6 f' 2, va_up v2.2.2 7 (vp_updL (v2.2.2 7) As.length x) 3) = _
      rw [up_ne _ _ (by decide), up_ne _ _ (by decide)]
      rfl
    · show va_up v2.1 8 (nI (As.length + 1)) 15 = _
      rw [up_ne _ _ (by decide), r1, up_same, p1 0 (by decide), s1]
    · show va_up v2.1 8 (nI (As.length + 1)) 8 = _
      rw [up_same]
      rfl
    · rw [p1', s2 1 (by decide) (by decide), b3, nI_1]
      rfl
    · simp only [List.length_cons]; omega
    · show va_up v2.1 8 (nI (As.length + 1)) 14 = _
      rw [up_ne _ _ (by decide), rs 14 (by decide), p1 4 (by decide), s2 4 (by decide) (by decide)]
      exact c1
    · show va_up v2.1 8 (nI (As.length + 1)) 14 = 0 ∨ (va_up v2.1 8 (nI (As.length + 1)) 14 = 1 ∧ _)
      rw [up_ne _ _ (by decide), rs 14 (by decide)]
      exact c2
    · show va_up v2.1 8 (nI (As.length + 1)) 11 = _
      rw [up_ne _ _ (by decide), rs 11 (by decide)]
      exact d1
    · show va_up v2.1 8 (nI (As.length + 1)) 12 = _
      rw [up_ne _ _ (by decide), rs 12 (by decide)]
      exact d3
    · show va_up v2.1 8 (nI (As.length + 1)) 13 = _
      rw [up_ne _ _ (by decide), rs 13 (by decide)]
      exact d4
    · intro i L hi
      show EncAt (va_up v2.2.1 6 f' 9) (6 * i) L ∧ va_up v2.2.2 7 (vp_updL (v2.2.2 7) As.length x) 10 i = _
      rw [up_ne _ _ (by decide), up_ne _ _ (by decide), r4, r6]
      exact e1 i L hi
    · refine hA _ (fun j hj => ?_) ?_
      · show va_up v2.2.1 6 f' 6 _ = _
        rw [up_same]
        exact k2 j hj
      · show va_up v2.2.2 7 (vp_updL (v2.2.2 7) As.length x) 7 As.length = x
        rw [up_same, updL_same]
    · refine e2.keep (fun j hj => ?_) (fun j hj => ?_)
      · show va_up v2.2.1 6 f' 6 j = _
        rw [up_same, k3 j (by omega), r3]
      · show va_up v2.2.2 7 (vp_updL (v2.2.2 7) As.length x) 7 j = _
        rw [up_same, updL_ne _ _ (by omega), r5]
    · exact sheet_mono e4 ((p1 3 (by decide)).trans (s2 3 (by decide) (by decide))) p5 hmem
    · rw [p4]
      refine ⟨M, q, q1, q2, N, w.2.2.2.1, f2, g2, a1, a2, rfl, ?_, ?_, ?_, hP, hS, e5.mono hmem⟩
      · rw [p6]; exact List.mem_append_left _ (List.mem_append_left _ (List.mem_append_right _ (List.mem_singleton.mpr rfl)))
      · rw [p6]; exact List.mem_append_left _ (List.mem_append_right _ (List.mem_singleton.mpr rfl))
      · rw [p6]; exact List.mem_append_right _ (List.mem_singleton.mpr rfl)
