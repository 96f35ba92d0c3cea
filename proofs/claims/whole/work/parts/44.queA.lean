/-! PURE 26: what tells -/
theorem sI_sI (v : RS) (k : Nat) (a b : Int32) : sI (sI v k a) k b = sI v k b := by
  show (va_up (va_up v.1 k a) k b, v.2) = _
  rw [bx_uu]
  rfl
theorem cI_cI (w : CS) (k : Nat) (a b : Int32) : cI (cI w k a) k b = cI w k b := by
  show (va_up (va_up w.1 k a) k b, w.2) = _
  rw [bx_uu]
  rfl
def Q2 {α : Type} (F : RS → Option (α × RS)) (G : CS → Option (α × CS)) (M : GH) : Prop := ∃ r y, (∀ v, gM v = M → F v = some (r, sI v 15 y)) ∧ (∀ w, Rel (w.2.1 2) M → G w = some (r, cI w 0 y))
theorem stF_Q {E : g_Env} {n : Nat} {v : RS} {w : CS} (hI : Inv E n v w) {F : RS → Option (Int32 × RS)} {G : CS → Option (Int32 × CS)} (h : Q2 F G (gM v)) : stF (Inv E (n + 1)) (F v) (G w) := by
  obtain ⟨r, y, h1, h2⟩ := h
  exact ⟨r, sI v 15 y, cI w 0 y, h1 v rfl, h2 w hI.g.2.1, hI.ref y⟩
theorem stL_Q {E : g_Env} {n : Nat} {v : RS} {w : CS} (hI : Inv E n v w) {F : RS → Option (Int64 × RS)} {G : CS → Option (Int64 × CS)} (h : Q2 F G (gM v)) : stL (Inv E (n + 1)) (F v) (G w) := by
  obtain ⟨r, y, h1, h2⟩ := h
  exact ⟨r, sI v 15 y, cI w 0 y, h1 v rfl, h2 w hI.g.2.1, hI.ref y⟩
theorem Inv.skip {E : g_Env} {n : Nat} {v : RS} {w : CS} (h : Inv E n v w) : Inv E (n + 1) v w := by
  obtain ⟨M, Ls, As, fr, sz, a, ⟨b1, b2, b3, b4⟩, c, ⟨d1, d2, d3⟩, e⟩ := h
  exact ⟨M, Ls, As, fr, sz, a, ⟨b1, b2, b3, by omega⟩, c, ⟨d1, by omega, d3⟩, e⟩
theorem step_why {E : g_Env} {n : Nat} {v : RS} {w : CS} (hI : Inv E n v w) : stF (Inv E (n + 1)) (fR_why v) (fC__why w) := by
  refine ⟨v.1 15, v, w, rfl, ?_, hI.skip⟩
  rw [hI.g.2.2.2]
  rfl
theorem step_acts {E : g_Env} {n : Nat} {v : RS} {w : CS} (hI : Inv E n v w) : stF (Inv E (n + 1)) (fR_acts v) (fC__acts w) := by
  obtain ⟨M, Ls, As, fr, sz, a, ⟨b1, b2, b3, b4⟩, -⟩ := id hI
  refine ⟨nI As.length, sI v 15 0, cI w 0 0, ?_, ?_, hI.ref 0⟩
  · unfold fR_acts
    rw [g_let_eq, show (sI v 15 0).1 8 = v.1 8 from (by show va_up v.1 15 0 8 = _; exact up_ne _ _ (by decide)), b2]
  · unfold fC__acts
    rw [g_let_eq, show (cI w 0 0).1 1 = w.1 1 from (by show va_up w.1 0 0 1 = _; exact up_ne _ _ (by decide)), b3]
theorem step_begin {E : g_Env} {n : Nat} {v : RS} {w : CS} (hI : Inv E n v w) : stF (Inv E (n + 1)) (fR_begin v) (fC__begin w) := by
  obtain ⟨M, Ls, As, fr, sz, ⟨a1, a2, a3, a4, a5⟩, ⟨b1, b2, b3, b4⟩, ⟨c1, c2⟩, ⟨d1, d2, d3, d4, d5, d6⟩, e1, e2, e3, e4, e5⟩ := id hI
  by_cases hrec : v.1 14 = 0
  · refine ⟨1, sI (sI (sI (sI v 14 1) 12 (nI Ls.length)) 13 0) 15 0, cI (cI (cI w 0 0) 3 0) 4 1, ?_, ?_, ?_⟩
    · unfold fR_begin
      rw [if_pos hrec, g_let_eq, show (sI v 14 1).1 11 = nI Ls.length from (by show va_up v.1 14 1 11 = _; rw [up_ne _ _ (by decide)]; exact d1)]
      rfl
    · unfold fC__begin
      rw [if_pos (by rw [← c1]; exact hrec)]
      rfl
    · have rs : ∀ k, k ≠ 12 → k ≠ 13 → k ≠ 14 → k ≠ 15 → (sI (sI (sI (sI v 14 1) 12 (nI Ls.length)) 13 0) 15 0).1 k = v.1 k := fun k h2 h3 h4 h5 => by
        show va_up (va_up (va_up (va_up v.1 14 1) 12 (nI Ls.length)) 13 0) 15 0 k = _
        rw [up_ne _ _ h5, up_ne _ _ h3, up_ne _ _ h2, up_ne _ _ h4]
      have ws : ∀ k, k ≠ 0 → k ≠ 3 → k ≠ 4 → (cI (cI (cI w 0 0) 3 0) 4 1).1 k = w.1 k := fun k h0 h3 h4 => by
        show va_up (va_up (va_up w.1 0 0) 3 0) 4 1 k = _
        rw [up_ne _ _ h4, up_ne _ _ h3, up_ne _ _ h0]
      refine ⟨M, Ls, As, Ls.length, 0, ⟨a1, a2, a3, a4, a5⟩, ⟨?_, (rs 8 (by decide) (by decide) (by decide) (by decide)).trans b2, (ws 1 (by decide) (by decide) (by decide)).trans b3, by omega⟩, ⟨?_, Or.inr ⟨?_, rfl⟩⟩, ⟨(rs 11 (by decide) (by decide) (by decide) (by decide)).trans d1, by omega, ?_, ?_, by omega, by omega⟩, e1, EncA.keep (v := v) (fun _ _ => rfl) (fun _ _ => rfl) e2, e3, ⟨?_, fun i L hi _ => absurd hi (by omega)⟩, e5⟩
      · show va_up (va_up (va_up (va_up v.1 14 1) 12 (nI Ls.length)) 13 0) 15 0 15 = va_up (va_up (va_up w.1 0 0) 3 0) 4 1 0
        rw [up_same, up_ne _ _ (by decide), up_ne _ _ (by decide), up_same]
      · show va_up (va_up (va_up (va_up v.1 14 1) 12 (nI Ls.length)) 13 0) 15 0 14 = va_up (va_up (va_up w.1 0 0) 3 0) 4 1 4
        rw [up_ne _ _ (by decide), up_ne _ _ (by decide), up_ne _ _ (by decide), up_same, up_same]
      · show va_up (va_up (va_up (va_up v.1 14 1) 12 (nI Ls.length)) 13 0) 15 0 14 = 1
        rw [up_ne _ _ (by decide), up_ne _ _ (by decide), up_ne _ _ (by decide), up_same]
      · show va_up (va_up (va_up (va_up v.1 14 1) 12 (nI Ls.length)) 13 0) 15 0 12 = _
        rw [up_ne _ _ (by decide), up_ne _ _ (by decide), up_same]
      · show va_up (va_up (va_up (va_up v.1 14 1) 12 (nI Ls.length)) 13 0) 15 0 13 = _
        rw [up_ne _ _ (by decide), up_same]
        rfl
      · show va_up (va_up (va_up w.1 0 0) 3 0) 4 1 3 = _
        rw [up_ne _ _ (by decide), up_same]
        rfl
  · refine ⟨0, sI v 15 7, cI w 0 7, ?_, ?_, hI.ref 7⟩
    · unfold fR_begin; rw [if_neg hrec]; rfl
    · unfold fC__begin; rw [if_neg (by rw [← c1]; exact hrec)]; rfl
theorem step_end {E : g_Env} {n : Nat} {v : RS} {w : CS} (hI : Inv E n v w) : stF (Inv E (n + 1)) (fR_end v) (fC__end w) := by
  obtain ⟨M, Ls, As, fr, sz, ⟨a1, a2, a3, a4, a5⟩, ⟨b1, b2, b3, b4⟩, ⟨c1, c2⟩, ⟨d1, d2, d3, d4, d5, d6⟩, e1, e2, e3, e4, e5⟩ := id hI
  by_cases hrec : v.1 14 = 0
  · refine ⟨0, sI v 15 7, cI w 0 7, ?_, ?_, hI.ref 7⟩
    · unfold fR_end; rw [if_pos hrec]; rfl
    · unfold fC__end; rw [if_pos (by rw [← c1]; exact hrec)]; rfl
  · have rs : ∀ k, k ≠ 14 → k ≠ 15 → (sI (sI v 14 0) 15 0).1 k = v.1 k := fun k h4 h5 => by
      show va_up (va_up v.1 14 0) 15 0 k = _
      rw [up_ne _ _ h5, up_ne _ _ h4]
    have ws : ∀ k, k ≠ 0 → k ≠ 4 → (cI (cI w 0 0) 4 0).1 k = w.1 k := fun k h0 h4 => by
      show va_up (va_up w.1 0 0) 4 0 k = _
      rw [up_ne _ _ h4, up_ne _ _ h0]
    refine ⟨nI sz, sI (sI v 14 0) 15 0, cI (cI w 0 0) 4 0, ?_, ?_, ?_⟩
    · unfold fR_end
      rw [if_neg hrec, g_let_eq, g_let_eq, rs 13 (by decide) (by decide), d4]
    · unfold fC__end
      rw [if_neg (by rw [← c1]; exact hrec), g_let_eq, g_let_eq, ws 3 (by decide) (by decide), e4.1]
    · refine ⟨M, Ls, As, fr, sz, ⟨a1, a2, a3, a4, a5⟩, ⟨?_, (rs 8 (by decide) (by decide)).trans b2, (ws 1 (by decide) (by decide)).trans b3, by omega⟩, ⟨?_, Or.inl ?_⟩, ⟨(rs 11 (by decide) (by decide)).trans d1, by omega, (rs 12 (by decide) (by decide)).trans d3, (rs 13 (by decide) (by decide)).trans d4, d5, d6⟩, e1, EncA.keep (v := v) (fun _ _ => rfl) (fun _ _ => rfl) e2, e3, sheet_mono e4 (ws 3 (by decide) (by decide)) rfl (fun _ h => h), e5⟩
      · show va_up (va_up v.1 14 0) 15 0 15 = va_up (va_up w.1 0 0) 4 0 0
        rw [up_same, up_ne _ _ (by decide), up_same]
      · show va_up (va_up v.1 14 0) 15 0 14 = va_up (va_up w.1 0 0) 4 0 4
        rw [up_ne _ _ (by decide), up_same, up_same]
      · show va_up (va_up v.1 14 0) 15 0 14 = 0
        rw [up_ne _ _ (by decide), up_same]
theorem q_ask {M : GH} (hM : WF M) (s x : Int32) : Q2 (fun v => fR_ask v s x) (fun w => fC__ask w s x) M := by
  have h60 := hM.1.1
  rcases shelf_cases s with hs | ⟨j, hj, rfl⟩
  · refine ⟨0, 1, fun v hv => ?_, fun w hr => ?_⟩
    · simp only [fR_ask, g_let_eq, fR_whenUnder, R_sh_f _ hs, Option.bind_some, if_true, R_ref, sI_sI]
    · simp only [fC__ask, fC__askWhether, g_let_eq, C_sh_f _ hs, Option.bind_some, if_true, C_ref, cI_cI]
  rcases kind_cases x with hx | ⟨o, ho, rfl⟩
  · refine ⟨0, 1, fun v hv => ?_, fun w hr => ?_⟩
    · by_cases h2 : x < 0
      · simp only [fR_ask, g_let_eq, fR_whenUnder, R_sh_t _ hj, Option.bind_some, i10, if_false, if_pos h2, R_ref, sI_sI]
      · simp only [fR_ask, g_let_eq, fR_whenUnder, R_sh_t _ hj, Option.bind_some, i10, if_false, if_neg h2, if_neg ((le24 hx).resolve_left h2), R_ref, sI_sI]
    · simp only [fC__ask, fC__askWhether, g_let_eq, C_sh_t _ hj, C_kind_f _ hx, Option.bind_some, i10, if_false, if_true, C_ref, cI_cI]
  rcases shelfM hM hj with h0 | ⟨p, hp, hpt⟩
  · refine ⟨0, 0, fun v hv => ?_, fun w hr => ?_⟩
    · have hv : gM (sI v 15 0) = M := hv
      simp only [fR_ask, g_let_eq, fR_whenUnder, R_sh_t _ hj, Option.bind_some, i10, if_false, nIneg (show o < 2 ^ 31 by omega), if_pos (nIle24 ho), R_on0 hM _ hv hj h0, m1neg, if_true]
    · simp only [fC__ask, fC__askWhether, g_let_eq, C_sh_t _ hj, C_kind_t _ ho, Option.bind_some, i10, if_false, C_on0 hM (cI w 0 0) hr hj h0, C_isIn_n, if_true]
  have k1 := (hM.2.2.1 p hpt).1
  have hb := mkBit ⟨o, ho⟩ ⟨_, k1⟩
  refine ⟨b2 (under (kd M p) o), 0, fun v hv => ?_, fun w hr => ?_⟩
  · have hv : gM (sI v 15 0) = M := hv
    simp only [fR_ask, g_let_eq, fR_whenUnder, R_sh_t _ hj, Option.bind_some, i10, if_false, nIneg (show o < 2 ^ 31 by omega), if_pos (nIle24 ho), R_on1 hM _ hv hj hp, nIneg (show p < 2 ^ 31 by omega), R_kd hM _ hv hpt, R_isUnder _ k1 ho]
    cases under (kd M p) o <;> rfl
  · simp only [fC__ask, fC__askWhether, g_let_eq, C_sh_t _ hj, C_kind_t _ ho, Option.bind_some, i10, if_false, C_on1 hM (cI w 0 0) hr hj hp, C_isInM (cI w 0 0) hr hM _ hpt]
    cases hu : under (kd M p) o
    · simp only [if_pos (hb.mpr hu), if_true, Option.bind_some]; rfl
    · simp only [if_neg (mt hb.mp (by rw [hu]; decide)), i10, if_false, Option.bind_some]; rfl
