/-! PURE 23: an act done, an act noted down -/
theorem EncAt.mv {f g : Nat → Int32} {i : Nat} {L : LL} (h : ∀ j, j < 6 → f (i + j) = g j) (e : EncAt g 0 L) : EncAt f i L := by
  obtain ⟨a0, a1, a2, a3, a4, a5⟩ := e
  exact ⟨(h 0 (by decide)).trans a0, (h 1 (by decide)).trans a1, (h 2 (by decide)).trans a2, (h 3 (by decide)).trans a3, (h 4 (by decide)).trans a4, (h 5 (by decide)).trans a5⟩
theorem sB17_g (v : RS) (f : Nat → Int32) : gM (sB v 17 f) = gM v := by
  show (va_up v.2.1 17 f 2, v.2.2 3) = _
  rw [up_ne _ _ (by decide)]
  rfl
theorem Inv.pool {E : g_Env} {n : Nat} {v : RS} {w : CS} (x : Nat × va_E) (h : Inv E n v w) : Inv E n v (cN w x) := by
  obtain ⟨M, Ls, As, fr, sz, a, b, c, d, e1, e2, e3, e4, e5⟩ := h
  have hm : ∀ z, z ∈ w.2.2.2.2.2 → z ∈ (cN w x).2.2.2.2.2 := fun z hz => List.mem_append_left _ hz
  exact ⟨M, Ls, As, fr, sz, a, b, c, d, e1, e2, e3, sheet_mono e4 rfl rfl hm, e5.mono hm⟩
theorem step_do {E : g_Env} {n : Nat} {v : RS} {w : CS} (hI : Inv E n v w) (hn : n < 512) (L : LL) (h1 : 1 ≤ L.1) (h2 : L.1 ≤ 12) (hrec : v.1 14 = 0) : stW (Inv E (n + 1)) (fR_called v (nI L.1) L.2.1 L.2.2.1 L.2.2.2.1 L.2.2.2.2.1 L.2.2.2.2.2.1 L.2.2.2.2.2.2) (fun Q => ∃ q, doG L w = some q ∧ if L.1 = 5 ∧ q.2.1 0 = 5 then wC__keep E Q q.2 q.1 else wC__keepIfDone E Q q.2 q.1) := by
  obtain ⟨M, Ls, As, fr, sz, hc⟩ := id hI
  obtain ⟨⟨a1, a2, a3, a4, a5⟩, ⟨b1, b2, b3, b4⟩, ⟨c1, c2⟩, ⟨d1, d2, d3, d4, d5, d6⟩, e1, e2, e3, e4, e5⟩ := id hc
  obtain ⟨r, y, M', w1', hE, y0, hsame, hSR, hSC⟩ := act_line a1 L h1 h2
  have hg17 : gM (sB v 17 (en17 (v.2.1 17) L)) = M := (sB17_g v _).trans a3
  obtain ⟨v2, k1, k2⟩ := hSR (sI (sB v 17 (en17 (v.2.1 17) L)) 15 0) hg17 (by show va_up v.1 15 0 15 = 0; exact up_same _ _ _)
  have k2 := k2.s0
  obtain ⟨w1, hG, hC⟩ := hSC w a4
  have hen : EncAt ((sB v 17 (en17 (v.2.1 17) L)).2.1 17) 0 L := by rw [sB_same]; exact en17_at _ L
  have hdo := R_done_call (sB v 17 (en17 (v.2.1 17) L)) 0 L h1 h2 (by decide) hen
  have r17 : v2.2.1 17 = en17 (v.2.1 17) L := (k2.ar (by decide)).trans (sB_same _ _ _)
  have rk : ∀ k, k ≠ 2 → k ≠ 17 → v2.2.1 k = v.2.1 k := fun k h h' => (k2.ar h).trans (sB_ne _ _ h')
  have rl : ∀ k, k ≠ 3 → k ≠ 16 → v2.2.2 k = v.2.2 k := fun k h h' => k2.2.2.2 k h h'
  rw [R_called, if_pos hrec, hdo, k1, Option.bind_some]
  show stW _ (if v2.1 15 = 0 then _ else _) _
  rw [k2.why]
  by_cases hk : y = 0 ∨ (L.1 = 5 ∧ y = 5)
  · obtain ⟨v3, m1, m2⟩ := keep_core (x := L.2.2.2.2.2.2) (.inl L) hc hn w1' hE k2.1 k2.g (rk 6 (by decide) (by decide)) (rk 9 (by decide) (by decide)) (rl 7 (by decide) (by decide)) (rl 10 (by decide) (by decide)) hC (fun v3 t1 t2 => ⟨EncAt.mv (g := en17 (v.2.1 17) L) (fun j hj => by rw [t1 j hj, r17]) (en17_at _ L), t2, h1, h2⟩) ⟨r, y, hSR⟩ r
    have hx : (if y = 0 then Option.bind (fR_keepAct v2 L.2.2.2.2.2.2) fun q95 => some (r, q95) else if y = (5 : Int32) then if nI L.1 = (5 : Int32) then Option.bind (fR_keepAct v2 L.2.2.2.2.2.2) fun q95 => some (r, q95) else some (r, v2) else some (r, v2)) = some (r, v3) := by
      rcases hk with hk | ⟨hk5, hk⟩
      · rw [if_pos hk, m1]; rfl
      · rw [if_neg (by rw [hk]; decide), if_pos hk, if_pos ((eqk (by omega) (by decide)).mpr hk5), m1]; rfl
    refine ⟨r, v3, hx, (r, w1), hG, ?_⟩
    have hres : wC__keep E (fun r' w' => r' = r ∧ Inv E (n + 1) v3 w') w1 r := m2 _ (fun w3 h3 => ⟨rfl, h3⟩)
    have hw0 : w1.1 0 = y := hC.1
    show (if L.1 = 5 ∧ w1.1 0 = 5 then wC__keep E _ w1 r else wC__keepIfDone E _ w1 r)
    rcases hk with hk | ⟨hk5, hk⟩
    · rw [if_neg (by rw [hw0, hk]; exact fun z => absurd z.2 (by decide))]
      unfold wC__keepIfDone
      rw [if_pos (hw0.trans hk)]
      exact hres
    · rw [if_pos ⟨hk5, hw0.trans hk⟩]
      exact hres
  · have hy0 : y ≠ 0 := fun z => hk (Or.inl z)
    have hMM := hsame hy0 (fun z => hk (Or.inr z))
    subst hMM
    have hx : (if y = 0 then Option.bind (fR_keepAct v2 L.2.2.2.2.2.2) fun q95 => some (r, q95) else if y = (5 : Int32) then if nI L.1 = (5 : Int32) then Option.bind (fR_keepAct v2 L.2.2.2.2.2.2) fun q95 => some (r, q95) else some (r, v2) else some (r, v2)) = some (r, v2) := by
      rw [if_neg hy0]
      by_cases h5 : y = 5
      · rw [if_pos h5, if_neg (mt (eqk (by omega) (by decide)).mp (fun z => hk (Or.inr ⟨z, h5⟩)))]
      · rw [if_neg h5]
    refine ⟨r, v2, hx, (r, w1), hG, ?_⟩
    have hw0 : w1.1 0 = y := hC.1
    show (if L.1 = 5 ∧ w1.1 0 = 5 then wC__keep E _ w1 r else wC__keepIfDone E _ w1 r)
    rw [if_neg (fun z => hk (Or.inr ⟨z.1, hw0.symm.trans z.2⟩))]
    unfold wC__keepIfDone
    rw [if_neg (by rw [hw0]; exact hy0)]
    exact ⟨rfl, hI.same ⟨k2.1, k2.g.trans a3.symm, rk 6 (by decide) (by decide), rk 9 (by decide) (by decide), rl 7 (by decide) (by decide), rl 10 (by decide) (by decide)⟩ (by rw [a3]; exact hC)⟩
theorem step_rec {E : g_Env} {n : Nat} {v : RS} {w : CS} (hI : Inv E n v w) (hn : n < 512) (L : LL) (h1 : 1 ≤ L.1) (h2 : L.1 ≤ 12) (hrec : ¬ v.1 14 = 0) : stW (Inv E (n + 1)) (fR_called v (nI L.1) L.2.1 L.2.2.1 L.2.2.2.1 L.2.2.2.2.1 L.2.2.2.2.2.1 L.2.2.2.2.2.2) (fun Q => ∀ q11 : Nat, wC__noteDown E Q (cN w (q11, lineE L)) q11) := by
  obtain ⟨M, Ls, As, fr, sz, hc⟩ := id hI
  obtain ⟨⟨a1, a2, a3, a4, a5⟩, ⟨b1, b2, b3, b4⟩, ⟨c1, c2⟩, ⟨d1, d2, d3, d4, d5, d6⟩, e1, e2, e3, e4, e5⟩ := id hc
  obtain ⟨c2, c3⟩ := c2.resolve_left hrec
  have hg17 : gM (sB v 17 (en17 (v.2.1 17) L)) = M := (sB17_g v _).trans a3
  have rk : ∀ k, k ≠ 17 → (sB v 17 (en17 (v.2.1 17) L)).2.1 k = v.2.1 k := fun k h' => sB_ne _ _ h'
  rw [R_called, if_neg hrec]
  by_cases hsz : sz = 16
  · subst hsz
    rw [R_lineMoreF _ _ (show (sB v 17 (en17 (v.2.1 17) L)).1 13 = nI 16 from d4), Option.bind_some]
    refine ⟨0, _, rfl, fun q11 => ⟨(1, cN w (q11, lineE L)), ?_, ?_⟩⟩
    · unfold fC_Sh_isFull
      rw [if_neg (show ¬ (cN w (q11, lineE L)).1 3 < 16 from by show ¬ w.1 3 < 16; rw [e4.1]; decide)]
    · rw [if_neg (show ¬ ((1 : Int32), cN w (q11, lineE L)).1 = 0 from by show ¬ (1 : Int32) = 0; decide)]
      refine ⟨_, rfl, rfl, ?_⟩
      refine (hI.pool (q11, lineE L)).same (y := 6) ⟨rfl, sB17_g v _, rk 6 (by decide), rk 9 (by decide), rfl, rfl⟩ ?_
      rw [a3]
      exact CSt_ref (cN w (q11, lineE L)) a4 6
  · obtain ⟨f', k1, k2, k3⟩ := R_lineMore (sB v 17 (en17 (v.2.1 17) L)) L.2.2.2.2.2.2 (k := Ls.length) (sz := sz) d1 d4 (by omega) (by omega)
    rw [k1, Option.bind_some]
    refine ⟨nI (sz + 1), _, rfl, fun q11 => ⟨(0, cN w (q11, lineE L)), ?_, ?_⟩⟩
    · unfold fC_Sh_isFull
      rw [if_pos (show (cN w (q11, lineE L)).1 3 < 16 from by show w.1 3 < 16; rw [e4.1]; exact nI_lt (a := sz) (b := 16) (by omega) (by decide))]
    · rw [if_pos (show ((0 : Int32), cN w (q11, lineE L)).1 = 0 from rfl)]
      unfold g_letP g_cps1
      dsimp only
      have w3 : (cI (cN w (q11, lineE L)) 0 0).1 3 = nI sz := by show va_up w.1 0 0 3 = _; rw [up_ne _ _ (by decide)]; exact e4.1
      unfold wC_Sh_add
      rw [w3, if_neg (nI_pos (by omega)), if_neg (show ¬ (16 : Int32) ≤ nI sz from nI_ge (a := sz) (b := 16) (by omega) (by decide))]
      refine ⟨vp_in_nI (by omega) (by decide), w.2.2.2.2.2.length, [.int (nI (L.1 - 1)), .int L.2.1, .int L.2.2.1, .long (lC L), .int L.2.2.2.2.1, .int L.2.2.2.2.2.1], ?_, ?_⟩
      · show (w.2.2.2.2.2 ++ [(q11, lineE L)])[w.2.2.2.2.2.length]? = _
        rw [List.getElem?_append_right (Nat.le_refl _), Nat.sub_self]
        rfl
      · rw [nI_clamp (show sz < 2 ^ 31 by omega)]
        unfold g_letP
        dsimp only
        generalize hw3 : cI (cR (cI (cN w (q11, lineE L)) 0 0) sz (some q11)) 3 ((cR (cI (cN w (q11, lineE L)) 0 0) sz (some q11)).1 3 + 1) = w'
        have e36 : w'.1 3 = nI (sz + 1) := by
          rw [← hw3]
          show va_up (va_up w.1 0 0) 3 (va_up w.1 0 0 3 + 1) 3 = _
          rw [up_same, up_ne _ _ (by decide), e4.1, nI_1]
        have p1 : ∀ k, k ≠ 0 → k ≠ 3 → w'.1 k = w.1 k := fun k h0 h3 => by
          rw [← hw3]
          show va_up (va_up w.1 0 0) 3 (va_up w.1 0 0 3 + 1) k = _
          rw [up_ne _ _ h3, up_ne _ _ h0]
        have p0 : w'.1 0 = 0 := by
          rw [← hw3]
          show va_up (va_up w.1 0 0) 3 (va_up w.1 0 0 3 + 1) 0 = _
          rw [up_ne _ _ (by decide), up_same]
        have p2 : w'.2.1 = w.2.1 := by rw [← hw3]; rfl
        have p4 : w'.2.2.2.1 = w.2.2.2.1 := by rw [← hw3]; rfl
        have p5 : w'.2.2.2.2.1 = va_up w.2.2.2.2.1 sz (some q11) := by rw [← hw3]; rfl
        have p6 : w'.2.2.2.2.2 = w.2.2.2.2.2 ++ [(q11, lineE L)] := by rw [← hw3]; rfl
        have hmem : ∀ z, z ∈ w.2.2.2.2.2 → z ∈ w'.2.2.2.2.2 := fun z hz => by rw [p6]; exact List.mem_append_left _ hz
        refine ⟨e36, M, Ls ++ [L], As, fr, sz + 1, ⟨a1, a2, ?_, by rw [p2]; exact a4, by rw [p2]; exact a5⟩, ⟨?_, ?_, (p1 1 (by decide) (by decide)).trans b3, by omega⟩, ⟨?_, ?_⟩, ⟨?_, ?_, ?_, ?_, by omega, ?_⟩, ?_, ?_, ?_, ⟨e36, ?_⟩, ?_⟩
        · rw [← hg17]
          show (va_up (sB v 17 (en17 (v.2.1 17) L)).2.1 9 f' 2, va_up v.2.2 10 (vp_updL (v.2.2 10) Ls.length L.2.2.2.2.2.2) 3) = _
          rw [up_ne _ _ (by decide), up_ne _ _ (by decide)]
          rfl
        · show va_up (va_up (va_up v.1 11 (nI (Ls.length + 1))) 13 (nI (sz + 1))) 15 0 15 = _
          rw [up_same, p0]
        · show va_up (va_up (va_up v.1 11 (nI (Ls.length + 1))) 13 (nI (sz + 1))) 15 0 8 = _
          rw [up_ne _ _ (by decide), up_ne _ _ (by decide), up_ne _ _ (by decide)]
          exact b2
        · show va_up (va_up (va_up v.1 11 (nI (Ls.length + 1))) 13 (nI (sz + 1))) 15 0 14 = _
          rw [up_ne _ _ (by decide), up_ne _ _ (by decide), up_ne _ _ (by decide), p1 4 (by decide) (by decide)]
          exact c1
        · refine Or.inr ⟨?_, by simp only [List.length_append, List.length_cons, List.length_nil]; omega⟩
          show va_up (va_up (va_up v.1 11 (nI (Ls.length + 1))) 13 (nI (sz + 1))) 15 0 14 = _
          rw [up_ne _ _ (by decide), up_ne _ _ (by decide), up_ne _ _ (by decide)]
          exact c2
        · show va_up (va_up (va_up v.1 11 (nI (Ls.length + 1))) 13 (nI (sz + 1))) 15 0 11 = _
          rw [up_ne _ _ (by decide), up_ne _ _ (by decide), up_same]
          simp only [List.length_append, List.length_cons, List.length_nil]
        · simp only [List.length_append, List.length_cons, List.length_nil]; omega
        · show va_up (va_up (va_up v.1 11 (nI (Ls.length + 1))) 13 (nI (sz + 1))) 15 0 12 = _
          rw [up_ne _ _ (by decide), up_ne _ _ (by decide), up_ne _ _ (by decide)]
          exact d3
        · show va_up (va_up (va_up v.1 11 (nI (Ls.length + 1))) 13 (nI (sz + 1))) 15 0 13 = _
          rw [up_ne _ _ (by decide), up_same]
        · simp only [List.length_append, List.length_cons, List.length_nil]; omega
        · intro i K hi
          show EncAt (va_up (sB v 17 (en17 (v.2.1 17) L)).2.1 9 f' 9) (6 * i) K ∧ va_up v.2.2 10 (vp_updL (v.2.2 10) Ls.length L.2.2.2.2.2.2) 10 i = _
          rw [up_same, up_same]
          by_cases hil : i < Ls.length
          · rw [List.getElem?_append_left hil] at hi
            obtain ⟨⟨q0, q1, q2, q3, q4, q5⟩, t2⟩ := e1 i K hi
            rw [updL_ne _ _ (by omega)]
            have g : ∀ j, j < 6 → f' (6 * i + j) = v.2.1 9 (6 * i + j) := fun j hj => by rw [k3 _ (by omega), rk 9 (by decide)]
            exact ⟨⟨(g 0 (by decide)).trans q0, (g 1 (by decide)).trans q1, (g 2 (by decide)).trans q2, (g 3 (by decide)).trans q3, (g 4 (by decide)).trans q4, (g 5 (by decide)).trans q5⟩, t2⟩
          · rw [List.getElem?_append_right (by omega)] at hi
            have hz : i - Ls.length < 1 := (List.getElem?_eq_some_iff.mp hi).1
            rw [show i - Ls.length = 0 by omega] at hi
            cases hi
            rw [show i = Ls.length by omega, updL_same]
            exact ⟨EncAt.mv (g := en17 (v.2.1 17) L) (fun j hj => by rw [k2 j hj, sB_same]) (en17_at _ L), rfl⟩
        · refine e2.keep (fun j hj => ?_) (fun j hj => ?_)
          · show va_up (sB v 17 (en17 (v.2.1 17) L)).2.1 9 f' 6 j = _
            rw [up_ne _ _ (by decide), rk 6 (by decide)]
          · show va_up v.2.2 10 (vp_updL (v.2.2 10) Ls.length L.2.2.2.2.2.2) 7 j = _
            rw [up_ne _ _ (by decide)]
        · intro i K hi
          by_cases hil : i < Ls.length
          · rw [List.getElem?_append_left hil] at hi
            exact e3 i K hi
          · rw [List.getElem?_append_right (by omega)] at hi
            have hz : i - Ls.length < 1 := (List.getElem?_eq_some_iff.mp hi).1
            rw [show i - Ls.length = 0 by omega] at hi
            cases hi
            exact ⟨h1, h2⟩
        · intro i K hi hK
          rw [p5]
          by_cases his : i = sz
          · subst his
            rw [List.getElem?_append_right (by omega), show fr + i - Ls.length = 0 by omega] at hK
            cases hK
            exact ⟨q11, up_same _ _ _, by rw [p6]; exact List.mem_append_right _ (List.mem_singleton.mpr rfl)⟩
          · rw [List.getElem?_append_left (by omega)] at hK
            obtain ⟨q, t1, t2⟩ := e4.2 i K (by omega) hK
            exact ⟨q, (up_ne _ _ his).trans t1, hmem _ t2⟩
        · rw [p4]
          exact (e5.app).mono hmem
