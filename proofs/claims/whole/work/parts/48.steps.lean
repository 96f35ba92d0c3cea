/-! PURE 30: the acts called, as steps -/
theorem step_op {E : g_Env} {n : Nat} {v : RS} {w : CS} (hI : Inv E n v w) (hn : n < 512) (L : LL) (h1 : 1 ≤ L.1) (h2 : L.1 ≤ 12) {Z : (Int32 → CS → Prop) → Prop} (hZ0 : w.1 4 = 0 → ∀ Q, (∃ q, doG L w = some q ∧ if L.1 = 5 ∧ q.2.1 0 = 5 then wC__keep E Q q.2 q.1 else wC__keepIfDone E Q q.2 q.1) → Z Q) (hZ1 : ¬ w.1 4 = 0 → ∀ Q, (∀ q11 : Nat, wC__noteDown E Q (cN w (q11, lineE L)) q11) → Z Q) : stW (Inv E (n + 1)) (fR_called v (nI L.1) L.2.1 L.2.2.1 L.2.2.2.1 L.2.2.2.2.1 L.2.2.2.2.2.1 L.2.2.2.2.2.2) Z := by
  have hrec := hI.g.2.2.1
  by_cases h : v.1 14 = 0
  · obtain ⟨r, v', e1, e2⟩ := step_do hI hn L h1 h2 h
    exact ⟨r, v', e1, hZ0 (hrec ▸ h) _ e2⟩
  · obtain ⟨r, v', e1, e2⟩ := step_rec hI hn L h1 h2 h
    exact ⟨r, v', e1, hZ1 (hrec ▸ h) _ e2⟩
theorem not5 {E : g_Env} {L : LL} {w : CS} {Q : Int32 → CS → Prop} (h5 : L.1 ≠ 5) (h : ∃ q, doG L w = some q ∧ if L.1 = 5 ∧ q.2.1 0 = 5 then wC__keep E Q q.2 q.1 else wC__keepIfDone E Q q.2 q.1) : ∃ q, doG L w = some q ∧ wC__keepIfDone E Q q.2 q.1 := by
  obtain ⟨q, e1, e2⟩ := h
  rw [if_neg (fun z => h5 z.1)] at e2
  exact ⟨q, e1, e2⟩
theorem step_make {E : g_Env} {n : Nat} {v : RS} {w : CS} (hI : Inv E n v w) (hn : n < 512) (a0 a1 a2 : Int32) : stW (Inv E (n + 1)) (fR_make v a0 a1 a2) (fun Q => wC__make E Q w a0 a1 a2) := by
  unfold fR_make
  rw [bind_eta]
  refine step_op hI hn (1, a0, a1, a2, 0, 0, 0) (show (1 : Nat) ≤ 1 by decide) (show 1 ≤ 12 by decide) (fun h Q hq => ?_) (fun h Q hq => ?_)
  · have hq := not5 (show 1 ≠ 5 by decide) hq
    show wC__make E Q w a0 a1 a2
    unfold wC__make
    rw [if_pos h]
    exact hq
  · show wC__make E Q w a0 a1 a2
    unfold wC__make
    rw [if_neg h]
    exact hq
theorem step_lay {E : g_Env} {n : Nat} {v : RS} {w : CS} (hI : Inv E n v w) (hn : n < 512) (a0 a1 : Int32) : stW (Inv E (n + 1)) (fR_lay v a0 a1) (fun Q => wC__lay E Q w a0 a1) := by
  unfold fR_lay
  rw [bind_eta]
  refine step_op hI hn (2, a0, a1, 0, 0, 0, 0) (show (1 : Nat) ≤ 2 by decide) (show 2 ≤ 12 by decide) (fun h Q hq => ?_) (fun h Q hq => ?_)
  · have hq := not5 (show 2 ≠ 5 by decide) hq
    show wC__lay E Q w a0 a1
    unfold wC__lay
    rw [if_pos h]
    exact hq
  · show wC__lay E Q w a0 a1
    unfold wC__lay
    rw [if_neg h]
    exact hq
theorem step_plug {E : g_Env} {n : Nat} {v : RS} {w : CS} (hI : Inv E n v w) (hn : n < 512) (a0 a1 a2 : Int32) : stW (Inv E (n + 1)) (fR_plug v a0 a1 a2) (fun Q => wC__plug E Q w a0 a1 a2) := by
  unfold fR_plug
  rw [bind_eta]
  refine step_op hI hn (3, a0, a1, a2, 0, 0, 0) (show (1 : Nat) ≤ 3 by decide) (show 3 ≤ 12 by decide) (fun h Q hq => ?_) (fun h Q hq => ?_)
  · have hq := not5 (show 3 ≠ 5 by decide) hq
    show wC__plug E Q w a0 a1 a2
    unfold wC__plug
    rw [if_pos h]
    exact hq
  · show wC__plug E Q w a0 a1 a2
    unfold wC__plug
    rw [if_neg h]
    exact hq
theorem step_pull {E : g_Env} {n : Nat} {v : RS} {w : CS} (hI : Inv E n v w) (hn : n < 512) (a0 a1 a2 : Int32) : stW (Inv E (n + 1)) (fR_pull v a0 a1 a2) (fun Q => wC__pull E Q w a0 a1 a2) := by
  unfold fR_pull
  rw [bind_eta]
  refine step_op hI hn (4, a0, a1, a2, 0, 0, 0) (show (1 : Nat) ≤ 4 by decide) (show 4 ≤ 12 by decide) (fun h Q hq => ?_) (fun h Q hq => ?_)
  · have hq := not5 (show 4 ≠ 5 by decide) hq
    show wC__pull E Q w a0 a1 a2
    unfold wC__pull
    rw [if_pos h]
    exact hq
  · show wC__pull E Q w a0 a1 a2
    unfold wC__pull
    rw [if_neg h]
    exact hq
theorem step_knob {E : g_Env} {n : Nat} {v : RS} {w : CS} (hI : Inv E n v w) (hn : n < 512) (a0 a1 : Int32) : stW (Inv E (n + 1)) (fR_knob v a0 a1) (fun Q => wC__knob E Q w a0 a1) := by
  unfold fR_knob
  rw [bind_eta]
  refine step_op hI hn (7, a0, a1, 0, 0, 0, 0) (show (1 : Nat) ≤ 7 by decide) (show 7 ≤ 12 by decide) (fun h Q hq => ?_) (fun h Q hq => ?_)
  · have hq := not5 (show 7 ≠ 5 by decide) hq
    show wC__knob E Q w a0 a1
    unfold wC__knob
    rw [if_pos h]
    exact hq
  · show wC__knob E Q w a0 a1
    unfold wC__knob
    rw [if_neg h]
    exact hq
theorem step_play {E : g_Env} {n : Nat} {v : RS} {w : CS} (hI : Inv E n v w) (hn : n < 512) (a0 a1 : Int32) : stW (Inv E (n + 1)) (fR_play v a0 a1) (fun Q => wC__play E Q w a0 a1) := by
  unfold fR_play
  rw [bind_eta]
  refine step_op hI hn (8, a0, a1, 0, 0, 0, 0) (show (1 : Nat) ≤ 8 by decide) (show 8 ≤ 12 by decide) (fun h Q hq => ?_) (fun h Q hq => ?_)
  · have hq := not5 (show 8 ≠ 5 by decide) hq
    show wC__play E Q w a0 a1
    unfold wC__play
    rw [if_pos h]
    exact hq
  · show wC__play E Q w a0 a1
    unfold wC__play
    rw [if_neg h]
    exact hq
theorem step_run {E : g_Env} {n : Nat} {v : RS} {w : CS} (hI : Inv E n v w) (hn : n < 512) (a0 a1 : Int32) : stW (Inv E (n + 1)) (fR_run v a0 a1) (fun Q => wC__run E Q w a0 a1) := by
  unfold fR_run
  rw [bind_eta]
  refine step_op hI hn (9, a0, a1, 0, 0, 0, 0) (show (1 : Nat) ≤ 9 by decide) (show 9 ≤ 12 by decide) (fun h Q hq => ?_) (fun h Q hq => ?_)
  · have hq := not5 (show 9 ≠ 5 by decide) hq
    show wC__run E Q w a0 a1
    unfold wC__run
    rw [if_pos h]
    exact hq
  · show wC__run E Q w a0 a1
    unfold wC__run
    rw [if_neg h]
    exact hq
theorem step_ticks {E : g_Env} {n : Nat} {v : RS} {w : CS} (hI : Inv E n v w) (hn : n < 512) (a0 a1 : Int32) : stW (Inv E (n + 1)) (fR_ticks v a0 a1) (fun Q => wC__ticks E Q w a0 a1) := by
  unfold fR_ticks
  rw [bind_eta]
  refine step_op hI hn (10, a0, a1, 0, 0, 0, 0) (show (1 : Nat) ≤ 10 by decide) (show 10 ≤ 12 by decide) (fun h Q hq => ?_) (fun h Q hq => ?_)
  · have hq := not5 (show 10 ≠ 5 by decide) hq
    show wC__ticks E Q w a0 a1
    unfold wC__ticks
    rw [if_pos h]
    exact hq
  · show wC__ticks E Q w a0 a1
    unfold wC__ticks
    rw [if_neg h]
    exact hq
theorem step_rest {E : g_Env} {n : Nat} {v : RS} {w : CS} (hI : Inv E n v w) (hn : n < 512) (a0 : Int32) : stW (Inv E (n + 1)) (fR_rest v a0) (fun Q => wC__rest E Q w a0) := by
  unfold fR_rest
  rw [bind_eta]
  refine step_op hI hn (11, a0, 0, 0, 0, 0, 0) (show (1 : Nat) ≤ 11 by decide) (show 11 ≤ 12 by decide) (fun h Q hq => ?_) (fun h Q hq => ?_)
  · have hq := not5 (show 11 ≠ 5 by decide) hq
    show wC__rest E Q w a0
    unfold wC__rest
    rw [if_pos h]
    exact hq
  · show wC__rest E Q w a0
    unfold wC__rest
    rw [if_neg h]
    exact hq
theorem step_write {E : g_Env} {n : Nat} {v : RS} {w : CS} (hI : Inv E n v w) (hn : n < 512) (a0 a1 : Int32) (a2 : Int64) : stW (Inv E (n + 1)) (fR_write v a0 a1 a2) (fun Q => wC__write E Q w a0 a1 a2) := by
  unfold fR_write
  rw [bind_eta]
  refine step_op hI hn (6, a0, a1, 0, 0, 0, a2) (show (1 : Nat) ≤ 6 by decide) (show 6 ≤ 12 by decide) (fun h Q hq => ?_) (fun h Q hq => ?_)
  · have hq := not5 (show 6 ≠ 5 by decide) hq
    show wC__write E Q w a0 a1 a2
    unfold wC__write
    rw [if_pos h]
    exact hq
  · show wC__write E Q w a0 a1 a2
    unfold wC__write
    rw [if_neg h]
    exact hq
theorem step_copy {E : g_Env} {n : Nat} {v : RS} {w : CS} (hI : Inv E n v w) (hn : n < 512) (a0 a1 a2 a3 a4 : Int32) : stW (Inv E (n + 1)) (fR_copy v a0 a1 a2 a3 a4) (fun Q => wC__copy E Q w a0 a1 a2 a3 a4) := by
  unfold fR_copy
  rw [bind_eta]
  refine step_op hI hn (5, a0, a1, a2, a3, a4, 0) (show (1 : Nat) ≤ 5 by decide) (show 5 ≤ 12 by decide) (fun h Q hq => ?_) (fun h Q hq => ?_)
  · show wC__copy E Q w a0 a1 a2 a3 a4
    unfold wC__copy
    rw [if_pos h]
    obtain ⟨q, e1, e2⟩ := hq
    refine ⟨q, e1, ?_⟩
    by_cases h5 : q.2.1 0 = 5
    · rw [if_pos ⟨rfl, h5⟩] at e2
      rw [if_pos h5]
      exact e2
    · rw [if_neg (fun z => h5 z.2)] at e2
      rw [if_neg h5]
      exact e2
  · show wC__copy E Q w a0 a1 a2 a3 a4
    unfold wC__copy
    rw [if_neg h]
    exact hq
theorem step_when {E : g_Env} {n : Nat} {v : RS} {w : CS} (hI : Inv E n v w) (hn : n < 512) (a0 a1 : Int32) : stW (Inv E (n + 1)) (fR_when v a0 a1) (fun Q => wC__when E Q w a0 a1) := by
  have hrec := hI.g.2.2.1
  unfold fR_when
  by_cases h : v.1 14 = 0
  · rw [if_pos h]
    refine ⟨0, sI v 15 7, rfl, ?_⟩
    show wC__when E _ w a0 a1
    unfold wC__when
    rw [if_pos (hrec ▸ h)]
    exact ⟨(0, cI w 0 7), rfl, rfl, hI.ref 7⟩
  · rw [if_neg h, bind_eta]
    obtain ⟨r, v', e1, e2⟩ := step_rec hI hn (12, a0, a1, 0, 0, 0, 0) (show (1 : Nat) ≤ 12 by decide) (show 12 ≤ 12 by decide) h
    refine ⟨r, v', e1, ?_⟩
    show wC__when E _ w a0 a1
    unfold wC__when
    rw [if_neg (hrec ▸ h)]
    exact e2
/-! the start -/
theorem M00_1 (i : Nat) : M00.1 i = 0 := rfl
theorem M00_2 (i : Nat) : M00.2 i = 0 := rfl
theorem M00_tc : tc M00 = 0 := rfl
theorem M00_wf : WF M00 := by
  refine ⟨⟨by rw [M00_tc]; decide, rfl⟩, fun s _ => ⟨by show 0 ≤ _; exact Nat.zero_le _, rfl⟩, fun t ht => absurd ht (Nat.not_lt_zero t), fun t ht => absurd ht (Nat.not_lt_zero t), fun t ht => absurd ht (Nat.not_lt_zero t), fun _ _ _ _ _ => rfl, fun _ _ _ _ _ => rfl⟩
theorem M00_rel : Rel (g_c 16) M00 := by
  refine ⟨fun s hs => ?_, rfl, fun t c _ _ => ?_, fun t i _ _ => ?_⟩
  · unfold g_c
    rw [if_pos hs]
    rfl
  · unfold g_c rc
    rw [if_neg (by omega), if_neg (show ¬ t < tc M00 from Nat.not_lt_zero t)]
    split
    · rfl
    · split
      · rfl
      · rfl
  · unfold g_c plc
    rw [if_neg (by omega), if_neg (show ¬ (16 ≤ kd M00 t ∧ i < ln M00 t) from fun z => Nat.not_lt_zero i z.2)]
    rfl
theorem Inv.start (E : g_Env) : Inv E 0 rs0 (cs0 []) := by
  refine ⟨M00, [], [], 0, 0, ⟨M00_wf, ⟨fun _ _ => rfl, fun _ _ => rfl⟩, rfl, M00_rel, M00_rel⟩, ⟨rfl, rfl, rfl, Nat.le_refl _⟩, ⟨rfl, Or.inl rfl⟩, ⟨rfl, Nat.le_refl _, rfl, rfl, by decide, Nat.le_refl _⟩, ?_, trivial, ?_, ⟨rfl, fun i L hi => absurd hi (Nat.not_lt_zero i)⟩, rfl⟩
  · intro i L hi
    simp at hi
  · intro i L hi
    simp at hi
