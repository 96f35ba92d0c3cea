/-! PURE 27: size, read, tell, at -/
theorem C_atN {M : GH} (hM : WF M) (w : CS) (hr : Rel (w.2.1 2) M) {p i : Nat} (hp : p < tc M) (hk : kd M p ≤ 15) (hi : i < ln M p) : fC_S_atPlace w (nI p) (nI i) = some (M.2 (12 * p + i), w) := by
  have h60 := hM.1.1
  obtain ⟨-, -, -, a4, a5, -⟩ := hM.2.2.1 p hp
  rw [C_atP w (by omega) ((hr.len (by omega)).trans a5) a4 hi, hr.2.2.2 p i (by omega) (by omega)]
  unfold plc
  rw [if_neg (by omega)]
theorem q_size {M : GH} (hM : WF M) (s : Int32) : Q2 (fun v => fR_size v s) (fun w => fC__size w s) M := by
  have h60 := hM.1.1
  rcases shelf_cases s with hs | ⟨j, hj, rfl⟩
  · refine ⟨0, 1, fun v hv => ?_, fun w hr => ?_⟩
    · simp only [fR_size, g_let_eq, R_sh_f _ hs, Option.bind_some, if_true, R_ref, sI_sI]
    · simp only [fC__size, C_hn1 w _ hs, Option.bind_some, i10, if_false, cI_cI]
  rcases shelfM hM hj with h0 | ⟨p, hp, hpt⟩
  · refine ⟨0, 2, fun v hv => ?_, fun w hr => ?_⟩
    · have hv : gM (sI v 15 0) = M := hv
      simp only [fR_size, g_let_eq, R_sh_t _ hj, Option.bind_some, i10, if_false, R_on0 hM _ hv hj h0, m1le, R_ref, sI_sI]
    · simp only [fC__size, C_hn2 hM w hr _ hj h0, Option.bind_some, i10, if_false, cI_cI]
  have k1 := (hM.2.2.1 p hpt).1
  by_cases hk : 13 ≤ kd M p
  · refine ⟨nI (ln M p), 0, fun v hv => ?_, fun w hr => ?_⟩
    · have hv : gM (sI v 15 0) = M := hv
      simp only [fR_size, g_let_eq, R_sh_t _ hj, Option.bind_some, i10, if_false, R_on1 hM _ hv hj hp, nIge0 (show p < 2 ^ 31 by omega), if_true, R_kd hM _ hv hpt, if_pos (show (13 : Int32) ≤ nI (kd M p) from nI_le (a := 13) (b := kd M p) hk (by omega)), R_ln hM _ hv hpt]
    · simp only [fC__size, C_hn0 hM w hr _ hj hp hpt (mt (mkRows ⟨_, k1⟩).mp (fun z => z hk)), Option.bind_some, if_true, C_on1 hM (cI w 0 0) hr hj hp, C_ln hM (cI w 0 0) hr hpt]
  · refine ⟨0, 3, fun v hv => ?_, fun w hr => ?_⟩
    · have hv : gM (sI v 15 0) = M := hv
      simp only [fR_size, g_let_eq, R_sh_t _ hj, Option.bind_some, i10, if_false, R_on1 hM _ hv hj hp, nIge0 (show p < 2 ^ 31 by omega), if_true, R_kd hM _ hv hpt, if_neg (show ¬ (13 : Int32) ≤ nI (kd M p) from nI_ge (a := kd M p) (b := 13) (by omega) (by decide)), R_ref, sI_sI]
    · simp only [fC__size, C_hn3 hM w hr _ hj hp hpt ((mkRows ⟨_, k1⟩).mpr hk), Option.bind_some, i10, if_false, cI_cI]
theorem q_read {M : GH} (hM : WF M) (s i : Int32) : Q2 (fun v => fR_read v s i) (fun w => fC__read w s i) M := by
  have h60 := hM.1.1
  rcases shelf_cases s with hs | ⟨j, hj, rfl⟩
  · refine ⟨(0 : Int32).toInt64, 1, fun v hv => ?_, fun w hr => ?_⟩
    · simp only [fR_read, g_let_eq, R_sh_f _ hs, Option.bind_some, if_true, R_ref, sI_sI]
    · simp only [fC__read, C_np1 w _ i hs, Option.bind_some, i10, if_false, cI_cI]
      rfl
  rcases shelfM hM hj with h0 | ⟨p, hp, hpt⟩
  · refine ⟨(0 : Int32).toInt64, 2, fun v hv => ?_, fun w hr => ?_⟩
    · have hv : gM (sI v 15 0) = M := hv
      simp only [fR_read, g_let_eq, R_sh_t _ hj, Option.bind_some, i10, if_false, R_on0 hM _ hv hj h0, m1le, R_ref, sI_sI]
    · simp only [fC__read, C_np2 hM w hr _ i hj h0, Option.bind_some, i10, if_false, cI_cI]
      rfl
  have k1 := (hM.2.2.1 p hpt).1
  by_cases hk : ¬ (13 ≤ kd M p ∧ kd M p ≤ 15)
  · refine ⟨(0 : Int32).toInt64, 3, fun v hv => ?_, fun w hr => ?_⟩
    · have hv : gM (sI v 15 0) = M := hv
      simp only [fR_read, g_let_eq, R_sh_t _ hj, Option.bind_some, i10, if_false, R_on1 hM _ hv hj hp, nIge0 (show p < 2 ^ 31 by omega), if_true, R_kd hM _ hv hpt, R_num _ k1, if_neg hk, R_ref, sI_sI]
    · simp only [fC__read, C_np3 hM w hr _ i hj hp hpt ((mkNR ⟨_, k1⟩).mpr hk), Option.bind_some, i10, if_false, cI_cI]
      rfl
  have hk := Decidable.not_not.mp hk
  have hm := mt (mkNR ⟨_, k1⟩).mp (fun z => z hk)
  have h12 := (hM.2.2.1 p hpt).2.2.2.1
  rcases placeM hM hpt i with hi | ⟨i, hi, rfl⟩
  · refine ⟨(0 : Int32).toInt64, 4, fun v hv => ?_, fun w hr => ?_⟩
    · have hv : gM (sI v 15 0) = M := hv
      simp only [fR_read, g_let_eq, R_sh_t _ hj, Option.bind_some, i10, if_false, R_on1 hM _ hv hj hp, nIge0 (show p < 2 ^ 31 by omega), if_true, R_kd hM _ hv hpt, R_num _ k1, if_pos hk, R_pf hM _ hv hpt hi, R_ref, sI_sI]
    · simp only [fC__read, C_np4 hM w hr _ hj hp hpt hm hi, Option.bind_some, i10, if_false, cI_cI]
      rfl
  refine ⟨M.2 (12 * p + i), 0, fun v hv => ?_, fun w hr => ?_⟩
  · have hv : gM (sI v 15 0) = M := hv
    simp only [fR_read, g_let_eq, R_sh_t _ hj, Option.bind_some, i10, if_false, R_on1 hM _ hv hj hp, nIge0 (show p < 2 ^ 31 by omega), if_true, R_kd hM _ hv hpt, R_num _ k1, if_pos hk, R_pt hM _ hv hpt hi, kb12 (show p < 60 by omega) (show i < 12 by omega), lb12 (show p < 60 by omega) (show i < 12 by omega), R_h _ hv]
  · simp only [fC__read, C_np0 hM w hr _ hj hp hpt hm hi, Option.bind_some, if_true, C_on1 hM (cI w 0 0) hr hj hp, C_atN hM (cI w 0 0) hr hpt hk.2 hi]
/-! tell -/
theorem nine_cases (x : Int32) : (x < 0 ∨ ¬ x ≤ 9) ∨ ∃ j : Nat, j ≤ 9 ∧ x = nI j := by
  rcases pk_ix x (n := 10) (by decide) with h | h | ⟨j, h1, h2⟩
  · exact Or.inl (Or.inl h)
  · refine Or.inl (Or.inr (fun z => ?_))
    have h1 : (nI 10).toInt ≤ x.toInt := Int32.le_iff_toInt_le.mp h
    have h2 : (nI 10).toInt = 10 := by decide
    have h3 := Int32.le_iff_toInt_le.mp z
    have h4 : (9 : Int32).toInt = 9 := by decide
    omega
  · exact Or.inr ⟨j, by omega, h2⟩
theorem C_tr {M : GH} (w : CS) (hr : Rel (w.2.1 2) M) {p c : Nat} (hp : p < 60) (hc : c < 11) (h1 : c ≠ 1) (h7 : c ≠ 7) : fC_S_trait w (nI p) (nI c) = some (M.1 (60 * qc c + p), w) := by
  rw [C_trait w hp (by omega), hr.fld hp hc h1 h7]
theorem C_tr1 {M : GH} (w : CS) (hr : Rel (w.2.1 2) M) {p : Nat} (hp : p < 60) (hpt : p < tc M) : fC_S_trait w (nI p) (nI 1) = some (nI p, w) := by
  rw [C_trait w hp (by omega), hr.2.2.1 p 1 hp (by decide)]
  unfold rc
  rw [if_pos rfl, if_pos hpt, lN_i]
theorem R_loadM {M : GH} (hM : WF M) (v : RS) (hv : gM v = M) {p : Nat} (hp : p < tc M) : fR_load v (nI p) = some (spL M.1 p (kd M p), v) := by
  have h60 := hM.1.1
  have e := R_load v M.1 (show p < 60 by omega) (hM.2.2.1 p hp).1 (hM.2.2.1 p hp).2.2.1
  rw [rS_v v hv] at e
  exact e
theorem C_loadM {M : GH} (hM : WF M) (w : CS) (hr : Rel (w.2.1 2) M) {p : Nat} (hp : p < tc M) : fC_Ru_load w (nI p) = some (if under (kd M p) 0 = true then spL M.1 p (kd M p) else 0, w) := by
  have h60 := hM.1.1
  obtain ⟨k1, -, k3, -⟩ := hM.2.2.1 p hp
  have ew := cW_id w
  by_cases hu : under (kd M p) 0 = true
  · have e := C_loadP (w := w) hr (show p < 60 by omega) k1 k3 hu
    rw [ew, load_eq M.1 hu k1] at e
    rw [if_pos hu]
    exact e
  · have e := C_loadN (w := w) hr (show p < 60 by omega) k1 k3 (by simpa using hu)
    rw [ew] at e
    rw [if_neg hu]
    exact e
def tellv (M : GH) (p c : Nat) : Int32 := if c = 0 then nI (kd M p) else if c = 1 then nI p else if c = 7 then (if under (kd M p) 0 = true then spL M.1 p (kd M p) else 0) else M.1 (60 * qc c + p)
theorem q_tell {M : GH} (hM : WF M) (s x : Int32) : Q2 (fun v => fR_tell v s x) (fun w => fC__tell w s x) M := by
  have h60 := hM.1.1
  rcases nine_cases x with hx | ⟨c, hc, rfl⟩
  · refine ⟨0, 1, fun v hv => ?_, fun w hr => ?_⟩
    · rcases shelf_cases s with hs | ⟨j, hj, rfl⟩
      · simp only [fR_tell, g_let_eq, R_sh_f _ hs, Option.bind_some, if_true, R_ref, sI_sI]
      · by_cases h0 : x < 0
        · simp only [fR_tell, g_let_eq, R_sh_t _ hj, Option.bind_some, i10, if_false, if_pos h0, R_ref, sI_sI]
        · simp only [fR_tell, g_let_eq, R_sh_t _ hj, Option.bind_some, i10, if_false, if_neg h0, if_neg (hx.resolve_left h0), R_ref, sI_sI]
    · by_cases h0 : x < 0
      · simp only [fC__tell, if_pos h0, C_ref, Option.bind_some]
      · simp only [fC__tell, if_neg h0, if_neg (hx.resolve_left h0), C_ref, Option.bind_some]
  have hc9 : nI c ≤ 9 := nI_le (a := c) (b := 9) hc (by decide)
  have hc0 := nI_pos (show c < 2 ^ 31 by omega)
  rcases shelf_cases s with hs | ⟨j, hj, rfl⟩
  · refine ⟨0, 1, fun v hv => ?_, fun w hr => ?_⟩
    · simp only [fR_tell, g_let_eq, R_sh_f _ hs, Option.bind_some, if_true, R_ref, sI_sI]
    · simp only [fC__tell, if_neg hc0, if_pos hc9, C_hn1 w _ hs, Option.bind_some, i10, if_false, cI_cI]
  rcases shelfM hM hj with h0 | ⟨p, hp, hpt⟩
  · refine ⟨0, 2, fun v hv => ?_, fun w hr => ?_⟩
    · have hv : gM (sI v 15 0) = M := hv
      simp only [fR_tell, g_let_eq, R_sh_t _ hj, Option.bind_some, i10, if_false, if_neg hc0, if_pos hc9, R_on0 hM _ hv hj h0, m1le, R_ref, sI_sI]
    · simp only [fC__tell, if_neg hc0, if_pos hc9, C_hn2 hM w hr _ hj h0, Option.bind_some, i10, if_false, cI_cI]
  obtain ⟨k1, -, k3, -⟩ := hM.2.2.1 p hpt
  have hp60 : p < 60 := by omega
  have hco : c < 25 := by omega
  refine ⟨tellv M p c, 0, fun v hv => ?_, fun w hr => ?_⟩
  · have hv : gM (sI v 15 0) = M := hv
    dsimp only
    unfold fR_tell
    rw [g_let_eq, R_sh_t _ hj, Option.bind_some, if_neg (show ¬ ((1 : Int32), sI v 15 0).1 = 0 from by show ¬ (1 : Int32) = 0; decide), if_neg hc0, if_pos hc9]
    show Option.bind (fR_on (sI v 15 0) (nI j)) _ = _
    rw [R_on1 hM _ hv hj hp, Option.bind_some, if_pos (show 0 ≤ (nI p, sI v 15 0).1 from (by show 0 ≤ nI p; rw [nIge0 (by omega)]; trivial))]
    rw [ite_k (j := 0) hco (by decide), ite_k (j := 1) hco (by decide), ite_k (j := 2) hco (by decide), ite_k (j := 3) hco (by decide), ite_k (j := 4) hco (by decide), ite_k (j := 5) hco (by decide), ite_k (j := 6) hco (by decide), ite_k (j := 7) hco (by decide), ite_k (j := 8) hco (by decide)]
    dsimp only
    rw [R_kd hM _ hv hpt, Option.bind_some, kb120 hp60, kb180 hp60, kb240 hp60, kb300 hp60, kb360 hp60, kb420 hp60, kb480 hp60, lb120 hp60, lb180 hp60, lb240 hp60, lb300 hp60, lb360 hp60, lb420 hp60, lb480 hp60]
    rw [Option.bind_some]
    dsimp only
    rw [R_isPart _ k1, Option.bind_some]
    dsimp only
    rw [R_loadM hM _ hv hpt, Option.bind_some]
    simp only [g_let_eq, R_g _ hv]
    unfold tellv
    rcases (show c = 0 ∨ c = 1 ∨ c = 2 ∨ c = 3 ∨ c = 4 ∨ c = 5 ∨ c = 6 ∨ c = 7 ∨ c = 8 ∨ c = 9 by omega) with rfl | rfl | rfl | rfl | rfl | rfl | rfl | rfl | rfl | rfl
    all_goals try rfl
    cases hu : under (kd M p) 0
    · rw [if_pos rfl, if_pos ((b2_0 false).mpr rfl)]; rfl
    · rw [if_pos rfl, if_neg (mt (b2_0 true).mp (by decide))]; rfl
  · dsimp only
    unfold fC__tell
    rw [if_neg hc0, if_pos hc9, C_hn0 hM w hr _ hj hp hpt (mkAll ⟨_, k1⟩), Option.bind_some, if_pos (show ((0 : Int32), cI w 0 0).1 = 0 from rfl)]
    show Option.bind (fC_S_onShelf (cI w 0 0) (nI j)) _ = _
    rw [C_on1 hM (cI w 0 0) hr hj hp, Option.bind_some, ite_k (j := 7) hco (by decide)]
    show (if c = 7 then Option.bind (fC_Ru_load (cI w 0 0) (nI p)) _ else Option.bind (fC_S_trait (cI w 0 0) (nI p) (nI c)) _) = _
    unfold tellv
    by_cases c7 : c = 7
    · subst c7
      rw [if_pos rfl, C_loadM hM (cI w 0 0) hr hpt, Option.bind_some]
      rfl
    · rw [if_neg c7]
      by_cases c1 : c = 1
      · subst c1
        rw [C_tr1 (cI w 0 0) hr hp60 hpt, Option.bind_some]
        rfl
      · rw [C_tr (cI w 0 0) hr hp60 (by omega) c1 c7, Option.bind_some]
        by_cases c0 : c = 0
        · subst c0
          rw [if_pos rfl, show 60 * qc 0 + p = p by unfold qc; simp, k3]
        · rw [if_neg c0, if_neg c1, if_neg c7]
