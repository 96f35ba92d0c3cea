/-! PURE 15: make, both -/
theorem updL_if (f : Nat → Int64) (i : Nat) (x : Int64) (c : Nat) : vp_updL f i x c = if c = i then x else f c := by
  by_cases h : c = i
  · rw [if_pos h, h, updL_same]
  · rw [if_neg h, updL_ne _ _ h]
theorem f5_if (f : Nat → Int64) (T K N c : Nat) : f5 f T K N c = if 13 ≤ K ∧ c = 17 + T * 23 + 10 then (nI N).toInt64 else if under K 0 = true ∧ c = 17 + T * 23 + 2 then (8 : Int32).toInt64 else if c = 17 + T * 23 + 1 then (nI T).toInt64 else if c = 17 + T * 23 + 0 then (nI K).toInt64 else if c = 16 then (nI (T + 1)).toInt64 else f c := by
  unfold f5
  by_cases h13 : 13 ≤ K <;> by_cases hu : under K 0 = true <;> simp only [h13, hu, if_true, if_false, updL_if, true_and, false_and] <;> rfl
theorem f5_out (f : Nat → Int64) {T K N c : Nat} (h : c ≠ 16 ∧ (c < 17 + T * 23 ∨ 17 + T * 23 + 11 ≤ c)) : f5 f T K N c = f c := by
  rw [f5_if, if_neg (by omega), if_neg (by omega), if_neg (by omega), if_neg (by omega), if_neg (by omega)]
theorem mk_qc {M : GH} {T j K N u c : Nat} (hT : T < 60) (hj : j < 16) (hu : u < 60) (hc : c < 11) (hut : u ≠ T) : (mkM M T j K N).1 (60 * qc c + u) = M.1 (60 * qc c + u) := by
  have := qc_lt hc
  exact mk_ne (by omega)
theorem Rel.mk {f f' : Nat → Int64} {M : GH} (h : Rel f M) (hM : WF M) {T j K N : Nat} (hT : T = tc M) (hT6 : T < 60) (hj : j < 16) (hK : K < 25) (hN : N ≤ 12)
    (a1 : ∀ c, (16 ≤ K ∧ 17 + T * 23 + 11 ≤ c ∧ c < 17 + T * 23 + 11 + N) → f' c = -1) (a2 : ∀ c, ¬ (16 ≤ K ∧ 17 + T * 23 + 11 ≤ c ∧ c < 17 + T * 23 + 11 + N) → f' c = f5 f T K N c) : Rel (vp_updL f' j (nI T).toInt64) (mkM M T j K N) := by
  have z1 : ∀ q, q < 9 → M.1 (60 * q + T) = 0 := fun q hq => hM.2.2.2.2.2.1 T q (by omega) hT6 hq
  have z2 : ∀ i, i < 12 → M.2 (12 * T + i) = 0 := fun i hi => hM.2.2.2.2.2.2 T i (by omega) hT6 hi
  have etc : tc (mkM M T j K N) = T + 1 := mk_tc hT6
  refine ⟨fun s hs => ?_, ?_, fun u c hu hc => ?_, fun u i hu hi => ?_⟩
  · by_cases he : s = j
    · subst he
      rw [updL_same, mk_540 hj, nI_l (by omega), nI_l (by omega), ← lN_1]
      simp
    · rw [updL_ne _ _ he, a2 s (by omega), f5_out f (by omega), h.1 s hs, mk_ne (by omega)]
  · rw [updL_ne _ _ (by omega), a2 16 (by omega), f5_if, if_neg (by omega), if_neg (by omega), if_neg (by omega), if_neg (by omega), if_pos rfl, mk_556]
  · rw [updL_ne _ _ (by omega), a2 _ (by omega)]
    by_cases he : u = T
    · subst he
      rw [f5_if]
      unfold rc
      by_cases c1 : c = 1
      · subst c1
        rw [if_neg (by omega), if_neg (by omega), if_pos rfl, if_pos rfl, if_pos (by omega), nI_l (by omega)]
      · rw [if_neg c1]
        by_cases c7 : c = 7
        · subst c7
          rw [if_neg (by omega), if_neg (by omega), if_neg (by omega), if_neg (by omega), if_neg (by omega), if_pos rfl, h.2.2.1 u 7 hu (by decide)]
          rfl
        · rw [if_neg c7]
          by_cases c0 : c = 0
          · subst c0
            rw [if_neg (by omega), if_neg (by omega), if_neg (by omega), if_pos rfl, show 60 * qc 0 + u = u by unfold qc; simp, mk_T hT6 hj]
          · by_cases c2 : c = 2
            · subst c2
              rw [if_neg (by omega), show 60 * qc 2 + u = 120 + u by unfold qc; simp, mk_120 hT6 hj]
              unfold mkk
              by_cases hu0 : under K 0 = true
              · rw [if_pos ⟨hu0, rfl⟩, if_pos hu0]
              · rw [if_neg (fun z => hu0 z.1), if_neg hu0, if_neg (by omega), if_neg (by omega), if_neg (by omega), h.2.2.1 u 2 hu (by decide)]
                unfold rc
                rw [if_neg (by omega), if_neg (by omega), z1 _ (qc_lt (by omega))]
            · by_cases c10 : c = 10
              · subst c10
                rw [show 60 * qc 10 + u = 60 + u by unfold qc; simp, mk_60 hT6 hj]
                unfold mkn
                by_cases h13 : 13 ≤ K
                · rw [if_pos ⟨h13, rfl⟩, if_neg (by omega)]
                · rw [if_neg (fun z => h13 z.1), if_neg (by omega), if_neg (by omega), if_neg (by omega), if_neg (by omega), if_pos (by omega), h.2.2.1 u 10 hu (by decide)]
                  unfold rc
                  rw [if_neg (by omega), if_neg (by omega), z1 _ (qc_lt (by omega))]
                  rfl
              · rw [if_neg (by omega), if_neg (by omega), if_neg (by omega), if_neg (by omega), if_neg (by omega), h.2.2.1 u c hu hc]
                unfold rc
                rw [if_neg c1, if_neg c7, mk_ne (by unfold qc; split <;> (try split) <;> omega)]
    · rw [f5_out f (by omega), h.2.2.1 u c hu hc]
      unfold rc
      by_cases c1 : c = 1
      · rw [if_pos c1, if_pos c1, etc]
        by_cases hlt : u < tc M
        · rw [if_pos hlt, if_pos (by omega)]
        · rw [if_neg hlt, if_neg (by omega)]
      · rw [if_neg c1, if_neg c1, mk_qc hT6 hj hu hc he]
  · rw [updL_ne _ _ (by omega)]
    have e2 : (mkM M T j K N).2 = M.2 := rfl
    unfold plc
    rw [e2]
    by_cases he : u = T
    · subst he
      rw [mk_kT hT6 hj hK, mk_lT hT6 hj hN, z2 i hi]
      by_cases hc : 16 ≤ K ∧ i < N
      · rw [if_pos ⟨hc.1, by unfold mkn; rw [if_neg (by omega)]; exact hc.2⟩, a1 _ (by omega)]
        rfl
      · rw [if_neg (fun z => hc ⟨z.1, by have := z.2; unfold mkn at this; rw [if_neg (by omega)] at this; exact this⟩), a2 _ (by omega), f5_out f (by omega), h.2.2.2 u i hu hi]
        unfold plc
        have hk0 : kd M u = 0 := by
          unfold kd
          have := z1 0 (by decide)
          rw [Nat.mul_zero, Nat.zero_add] at this
          rw [this]
          rfl
        rw [if_neg (by omega), z2 i hi]
    · rw [a2 _ (by omega), f5_out f (by omega), h.2.2.2 u i hu hi, mk_kn hT6 hj hu he, mk_lnn hT6 hj hu he]
      rfl
theorem num_cases (x : Int32) : (x < 0 ∨ ¬ x ≤ 12) ∨ ∃ j : Nat, j ≤ 12 ∧ x = nI j := by
  rcases pk_ix x (n := 13) (by decide) with h | h | ⟨j, h1, h2⟩
  · exact Or.inl (Or.inl h)
  · refine Or.inl (Or.inr (fun z => ?_))
    have h1 : (nI 13).toInt ≤ x.toInt := Int32.le_iff_toInt_le.mp h
    have h2 : (nI 13).toInt = 13 := by decide
    have h3 := Int32.le_iff_toInt_le.mp z
    have h4 : (12 : Int32).toInt = 12 := by decide
    omega
  · exact Or.inr ⟨j, by omega, h2⟩
theorem C_made_f (w : CS) {x : Int32} (h : x < 0 ∨ 24 < x) : fC_K_isMade w x = some (0, w) := by
  unfold fC_K_isMade
  rw [C_kind_f w h, Option.bind_some]
  simp only [if_true]
theorem C_made (w : CS) {K : Nat} (hK : K < 25) : fC_K_isMade w (nI K) = some (if K = 12 then 0 else 1, w) := by
  unfold fC_K_isMade
  rw [C_kind_t w hK, Option.bind_some]
  simp only [i10, if_false]
  by_cases h : K = 12
  · rw [if_pos ((eqk hK (by decide)).mpr h), if_pos h]
  · rw [if_neg (mt (eqk hK (by decide)).mp h), if_neg h]
theorem act_make {M : GH} (hM : WF M) (s k n : Int32) : Act2 (fun v => fR_makeNew v s k n) (fun w => fC__makeThing w s k n) M := by
  have h60 := hM.1.1
  rcases shelf_cases s with hs | ⟨j, hj, rfl⟩
  · refine Act2.ref hM 1 (fun v hv => ?_) (fun w hr => Or.inr ?_)
    · simp only [fR_makeNew, R_sh_f v hs, Option.bind_some, if_true, R_ref]
    · simp only [fC__makeThing, g_let_eq, C_sh_f _ hs, Option.bind_some, if_true, C_ref]
  rcases kind_cases k with hk | ⟨K, hK, rfl⟩
  · refine Act2.ref hM 1 (fun v hv => ?_) (fun w hr => Or.inr ?_)
    · by_cases h0 : k < 0
      · simp only [fR_makeNew, R_sh_t v hj, Option.bind_some, i10, if_false, if_pos h0, R_ref]
      · simp only [fR_makeNew, R_sh_t v hj, Option.bind_some, i10, if_false, if_neg h0, if_pos (hk.resolve_left h0), R_ref]
    · simp only [fC__makeThing, g_let_eq, C_sh_t _ hj, C_made_f _ hk, Option.bind_some, i10, if_false, if_true, C_ref]
  have hK0 : ¬ nI K < 0 := nI_pos (by omega)
  have hK24 : ¬ (24 : Int32) < nI K := nI_nlt (a := 24) (b := K) (by omega) (by decide)
  by_cases h12 : K = 12
  · subst h12
    refine Act2.ref hM 1 (fun v hv => ?_) (fun w hr => Or.inr ?_)
    · simp only [fR_makeNew, R_sh_t v hj, Option.bind_some, i10, if_false, if_neg hK0, if_neg hK24, if_pos (show nI 12 = (12 : Int32) from rfl), R_ref]
    · simp only [fC__makeThing, g_let_eq, C_sh_t _ hj, C_made _ hK, Option.bind_some, i10, if_false, if_true, C_ref]
  have hK12 : ¬ nI K = (12 : Int32) := mt (eqk hK (by decide)).mp h12
  rcases num_cases n with hn | ⟨N, hN, rfl⟩
  · refine Act2.ref hM 1 (fun v hv => ?_) (fun w hr => Or.inr ?_)
    · by_cases h0 : n < 0
      · simp only [fR_makeNew, R_sh_t v hj, Option.bind_some, i10, if_false, if_neg hK0, if_neg hK24, if_neg hK12, if_pos h0, R_ref]
      · simp only [fR_makeNew, R_sh_t v hj, Option.bind_some, i10, if_false, if_neg hK0, if_neg hK24, if_neg hK12, if_neg h0, if_neg (hn.resolve_left h0), R_ref]
    · by_cases h0 : n < 0
      · simp only [fC__makeThing, g_let_eq, C_sh_t _ hj, C_made _ hK, if_neg h12, Option.bind_some, i10, if_false, if_pos h0, C_ref]
      · simp only [fC__makeThing, g_let_eq, C_sh_t _ hj, C_made _ hK, if_neg h12, Option.bind_some, i10, if_false, if_neg h0, if_neg (hn.resolve_left h0), C_ref]
  have hN0 : ¬ nI N < 0 := nI_pos (by omega)
  have hN12 : nI N ≤ 12 := nI_le (a := N) (b := 12) (by omega) (by decide)
  by_cases hT : tc M = 60
  · refine Act2.ref hM 6 (fun v hv => ?_) (fun w hr => Or.inr ?_)
    · simp only [fR_makeNew, R_sh_t v hj, Option.bind_some, i10, if_false, if_neg hK0, if_neg hK24, if_neg hK12, if_neg hN0, if_pos hN12, kb556, lb556, g_let_eq]
      rw [R_g v hv, hM.1.2, hT, if_pos (show nI 60 = (60 : Int32) from rfl)]
      rfl
    · simp only [fC__makeThing, g_let_eq, C_sh_t _ hj, C_made _ hK, if_neg h12, Option.bind_some, i10, if_false, if_neg hN0, if_pos hN12]
      rw [C_tm hM (cI w 0 0) hr, Option.bind_some, hT, if_neg (show ¬ (nI 60, cI w 0 0).1 < 60 from by show ¬ nI 60 < 60; decide)]
      rfl
  have hT6 : tc M < 60 := by omega
  refine Act2.ok (hM.mk rfl hT6 hj hK h12 hN) ⟨by rw [mk_tc hT6]; omega, fun i hi => mk_ne (by omega), fun _ _ => rfl⟩ (nI (tc M)) (fun v hv => ?_) (fun w hr => ?_)
  · simp only [fR_makeNew, R_sh_t v hj, Option.bind_some, i10, if_false, if_neg hK0, if_neg hK24, if_neg hK12, if_neg hN0, if_pos hN12, kb556, lb556, g_let_eq]
    rw [R_g v hv, hM.1.2, if_neg (show ¬ nI (tc M) = (60 : Int32) from fun z => absurd ((nI_eq (a := tc M) (b := 60) (by omega) (by decide)).mp z) (by omega))]
    exact R_mk72 v hM hv hT6 hj hK hN 9 0 g_fuel (by omega) (fuel_lt (by omega))
  · obtain ⟨f', e1, a1, a2⟩ := C_mkadd hM (cI w 0 0) hr rfl hT6 hK hN
    refine ⟨_, ?_, CSt_ok w (hr.mk hM rfl hT6 hj hK hN a1 a2)⟩
    simp only [fC__makeThing, g_let_eq, C_sh_t _ hj, C_made _ hK, if_neg h12, Option.bind_some, i10, if_false, if_neg hN0, if_pos hN12]
    rw [C_tm hM (cI w 0 0) hr, Option.bind_some, if_pos (show (nI (tc M), cI w 0 0).1 < 60 from nI_lt (a := tc M) (b := 60) hT6 (by decide)), e1, Option.bind_some]
    show Option.bind (fC_S_setShelf (cW (cI w 0 0) f') (nI j) (nI (tc M))) _ = _
    rw [C_setS _ _ hj, Option.bind_some, cW_set]
