/-! PURE 28: at -/
theorem one_ne (v : RS) : ¬ ((1 : Int32), v).1 = 0 := by show ¬ (1 : Int32) = 0; decide
theorem one_neC (w : CS) : ¬ ((1 : Int32), w).1 = 0 := by show ¬ (1 : Int32) = 0; decide
theorem fit16 : ∀ k : Fin 25, fitk 16 k.val = true → k.val = 13 := by decide +kernel
theorem R_at64 {M : GH} (hM : WF M) (v : RS) (hv : gM v = M) {a p : Nat} (i j : Int32) {k : Int32} (ha : a < 16) (hp : sl M a = p + 1) (hpt : p < tc M) : fR_at_64 v (nI a) i j k = (
  Option.bind (fR_hasPlace v (nI p) i) fun q71 =>
  if q71.1 = 0 then
    some (0, sI q71.2 15 4)
  else
    Option.bind (fR_thingAt q71.2 (nI p) i) fun q90 =>
    if 0 ≤ q90.1 then
      Option.bind (fR_hasPlace q90.2 q90.1 j) fun q110 =>
      if q110.1 = 0 then
        some (0, sI q110.2 15 4)
      else
        if k = (16 : Int32) then
          g_ck (((12 : Int32) * q90.1) + j) 720 <|
          g_let (q110.2.2.2 3 (((12 : Int32) * q90.1) + j).toNatClampNeg) fun v140 =>
          some (v140.toInt32, q110.2)
        else
          Option.bind (fR_thingAt q110.2 q90.1 j) fun q147 =>
          if 0 ≤ q147.1 then
            Option.bind (fR_thingAt q147.2 q90.1 j) fun q165 =>
            some (q165.1, q165.2)
          else
            some (0, sI q147.2 15 2)
    else
      some (0, sI q90.2 15 2)) := by
  unfold fR_at_64
  rw [R_on1 hM v hv ha hp, Option.bind_some]
  rcases placeM hM hpt i with hi | ⟨i', hi, rfl⟩
  · show Option.bind (fR_hasPlace v (nI p) i) _ = _
    rw [R_pf hM v hv hpt hi, Option.bind_some, Option.bind_some]
    rfl
  · show Option.bind (fR_hasPlace v (nI p) (nI i')) _ = _
    rw [R_pt hM v hv hpt hi, Option.bind_some, Option.bind_some, if_neg (one_ne v), if_neg (one_ne v)]
    show Option.bind (fR_on v (nI a)) _ = _
    rw [R_on1 hM v hv ha hp, Option.bind_some]
    rfl
theorem q_at {M : GH} (hM : WF M) (s i j : Int32) : Q2 (fun v => fR_at v s i j) (fun w => fC__at w s i j) M := by
  have h60 := hM.1.1
  rcases shelf_cases s with hs | ⟨a, ha, rfl⟩
  · refine ⟨0, 1, fun v hv => ?_, fun w hr => ?_⟩
    · simp only [fR_at, g_let_eq, R_sh_f _ hs, Option.bind_some, if_true, R_ref, sI_sI]
    · simp only [fC__at, C_np1 w _ i hs, Option.bind_some, i10, if_false, cI_cI]
  rcases shelfM hM ha with h0 | ⟨p, hp, hpt⟩
  · refine ⟨0, 2, fun v hv => ?_, fun w hr => ?_⟩
    · have hv : gM (sI v 15 0) = M := hv
      simp only [fR_at, g_let_eq, R_sh_t _ ha, Option.bind_some, i10, if_false, R_on0 hM _ hv ha h0, m1le, R_ref, sI_sI]
    · simp only [fC__at, C_np2 hM w hr _ i ha h0, Option.bind_some, i10, if_false, cI_cI]
  have k1 := (hM.2.2.1 p hpt).1
  have h12 := (hM.2.2.1 p hpt).2.2.2.1
  by_cases hk : ¬ (kd M p = 16 ∨ kd M p = 23 ∨ kd M p = 24)
  · refine ⟨0, 3, fun v hv => ?_, fun w hr => ?_⟩
    · have hv : gM (sI v 15 0) = M := hv
      simp only [fR_at, g_let_eq, R_sh_t _ ha, Option.bind_some, i10, if_false, R_on1 hM _ hv ha hp, nIge0 (show p < 2 ^ 31 by omega), if_true]
      rw [R_kd hM _ hv hpt, Option.bind_some, if_neg (show ¬ (nI (kd M p), sI v 15 0).1 = 16 from mt (eqk k1 (show 16 < 25 by decide)).mp (fun z => hk (Or.inl z)))]
      show Option.bind (fR_isBoard (sI v 15 0) (nI (kd M p))) _ = _
      rw [R_board _ k1, Option.bind_some, if_neg (show ¬ (kd M p = 23 ∨ kd M p = 24) from fun z => hk (Or.inr z)), if_pos (show ((0 : Int32), sI v 15 0).1 = 0 from rfl)]
      show some (0, sI (sI v 15 0) 15 3) = _
      rw [sI_sI]
    · simp only [fC__at, C_np3 hM w hr _ i ha hp hpt ((mkRR ⟨_, k1⟩).mpr hk), Option.bind_some, i10, if_false, cI_cI]
  have hk := Decidable.not_not.mp hk
  have hm := mt (mkRR ⟨_, k1⟩).mp (fun z => z hk)
  have hk16 : 16 ≤ kd M p := by omega
  have hR : ∀ v, gM v = M → fR_at v (nI a) i j = fR_at_64 (sI v 15 0) (nI a) i j (nI (kd M p)) := by
    intro v hv
    have hv : gM (sI v 15 0) = M := hv
    simp only [fR_at, g_let_eq, R_sh_t _ ha, Option.bind_some, i10, if_false, R_on1 hM _ hv ha hp, nIge0 (show p < 2 ^ 31 by omega), if_true]
    rw [R_kd hM _ hv hpt, Option.bind_some]
    by_cases e16 : kd M p = 16
    · rw [if_pos (show (nI (kd M p), sI v 15 0).1 = 16 from (eqk k1 (show 16 < 25 by decide)).mpr e16)]
    · rw [if_neg (show ¬ (nI (kd M p), sI v 15 0).1 = 16 from mt (eqk k1 (show 16 < 25 by decide)).mp e16)]
      show Option.bind (fR_isBoard (sI v 15 0) (nI (kd M p))) _ = _
      rw [R_board _ k1, Option.bind_some, if_pos (show kd M p = 23 ∨ kd M p = 24 by omega), if_neg (one_ne _)]
  rcases placeM hM hpt i with hi | ⟨i, hi, rfl⟩
  · refine ⟨0, 4, fun v hv => ?_, fun w hr => ?_⟩
    · have hv' : gM (sI v 15 0) = M := hv
      dsimp only
      rw [hR v hv, R_at64 hM _ hv' i j ha hp hpt, R_pf hM _ hv' hpt hi, Option.bind_some, if_pos (show ((0 : Int32), sI v 15 0).1 = 0 from rfl)]
      show some (0, sI (sI v 15 0) 15 4) = _
      rw [sI_sI]
    · simp only [fC__at, C_np4 hM w hr _ ha hp hpt hm hi, Option.bind_some, i10, if_false, cI_cI]
  obtain ⟨pn1, pn2, pn3⟩ := hM.2.2.2.1 p hpt hk16 i hi
  have hR2 : ∀ v, gM v = M → fR_at v (nI a) (nI i) j = (if 0 ≤ nI (pn M p i) - 1 then
      Option.bind (fR_hasPlace (sI v 15 0) (nI (pn M p i) - 1) j) fun q110 =>
      if q110.1 = 0 then
        some (0, sI q110.2 15 4)
      else
        if nI (kd M p) = (16 : Int32) then
          g_ck (((12 : Int32) * (nI (pn M p i) - 1)) + j) 720 <|
          g_let (q110.2.2.2 3 (((12 : Int32) * (nI (pn M p i) - 1)) + j).toNatClampNeg) fun v140 =>
          some (v140.toInt32, q110.2)
        else
          Option.bind (fR_thingAt q110.2 (nI (pn M p i) - 1) j) fun q147 =>
          if 0 ≤ q147.1 then
            Option.bind (fR_thingAt q147.2 (nI (pn M p i) - 1) j) fun q165 =>
            some (q165.1, q165.2)
          else
            some (0, sI q147.2 15 2)
    else
      some (0, sI (sI v 15 0) 15 2)) := by
    intro v hv
    have hv' : gM (sI v 15 0) = M := hv
    rw [hR v hv, R_at64 hM _ hv' _ j ha hp hpt, R_pt hM _ hv' hpt hi, Option.bind_some, if_neg (one_ne _)]
    show Option.bind (fR_thingAt (sI v 15 0) (nI p) (nI i)) _ = _
    rw [R_th hM _ hv' hpt hk16 hi, Option.bind_some]
  have hC2 : ∀ w, Rel (w.2.1 2) M → fC__at w (nI a) (nI i) j = (
    if nI (pn M p i) - 1 = (-1 : Int32) then
      some (0, cI (cI w 0 0) 0 2)
    else
      Option.bind (fC_S_hasPlace (cI w 0 0) (nI (pn M p i) - 1) j) fun q51 =>
      if q51.1 = 0 then
        some (0, cI q51.2 0 4)
      else
        Option.bind (fC_S_atPlace q51.2 (nI (pn M p i) - 1) j) fun q70 =>
        if q70.1.toInt32 = (-1 : Int32) then
          Option.bind (fC_S_isIn q70.2 (nI (pn M p i) - 1) (10682368 : Int32)) fun q90 =>
          if q90.1 = 0 then
            some (q70.1.toInt32, q90.2)
          else
            some (0, cI q90.2 0 2)
        else
          some (q70.1.toInt32, q70.2)) := by
    intro w hr
    unfold fC__at
    rw [C_np0 hM w hr _ ha hp hpt hm hi, Option.bind_some, if_pos (show ((0 : Int32), cI w 0 0).1 = 0 from rfl)]
    show Option.bind (fC_S_onShelf (cI w 0 0) (nI a)) _ = _
    rw [C_on1 hM (cI w 0 0) hr ha hp, Option.bind_some]
    show Option.bind (fC_S_atPlace (cI w 0 0) (nI p) (nI i)) _ = _
    rw [C_atT (cI w 0 0) hr hM hpt hk16 hi, Option.bind_some]
    dsimp only
    rw [lNm1]
    rfl
  by_cases hz : pn M p i = 0
  · refine ⟨0, 2, fun v hv => ?_, fun w hr => ?_⟩
    · dsimp only
      rw [hR2 v hv, hz, if_neg (show ¬ (0 : Int32) ≤ nI 0 - 1 by decide), sI_sI]
    · dsimp only
      rw [hC2 w hr, hz, if_pos nI0m1, cI_cI]
  obtain ⟨r, hrr⟩ : ∃ r, pn M p i = r + 1 := ⟨pn M p i - 1, by omega⟩
  have hrt : r < tc M := by omega
  have hfit : fitk (kd M p) (kd M r) = true := by have := pn3 hz; rw [hrr, Nat.add_sub_cancel] at this; exact this
  have r1 := (hM.2.2.1 r hrt).1
  have r12 := (hM.2.2.1 r hrt).2.2.2.1
  rw [hrr, nI_pred] at hR2 hC2
  have hge : (0 : Int32) ≤ nI r := by rw [nIge0 (by omega)]; trivial
  rcases placeM hM hrt j with hj | ⟨j, hj, rfl⟩
  · refine ⟨0, 4, fun v hv => ?_, fun w hr => ?_⟩
    · have hv' : gM (sI v 15 0) = M := hv
      dsimp only
      rw [hR2 v hv, if_pos hge, R_pf hM _ hv' hrt hj, Option.bind_some, if_pos (show ((0 : Int32), sI v 15 0).1 = 0 from rfl)]
      show some (0, sI (sI v 15 0) 15 4) = _
      rw [sI_sI]
    · dsimp only
      rw [hC2 w hr, if_neg (nI_m1 (by omega)), C_pf hM (cI w 0 0) hr hrt hj, Option.bind_some, if_pos (show ((0 : Int32), cI w 0 0).1 = 0 from rfl)]
      show some (0, cI (cI w 0 0) 0 4) = _
      rw [cI_cI]
  by_cases e16 : kd M p = 16
  · have k13 : kd M r = 13 := by rw [e16] at hfit; exact fit16 ⟨_, r1⟩ hfit
    refine ⟨(M.2 (12 * r + j)).toInt32, 0, fun v hv => ?_, fun w hr => ?_⟩
    · have hv' : gM (sI v 15 0) = M := hv
      dsimp only
      rw [hR2 v hv, if_pos hge, R_pt hM _ hv' hrt hj, Option.bind_some, if_neg (one_ne _), if_pos ((eqk k1 (show 16 < 25 by decide)).mpr e16), kb12 (by omega) (by omega), g_let_eq, lb12 (by omega) (by omega)]
      show some ((((sI v 15 0).2.2 3) (12 * r + j)).toInt32, sI v 15 0) = _
      rw [R_h _ hv']
    · dsimp only
      rw [hC2 w hr, if_neg (nI_m1 (by omega)), C_pt hM (cI w 0 0) hr hrt hj, Option.bind_some, if_neg (one_neC _)]
      show Option.bind (fC_S_atPlace (cI w 0 0) (nI r) (nI j)) _ = _
      rw [C_atN hM (cI w 0 0) hr hrt (by omega) hj, Option.bind_some]
      by_cases hm1 : (M.2 (12 * r + j)).toInt32 = -1
      · rw [if_pos (show (M.2 (12 * r + j), cI w 0 0).1.toInt32 = -1 from hm1)]
        show Option.bind (fC_S_isIn (cI w 0 0) (nI r) 10682368) _ = _
        rw [C_isInM (cI w 0 0) hr hM _ hrt, if_pos ((mkRT ⟨_, r1⟩).mpr (show ¬ 16 ≤ kd M r by omega)), Option.bind_some]
        rfl
      · rw [if_neg (show ¬ (M.2 (12 * r + j), cI w 0 0).1.toInt32 = -1 from hm1)]
  · have hb : kd M p = 23 ∨ kd M p = 24 := by omega
    have hrow := board_row hM hpt hb hi hz
    rw [hrr, Nat.add_sub_cancel] at hrow
    have r16 : 16 ≤ kd M r := by omega
    obtain ⟨t1, -, -⟩ := hM.2.2.2.1 r hrt r16 j hj
    by_cases hz2 : pn M r j = 0
    · refine ⟨0, 2, fun v hv => ?_, fun w hr => ?_⟩
      · have hv' : gM (sI v 15 0) = M := hv
        dsimp only
        rw [hR2 v hv, if_pos hge, R_pt hM _ hv' hrt hj, Option.bind_some, if_neg (one_ne _), if_neg (mt (eqk k1 (show 16 < 25 by decide)).mp e16)]
        show Option.bind (fR_thingAt (sI v 15 0) (nI r) (nI j)) _ = _
        rw [R_th hM _ hv' hrt r16 hj, hz2, Option.bind_some, if_neg (show ¬ 0 ≤ (nI 0 - 1, sI v 15 0).1 from by show ¬ (0 : Int32) ≤ nI 0 - 1; decide)]
        show some (0, sI (sI v 15 0) 15 2) = _
        rw [sI_sI]
      · dsimp only
        rw [hC2 w hr, if_neg (nI_m1 (by omega)), C_pt hM (cI w 0 0) hr hrt hj, Option.bind_some, if_neg (one_neC _)]
        show Option.bind (fC_S_atPlace (cI w 0 0) (nI r) (nI j)) _ = _
        rw [C_atT (cI w 0 0) hr hM hrt r16 hj, hz2, Option.bind_some, if_pos (show (lN 0 - 1, cI w 0 0).1.toInt32 = -1 from by show (lN 0 - 1).toInt32 = -1; decide)]
        show Option.bind (fC_S_isIn (cI w 0 0) (nI r) 10682368) _ = _
        rw [C_isInM (cI w 0 0) hr hM _ hrt, if_neg (mt (mkRT ⟨_, r1⟩).mp (fun z => z r16)), Option.bind_some, if_neg (one_neC _)]
        show some (0, cI (cI w 0 0) 0 2) = _
        rw [cI_cI]
    · obtain ⟨t, ht⟩ : ∃ t, pn M r j = t + 1 := ⟨pn M r j - 1, by omega⟩
      refine ⟨nI t, 0, fun v hv => ?_, fun w hr => ?_⟩
      · have hv' : gM (sI v 15 0) = M := hv
        dsimp only
        rw [hR2 v hv, if_pos hge, R_pt hM _ hv' hrt hj, Option.bind_some, if_neg (one_ne _), if_neg (mt (eqk k1 (show 16 < 25 by decide)).mp e16)]
        show Option.bind (fR_thingAt (sI v 15 0) (nI r) (nI j)) _ = _
        have e := R_th hM _ hv' hrt r16 hj
        rw [ht, nI_pred] at e
        rw [e, Option.bind_some, if_pos (show 0 ≤ (nI t, sI v 15 0).1 from (by show (0 : Int32) ≤ nI t; rw [nIge0 (by omega)]; trivial))]
        show Option.bind (fR_thingAt (sI v 15 0) (nI r) (nI j)) _ = _
        rw [e, Option.bind_some]
      · dsimp only
        rw [hC2 w hr, if_neg (nI_m1 (by omega)), C_pt hM (cI w 0 0) hr hrt hj, Option.bind_some, if_neg (one_neC _)]
        show Option.bind (fC_S_atPlace (cI w 0 0) (nI r) (nI j)) _ = _
        have et : (lN (t + 1) - 1).toInt32 = nI t := by rw [lNm1, nI_pred]
        rw [C_atT (cI w 0 0) hr hM hrt r16 hj, ht, Option.bind_some, if_neg (show ¬ (lN (t + 1) - 1, cI w 0 0).1.toInt32 = -1 from by show ¬ (lN (t + 1) - 1).toInt32 = -1; rw [et]; exact nI_m1 (by omega))]
        show some ((lN (t + 1) - 1).toInt32, cI w 0 0) = _
        rw [et]
