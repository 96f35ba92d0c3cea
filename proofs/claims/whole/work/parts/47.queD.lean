/-! PURE 29: take -/
def tk (M : GH) (p k : Nat) : Int32 := if k = 0 then M.1 (180 + p) else if k = 1 then spL M.1 p (kd M p) else if k = 2 then tAbs (M.1 (120 + p)) else if k = 3 then M.1 (240 + p) else if k = 4 then M.1 (240 + p) else if k ≤ 8 then M.1 (300 + p) else if k ≤ 10 then M.1 (360 + p) else if k = 11 then M.1 (480 + p) else nI (kd M p)
theorem tU16 : ∀ k d : Fin 25, 16 ≤ k.val → under d.val k.val = true → 16 ≤ d.val := by decide +kernel
theorem tU13 : ∀ k d : Fin 25, 13 ≤ k.val ∧ k.val ≤ 15 → under d.val k.val = true → 13 ≤ d.val ∧ d.val ≤ 15 := by decide +kernel
theorem tU1 : ∀ d : Fin 25, under d.val 1 = true → under d.val 0 = true := by decide +kernel
theorem R_told13 {M : GH} (hM : WF M) (v : RS) (hv : gM v = M) {p k : Nat} (i : Int32) (hp : p < tc M) (hk : k < 13) : fR_toldAs v (nI p) (nI k) i = some ((tk M p k).toInt64, v) := by
  have h60 := hM.1.1
  have hp60 : p < 60 := by omega
  have hco : k < 25 := by omega
  unfold fR_toldAs
  rw [ite_k (j := 0) hco (by decide), ite_k (j := 1) hco (by decide), ite_k (j := 2) hco (by decide), ite_k (j := 3) hco (by decide), ite_k (j := 4) hco (by decide), ite_k (j := 5) hco (by decide), ite_k (j := 6) hco (by decide), ite_k (j := 7) hco (by decide), ite_k (j := 8) hco (by decide), ite_k (j := 9) hco (by decide), ite_k (j := 10) hco (by decide), ite_k (j := 11) hco (by decide), ite_k (j := 12) hco (by decide)]
  rw [kb180 hp60, kb120 hp60, kb240 hp60, kb300 hp60, kb360 hp60, kb480 hp60, lb180 hp60, lb120 hp60, lb240 hp60, lb300 hp60, lb360 hp60, lb480 hp60, R_loadM hM v hv hp, R_kd hM v hv hp, Option.bind_some, Option.bind_some]
  simp only [g_let_eq, R_g _ hv, R_size, Option.bind_some]
  unfold tk
  rcases (show k = 0 ∨ k = 1 ∨ k = 2 ∨ k = 3 ∨ k = 4 ∨ k = 5 ∨ k = 6 ∨ k = 7 ∨ k = 8 ∨ k = 9 ∨ k = 10 ∨ k = 11 ∨ k = 12 by omega) with rfl | rfl | rfl | rfl | rfl | rfl | rfl | rfl | rfl | rfl | rfl | rfl | rfl
  all_goals rfl
theorem C_other {M : GH} (hM : WF M) (w : CS) (hr : Rel (w.2.1 2) M) {p k : Nat} (hp : p < tc M) (hk : k < 13) (hu : under (kd M p) k = true) : fC__takeFromOther w (nI p) (nI k) = some (tk M p k, w) := by
  have h60 := hM.1.1
  have hp60 : p < 60 := by omega
  have hco : k < 25 := by omega
  have t2 : fC_S_trait w (nI p) 2 = some (M.1 (120 + p), w) := C_tr (c := 2) w hr hp60 (by decide) (by decide) (by decide)
  have t3 : fC_S_trait w (nI p) 3 = some (M.1 (180 + p), w) := C_tr (c := 3) w hr hp60 (by decide) (by decide) (by decide)
  have t4 : fC_S_trait w (nI p) 4 = some (M.1 (240 + p), w) := C_tr (c := 4) w hr hp60 (by decide) (by decide) (by decide)
  have t5 : fC_S_trait w (nI p) 5 = some (M.1 (300 + p), w) := C_tr (c := 5) w hr hp60 (by decide) (by decide) (by decide)
  have t6 : fC_S_trait w (nI p) 6 = some (M.1 (360 + p), w) := C_tr (c := 6) w hr hp60 (by decide) (by decide) (by decide)
  have t9 : fC_S_trait w (nI p) 9 = some (M.1 (480 + p), w) := C_tr (c := 9) w hr hp60 (by decide) (by decide) (by decide)
  unfold fC__takeFromOther
  rw [ite_k (j := 0) hco (by decide), ite_k (j := 1) hco (by decide), ite_k (j := 2) hco (by decide), ite_k (j := 3) hco (by decide), ite_k (j := 4) hco (by decide), ite_k (j := 5) hco (by decide), ite_k (j := 6) hco (by decide), ite_k (j := 7) hco (by decide), ite_k (j := 8) hco (by decide), ite_k (j := 9) hco (by decide), ite_k (j := 10) hco (by decide), ite_k (j := 11) hco (by decide), ite_k (j := 12) hco (by decide)]
  rw [t2, t3, t4, t5, t6, t9, C_loadM hM w hr hp, C_kd hM w hr hp]
  simp only [g_let_eq, Option.bind_some, g_abs_eq]
  unfold tk
  rcases (show k = 0 ∨ k = 1 ∨ k = 2 ∨ k = 3 ∨ k = 4 ∨ k = 5 ∨ k = 6 ∨ k = 7 ∨ k = 8 ∨ k = 9 ∨ k = 10 ∨ k = 11 ∨ k = 12 by omega) with rfl | rfl | rfl | rfl | rfl | rfl | rfl | rfl | rfl | rfl | rfl | rfl | rfl
  case inr.inl =>
    rw [if_pos (tU1 ⟨_, (hM.2.2.1 p hp).1⟩ hu)]
    rfl
  all_goals rfl
theorem R_toldN {M : GH} (hM : WF M) (v : RS) (hv : gM v = M) {p k i : Nat} (hp : p < tc M) (hk : 13 ≤ k ∧ k ≤ 15) (hi : i < ln M p) : fR_toldAs v (nI p) (nI k) (nI i) = some (M.2 (12 * p + i), v) := by
  have h60 := hM.1.1
  have h12 := (hM.2.2.1 p hp).2.2.2.1
  have hp60 : p < 60 := by omega
  have hi12 : i < 12 := by omega
  have e : g_ck (((12 : Int32) * nI p) + nI i) 720 (g_let (v.2.2 3 (((12 : Int32) * nI p) + nI i).toNatClampNeg) fun v214 => some (v214, v)) = some (M.2 (12 * p + i), v) := by
    rw [kb12 hp60 hi12, g_let_eq, lb12 hp60 hi12, R_h _ hv]
  rw [← e]
  rcases (show k = 13 ∨ k = 14 ∨ k = 15 by omega) with rfl | rfl | rfl
  all_goals rfl
theorem R_toldT {M : GH} (hM : WF M) (v : RS) (hv : gM v = M) {p k i r : Nat} (hp : p < tc M) (hkd : 16 ≤ kd M p) (hk : 16 ≤ k) (hk2 : k < 25) (hi : i < ln M p) (hr : pn M p i = r + 1) (hrt : r < tc M) : fR_toldAs v (nI p) (nI k) (nI i) = some ((if k = 16 ∨ k = 23 ∨ k = 24 then nI (ln M r) else nI r).toInt64, v) := by
  have e := R_th hM v hv hp hkd hi
  rw [hr, nI_pred] at e
  have e1 : (Option.bind (fR_thingAt v (nI p) (nI i)) fun q220 => Option.bind (fR_lengthOf q220.2 q220.1) fun q223 => some (q223.1.toInt64, q223.2)) = some ((nI (ln M r)).toInt64, v) := by
    rw [e, Option.bind_some]
    show Option.bind (fR_lengthOf v (nI r)) _ = _
    rw [R_ln hM v hv hrt, Option.bind_some]
  have e2 : (Option.bind (fR_thingAt v (nI p) (nI i)) fun q231 => some (q231.1.toInt64, q231.2)) = some ((nI r).toInt64, v) := by
    rw [e, Option.bind_some]
  by_cases h : k = 16 ∨ k = 23 ∨ k = 24
  · rw [if_pos h, ← e1]
    rcases h with rfl | rfl | rfl
    all_goals rfl
  · rw [if_neg h, ← e2]
    rcases (show k = 17 ∨ k = 18 ∨ k = 19 ∨ k = 20 ∨ k = 21 ∨ k = 22 by omega) with rfl | rfl | rfl | rfl | rfl | rfl
    all_goals rfl
theorem q_take {M : GH} (hM : WF M) (s x i : Int32) : Q2 (fun v => fR_take v s x i) (fun w => fC__take w s x i) M := by
  have h60 := hM.1.1
  rcases shelf_cases s with hs | ⟨a, ha, rfl⟩
  · refine ⟨(0 : Int32).toInt64, 1, fun v hv => ?_, fun w hr => ?_⟩
    · simp only [fR_take, g_let_eq, R_sh_f _ hs, Option.bind_some, if_true, R_ref, sI_sI]
    · simp only [fC__take, C_sh_f _ hs, Option.bind_some, if_true, C_ref]
  rcases kind_cases x with hx | ⟨k, hk, rfl⟩
  · refine ⟨(0 : Int32).toInt64, 1, fun v hv => ?_, fun w hr => ?_⟩
    · by_cases h2 : x < 0
      · simp only [fR_take, g_let_eq, R_sh_t _ ha, Option.bind_some, i10, if_false, if_pos h2, R_ref, sI_sI]
      · simp only [fR_take, g_let_eq, R_sh_t _ ha, Option.bind_some, i10, if_false, if_neg h2, if_neg ((le24 hx).resolve_left h2), R_ref, sI_sI]
    · simp only [fC__take, C_sh_t _ ha, C_kind_f _ hx, Option.bind_some, i10, if_false, if_true, C_ref]
  rcases shelfM hM ha with h0 | ⟨p, hp, hpt⟩
  · refine ⟨(0 : Int32).toInt64, 2, fun v hv => ?_, fun w hr => ?_⟩
    · have hv : gM (sI v 15 0) = M := hv
      simp only [fR_take, fR_take_62, g_let_eq, R_sh_t _ ha, Option.bind_some, i10, if_false, nIneg (show k < 2 ^ 31 by omega), if_pos (nIle24 hk), R_on0 hM _ hv ha h0, m1neg, m1le, if_true, R_ref, sI_sI]
    · simp only [fC__take, C_sh_t _ ha, C_kind_t _ hk, Option.bind_some, i10, if_false, C_hn2 hM w hr _ ha h0, cI_cI]
      rfl
  have k1 := (hM.2.2.1 p hpt).1
  have h12 := (hM.2.2.1 p hpt).2.2.2.1
  have hb := mkBit ⟨k, hk⟩ ⟨_, k1⟩
  cases hu : under (kd M p) k
  · refine ⟨(0 : Int32).toInt64, 3, fun v hv => ?_, fun w hr => ?_⟩
    · have hv : gM (sI v 15 0) = M := hv
      simp only [fR_take, g_let_eq, R_sh_t _ ha, Option.bind_some, i10, if_false, nIneg (show k < 2 ^ 31 by omega), if_pos (nIle24 hk), R_on1 hM _ hv ha hp, nIneg (show p < 2 ^ 31 by omega), R_kd hM _ hv hpt, R_isUnder _ k1 hk, hu, if_pos ((b2_0 false).mpr rfl), R_ref, sI_sI]
    · simp only [fC__take, C_sh_t _ ha, C_kind_t _ hk, Option.bind_some, i10, if_false, C_hn3 hM w hr _ ha hp hpt (hb.mpr hu), cI_cI]
      rfl
  have hnb := mt hb.mp (by rw [hu]; decide)
  have hR : ∀ v, gM v = M → fR_take v (nI a) (nI k) i = fR_take_62 (sI v 15 0) (nI k) i (nI p) := by
    intro v hv
    have hv : gM (sI v 15 0) = M := hv
    simp only [fR_take, g_let_eq, R_sh_t _ ha, Option.bind_some, i10, if_false, nIneg (show k < 2 ^ 31 by omega), if_pos (nIle24 hk), R_on1 hM _ hv ha hp, nIneg (show p < 2 ^ 31 by omega), R_kd hM _ hv hpt, R_isUnder _ k1 hk, hu, if_neg (mt (b2_0 true).mp (by decide))]
  have hge : (0 : Int32) ≤ nI p := by rw [nIge0 (by omega)]; trivial
  have hC : ∀ w, Rel (w.2.1 2) M → fC__take w (nI a) (nI k) i = (Option.bind (fC_K_isUnderAny (cI w 0 0) (nI k) (10739712 : Int32)) fun q47 =>
        if q47.1 = 0 then
          Option.bind (fC__takeFromOther q47.2 (nI p) (nI k)) fun q68 =>
          some (q68.1.toInt64, q68.2)
        else
          Option.bind (fC__takeFromRow q47.2 (nI p) (nI k) i) fun q58 =>
          some (q58.1, q58.2)) := by
    intro w hr
    simp only [fC__take, C_sh_t _ ha, C_kind_t _ hk, Option.bind_some, i10, if_false, C_hn0 hM w hr _ ha hp hpt hnb, if_true, C_on1 hM (cI w 0 0) hr ha hp]
  by_cases h13 : k < 13
  · refine ⟨(tk M p k).toInt64, 0, fun v hv => ?_, fun w hr => ?_⟩
    · have hv' : gM (sI v 15 0) = M := hv
      dsimp only
      rw [hR v hv]
      unfold fR_take_62 fR_take_97 fR_take_120
      rw [if_pos hge, if_pos (show nI k < 13 from nI_lt h13 (by decide)), if_pos (show nI k < 16 from nI_lt (show k < 16 by omega) (by decide)), R_told13 hM _ hv' i hpt h13, Option.bind_some]
    · dsimp only
      rw [hC w hr, C_under _ _ hk, if_pos ((mkRows ⟨k, hk⟩).mpr (show ¬ 13 ≤ k by omega)), Option.bind_some, if_pos (show ((0 : Int32), cI w 0 0).1 = 0 from rfl)]
      show Option.bind (fC__takeFromOther (cI w 0 0) (nI p) (nI k)) _ = _
      rw [C_other hM (cI w 0 0) hr hpt h13 hu, Option.bind_some]
  have hR2 : ∀ v, gM v = M → fR_take v (nI a) (nI k) i = (Option.bind (fR_hasPlace (sI v 15 0) (nI p) i) fun q84 =>
      if q84.1 = 0 then
        Option.bind (fR_refuse q84.2 (4 : Int32)) fun q92 =>
        some (q92.1.toInt64, q92.2)
      else
        fR_take_97 q84.2 (nI k) i (nI p)) := by
    intro v hv
    rw [hR v hv]
    unfold fR_take_62
    rw [if_pos hge, if_neg (show ¬ nI k < 13 from nI_nlt (a := k) (b := 13) (by omega) (by omega))]
  have hC2 : ∀ w, Rel (w.2.1 2) M → fC__take w (nI a) (nI k) i = fC__takeFromRow (cI w 0 0) (nI p) (nI k) i := by
    intro w hr
    rw [hC w hr, C_under _ _ hk, if_neg (mt (mkRows ⟨k, hk⟩).mp (fun z => z (by show 13 ≤ k; omega))), Option.bind_some, if_neg (one_neC _)]
    show Option.bind (fC__takeFromRow (cI w 0 0) (nI p) (nI k) i) _ = _
    exact bind_eta _
  rcases placeM hM hpt i with hi | ⟨i, hi, rfl⟩
  · refine ⟨(0 : Int32).toInt64, 4, fun v hv => ?_, fun w hr => ?_⟩
    · have hv' : gM (sI v 15 0) = M := hv
      dsimp only
      rw [hR2 v hv, R_pf hM _ hv' hpt hi, Option.bind_some, if_pos (show ((0 : Int32), sI v 15 0).1 = 0 from rfl)]
      show some ((0 : Int32).toInt64, sI (sI v 15 0) 15 4) = _
      rw [sI_sI]
    · dsimp only
      rw [hC2 w hr]
      unfold fC__takeFromRow
      rw [C_pf hM (cI w 0 0) hr hpt hi, Option.bind_some, if_pos (show ((0 : Int32), cI w 0 0).1 = 0 from rfl)]
      show some ((0 : Int32).toInt64, cI (cI w 0 0) 0 4) = _
      rw [cI_cI]
  by_cases h16 : k < 16
  · have h15 : 13 ≤ k ∧ k ≤ 15 := by omega
    have hd := tU13 ⟨k, hk⟩ ⟨_, k1⟩ h15 hu
    refine ⟨M.2 (12 * p + i), 0, fun v hv => ?_, fun w hr => ?_⟩
    · have hv' : gM (sI v 15 0) = M := hv
      dsimp only
      rw [hR2 v hv, R_pt hM _ hv' hpt hi, Option.bind_some, if_neg (one_ne _)]
      unfold fR_take_97 fR_take_120
      rw [if_pos (show nI k < 16 from nI_lt h16 (by decide))]
      show Option.bind (fR_toldAs (sI v 15 0) (nI p) (nI k) (nI i)) _ = _
      rw [R_toldN hM _ hv' hpt h15 hi, Option.bind_some]
    · dsimp only
      rw [hC2 w hr]
      unfold fC__takeFromRow
      rw [C_pt hM (cI w 0 0) hr hpt hi, Option.bind_some, if_neg (one_neC _)]
      show Option.bind (fC_S_atPlace (cI w 0 0) (nI p) (nI i)) _ = _
      rw [C_atN hM (cI w 0 0) hr hpt hd.2 hi, Option.bind_some]
      show Option.bind (fC_K_isUnderAny (cI w 0 0) (nI k) 57344) _ = _
      rw [C_under _ _ hk, if_neg (mt (mkNR ⟨k, hk⟩).mp (fun z => z h15)), Option.bind_some, if_neg (one_neC _)]
  have g16 : 16 ≤ k := by omega
  have hd : 16 ≤ kd M p := tU16 ⟨k, hk⟩ ⟨_, k1⟩ g16 hu
  obtain ⟨pn1, -, -⟩ := hM.2.2.2.1 p hpt hd i hi
  have hR3 : ∀ v, gM v = M → fR_take v (nI a) (nI k) (nI i) = (if 0 ≤ nI (pn M p i) - 1 then
      fR_take_120 (sI v 15 0) (nI k) (nI i) (nI p)
    else
      some ((0 : Int32).toInt64, sI (sI v 15 0) 15 2)) := by
    intro v hv
    have hv' : gM (sI v 15 0) = M := hv
    rw [hR2 v hv, R_pt hM _ hv' hpt hi, Option.bind_some, if_neg (one_ne _)]
    unfold fR_take_97
    rw [if_neg (show ¬ nI k < 16 from nI_nlt (a := k) (b := 16) (by omega) (by omega))]
    show Option.bind (fR_thingAt (sI v 15 0) (nI p) (nI i)) _ = _
    rw [R_th hM _ hv' hpt hd hi, Option.bind_some]
    rfl
  have hC3 : ∀ w, Rel (w.2.1 2) M → fC__take w (nI a) (nI k) (nI i) = (
      if (lg_cmp (lN (pn M p i) - 1) (-1 : Int64)) = 0 then
        some ((0 : Int32).toInt64, cI (cI w 0 0) 0 2)
      else
        Option.bind (fC_K_isUnderAny (cI w 0 0) (nI k) (8454144 : Int32)) fun q61 =>
        if q61.1 = 0 then
          some (lN (pn M p i) - 1, q61.2)
        else
          Option.bind (fC_S_places q61.2 (lN (pn M p i) - 1).toInt32) fun q74 =>
          some (q74.1.toInt64, q74.2)) := by
    intro w hr
    rw [hC2 w hr]
    unfold fC__takeFromRow
    rw [C_pt hM (cI w 0 0) hr hpt hi, Option.bind_some, if_neg (one_neC _)]
    show Option.bind (fC_S_atPlace (cI w 0 0) (nI p) (nI i)) _ = _
    rw [C_atT (cI w 0 0) hr hM hpt hd hi, Option.bind_some]
    show Option.bind (fC_K_isUnderAny (cI w 0 0) (nI k) 57344) _ = _
    rw [C_under _ _ hk, if_pos ((mkNR ⟨k, hk⟩).mpr (show ¬ (13 ≤ k ∧ k ≤ 15) by omega)), Option.bind_some, if_pos (show ((0 : Int32), cI w 0 0).1 = 0 from rfl)]
    rfl
  by_cases hz : pn M p i = 0
  · refine ⟨(0 : Int32).toInt64, 2, fun v hv => ?_, fun w hr => ?_⟩
    · dsimp only
      rw [hR3 v hv, hz, if_neg (show ¬ (0 : Int32) ≤ nI 0 - 1 by decide), sI_sI]
    · dsimp only
      rw [hC3 w hr, hz, if_pos ((lgc0 _ _).mpr ((lNm1_eq (by decide)).mpr rfl)), cI_cI]
  obtain ⟨r, hrr⟩ : ∃ r, pn M p i = r + 1 := ⟨pn M p i - 1, by omega⟩
  have hrt : r < tc M := by omega
  refine ⟨(if k = 16 ∨ k = 23 ∨ k = 24 then nI (ln M r) else nI r).toInt64, 0, fun v hv => ?_, fun w hr => ?_⟩
  · have hv' : gM (sI v 15 0) = M := hv
    dsimp only
    rw [hR3 v hv, hrr, nI_pred, if_pos (by rw [nIge0 (by omega)]; trivial)]
    unfold fR_take_120
    rw [R_toldT hM _ hv' hpt hd g16 hk hi hrr hrt, Option.bind_some]
  · dsimp only
    rw [hC3 w hr, hrr, if_neg (mt (lgc0 _ _).mp (mt (lNm1_eq (by omega)).mp (by omega))), C_under _ _ hk]
    by_cases h : k = 16 ∨ k = 23 ∨ k = 24
    · rw [if_pos h, if_neg (mt (mkRR ⟨k, hk⟩).mp (fun z => z h)), Option.bind_some, if_neg (one_neC _), lNm1, nI_pred]
      show Option.bind (fC_S_places (cI w 0 0) (nI r)) _ = _
      rw [C_ln hM (cI w 0 0) hr hrt, Option.bind_some]
    · rw [if_neg h, if_pos ((mkRR ⟨k, hk⟩).mpr h), Option.bind_some, if_pos (show ((0 : Int32), cI w 0 0).1 = 0 from rfl)]
      show some (lN (r + 1) - 1, cI w 0 0) = _
      rw [← nIm1_64 (by omega), nI_pred]
