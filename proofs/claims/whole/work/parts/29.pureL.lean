/-! PURE 11: plug, pull, write, knob, when, play, rest, ticks -/
theorem R_rp2 {M : GH} (hM : WF M) (v : RS) (hv : gM v = M) {j : Nat} (i : Int32) (hj : j < 16) (h : sl M j = 0) : fR_reasonOfPlace v (nI j) i = some (2, v) := by
  simp only [fR_reasonOfPlace, R_on0 hM v hv hj h, Option.bind_some, m1le, if_false]
theorem R_rp3 {M : GH} (hM : WF M) (v : RS) (hv : gM v = M) {j p : Nat} (i : Int32) (hj : j < 16) (h : sl M j = p + 1) (hp : p < tc M) (hk : ¬ 16 ≤ kd M p) : fR_reasonOfPlace v (nI j) i = some (3, v) := by
  have := hM.1.1
  simp only [fR_reasonOfPlace, R_on1 hM v hv hj h, Option.bind_some, nIge0 (show p < 2 ^ 31 by omega), if_true, R_kd hM v hv hp, R_rot v (hM.2.2.1 p hp).1, if_neg hk]
theorem R_rp4 {M : GH} (hM : WF M) (v : RS) (hv : gM v = M) {j p : Nat} {i : Int32} (hj : j < 16) (h : sl M j = p + 1) (hp : p < tc M) (hk : 16 ≤ kd M p) (hi : i < 0 ∨ nI (ln M p) ≤ i) : fR_reasonOfPlace v (nI j) i = some (4, v) := by
  have := hM.1.1
  simp only [fR_reasonOfPlace, R_on1 hM v hv hj h, Option.bind_some, nIge0 (show p < 2 ^ 31 by omega), if_true, R_kd hM v hv hp, R_rot v (hM.2.2.1 p hp).1, if_pos hk, i10, if_false, R_pf hM v hv hp hi]
theorem R_rp0 {M : GH} (hM : WF M) (v : RS) (hv : gM v = M) {j p i : Nat} (hj : j < 16) (h : sl M j = p + 1) (hp : p < tc M) (hk : 16 ≤ kd M p) (hi : i < ln M p) : fR_reasonOfPlace v (nI j) (nI i) = some (0, v) := by
  have := hM.1.1
  simp only [fR_reasonOfPlace, R_on1 hM v hv hj h, Option.bind_some, nIge0 (show p < 2 ^ 31 by omega), if_true, R_kd hM v hv hp, R_rot v (hM.2.2.1 p hp).1, if_pos hk, i10, if_false, R_pt hM v hv hp hi]
theorem R_fitM {M : GH} (hM : WF M) (v : RS) (hv : gM v = M) {K p : Nat} (hK : 16 ≤ K) (hK2 : K < 25) (hp : p ≤ tc M) : fR_fits v (nI K) (lN p) = some (if p = 0 then 1 else b2 (fitk K (kd M (p - 1))), v) := by
  have := hM.1.1
  cases p with
  | zero => rw [if_pos rfl]; exact R_fits0 v _
  | succ q =>
    rw [if_neg (by omega), Nat.add_sub_cancel]
    obtain ⟨k1, -, k3, -⟩ := hM.2.2.1 q (by omega)
    exact R_fits v hK hK2 k1 (by omega) (by rw [R_g v hv, k3])
theorem C_fitM {M : GH} (hM : WF M) (w : CS) (hr : Rel (w.2.1 2) M) {r p : Nat} (hr1 : r < tc M) (hK : 16 ≤ kd M r) (hp : p ≤ tc M) : fC_S_fits w (nI p - 1) (nI r) = some (if p = 0 then 1 else b2 (fitk (kd M r) (kd M (p - 1))), w) := by
  cases p with
  | zero => rw [if_pos rfl, nI0m1]; exact C_fits0 w _
  | succ q =>
    rw [if_neg (by omega), Nat.add_sub_cancel, nI_pred]
    exact C_fits w hr hM hr1 (by omega) hK
theorem fit01 (p : Nat) (b : Bool) : ((if p = 0 then 1 else b2 b) = (0 : Int32)) ↔ (p ≠ 0 ∧ b = false) := by
  by_cases h : p = 0
  · rw [if_pos h]; exact ⟨fun z => absurd z (by decide), fun z => absurd h z.1⟩
  · rw [if_neg h, b2_0]; exact ⟨fun z => ⟨h, z⟩, fun z => z.2⟩
theorem act_plug {M : GH} (hM : WF M) (s i t : Int32) : Act2 (fun v => fR_plugIn v s i t) (fun w => fC__plugIn w s i t) M := by
  have h60 := hM.1.1
  rcases shelf_cases t with ht | ⟨a, ha, rfl⟩
  · refine Act2.ref hM 1 (fun v hv => ?_) (fun w hr => Or.inl ?_)
    · rcases shelf_cases s with hs | ⟨j, hj, rfl⟩
      · simp only [fR_plugIn, R_sh_f v hs, Option.bind_some, if_true, R_ref]
      · simp only [fR_plugIn, R_sh_t v hj, R_sh_f v ht, Option.bind_some, i10, if_false, if_true, R_ref]
    · simp only [fC__plugIn, C_sh_f _ ht, Option.bind_some, if_true, C_ref]
  rcases shelf_cases s with hs | ⟨j, hj, rfl⟩
  · refine Act2.ref hM 1 (fun v hv => ?_) (fun w hr => Or.inr ?_)
    · simp only [fR_plugIn, R_sh_f v hs, Option.bind_some, if_true, R_ref]
    · simp only [fC__plugIn, C_sh_t _ ha, Option.bind_some, i10, if_false, C_np1 w _ i hs]
  rcases shelfM hM hj with h0 | ⟨p, hp, hpt⟩
  · refine Act2.ref hM 2 (fun v hv => ?_) (fun w hr => Or.inr ?_)
    · simp only [fR_plugIn, R_sh_t v hj, R_sh_t v ha, Option.bind_some, i10, if_false, R_rp2 hM v hv i hj h0, l20, R_ref]
    · simp only [fC__plugIn, C_sh_t _ ha, Option.bind_some, i10, if_false, C_np2 hM w hr _ i hj h0]
  have k1 := (hM.2.2.1 p hpt).1
  by_cases hk : ¬ 16 ≤ kd M p
  · refine Act2.ref hM 3 (fun v hv => ?_) (fun w hr => Or.inr ?_)
    · simp only [fR_plugIn, R_sh_t v hj, R_sh_t v ha, Option.bind_some, i10, if_false, R_rp3 hM v hv i hj hp hpt hk, l30, R_ref]
    · simp only [fC__plugIn, C_sh_t _ ha, Option.bind_some, i10, if_false, C_np3 hM w hr _ i hj hp hpt ((mkRT ⟨_, k1⟩).mpr hk)]
  have hk := Decidable.not_not.mp hk
  have hm := mt (mkRT ⟨_, k1⟩).mp (fun z => z hk)
  rcases placeM hM hpt i with hi | ⟨i, hi, rfl⟩
  · refine Act2.ref hM 4 (fun v hv => ?_) (fun w hr => Or.inr ?_)
    · simp only [fR_plugIn, R_sh_t v hj, R_sh_t v ha, Option.bind_some, i10, if_false, R_rp4 hM v hv hj hp hpt hk hi, l40, R_ref]
    · simp only [fC__plugIn, C_sh_t _ ha, Option.bind_some, i10, if_false, C_np4 hM w hr _ hj hp hpt hm hi]
  have hla := (hM.2.1 a ha).1
  have hR1 : ∀ v, gM v = M → fR_plugIn v (nI j) (nI i) (nI a) = if ((if sl M a = 0 then 1 else b2 (fitk (kd M p) (kd M (sl M a - 1)))) = (0 : Int32)) then some (0, sI v 15 5) else some (if pn M p i = 0 then 0 else 1, rM v (sh M (12 * p + i) (lN (sl M a)))) := by
    intro v hv
    have hpn := (hM.2.2.2.1 p hpt hk i hi).1
    have h12 := (hM.2.2.1 p hpt).2.2.2.1
    simp only [fR_plugIn, fR_plugIn_95, R_sh_t v hj, R_sh_t v ha, Option.bind_some, i10, if_false, R_rp0 hM v hv hj hp hpt hk hi, l00, if_true, kb540 ha, g_let_eq, lb540 ha, R_g v hv, (hM.2.1 a ha).2, R_on1 hM v hv hj hp, R_kd hM v hv hpt, nI_l (show sl M a < 2 ^ 31 by omega), R_fitM hM v hv hk k1 hla, R_ref, R_th hM v hv hpt hk hi, kb12 (show p < 60 by omega) (show i < 12 by omega), lb12 (show p < 60 by omega) (show i < 12 by omega), rM_p v hv]
    by_cases hz : pn M p i = 0
    · simp only [if_pos ((nIm1lt (show pn M p i < 2 ^ 31 by omega)).mpr hz), if_pos hz]
    · simp only [if_neg (mt (nIm1lt (show pn M p i < 2 ^ 31 by omega)).mp hz), if_neg hz]
  have hC1 : ∀ w, Rel (w.2.1 2) M → fC__plugIn w (nI j) (nI i) (nI a) = if ((if sl M a = 0 then 1 else b2 (fitk (kd M p) (kd M (sl M a - 1)))) = (0 : Int32)) then some (0, cI (cI w 0 0) 0 5) else some (if pn M p i = 0 then 0 else 1, cW (cI w 0 0) (vp_updL (w.2.1 2) (17 + p * 23 + 11 + i) (nI (sl M a) - 1).toInt64)) := by
    intro w hr
    have hpn := (hM.2.2.2.1 p hpt hk i hi).1
    simp only [fC__plugIn, C_sh_t _ ha, Option.bind_some, i10, if_false, C_np0 hM w hr _ hj hp hpt hm hi, if_true, C_on1 hM (cI w 0 0) hr hj hp, C_onX hM (cI w 0 0) hr ha, C_fitM hM (cI w 0 0) hr hpt hk hla, C_ref, C_atT (cI w 0 0) hr hM hpt hk hi, C_sp hM (cI w 0 0) hr _ hpt hi, cL_cW]
    by_cases hz : pn M p i = 0
    · simp only [if_pos ((lgc0 _ _).mpr ((lNm1_eq (show pn M p i < 2 ^ 31 by omega)).mpr hz)), if_pos hz]
      rfl
    · simp only [if_neg (mt (lgc0 _ _).mp (mt (lNm1_eq (show pn M p i < 2 ^ 31 by omega)).mp hz)), if_neg hz]
      rfl
  have h12 := (hM.2.2.1 p hpt).2.2.2.1
  by_cases hf : (if sl M a = 0 then 1 else b2 (fitk (kd M p) (kd M (sl M a - 1)))) = (0 : Int32)
  · exact Act2.ref hM 5 (fun v hv => by rw [hR1 v hv, if_pos hf]) (fun w hr => Or.inr (by rw [hC1 w hr, if_pos hf]))
  · refine Act2.ok (M' := sh M (12 * p + i) (lN (sl M a))) (hM.setP _ hpt hi (fun _ => ⟨sl M a, rfl, hla, fun hz => ?_⟩)) (Ext.sh M _ (by omega)) (if pn M p i = 0 then 0 else 1) (fun v hv => by rw [hR1 v hv, if_neg hf]) (fun w hr => ⟨_, by rw [hC1 w hr, if_neg hf], CSt_ok w (hr.setP _ _ (show p < 60 by omega) (show i < 12 by omega) (by rw [if_pos ⟨hk, hi⟩]; exact nIm1_64 (by omega)))⟩)
    cases hb : fitk (kd M p) (kd M (sl M a - 1))
    · exact absurd ((fit01 _ _).mpr ⟨hz, hb⟩) hf
    · rfl
theorem act_pull {M : GH} (hM : WF M) (s i t : Int32) : Act2 (fun v => fR_pullOut v s i t) (fun w => fC__pullOut w s i t) M := by
  have h60 := hM.1.1
  rcases shelf_cases t with ht | ⟨a, ha, rfl⟩
  · refine Act2.ref hM 1 (fun v hv => ?_) (fun w hr => Or.inl ?_)
    · rcases shelf_cases s with hs | ⟨j, hj, rfl⟩
      · simp only [fR_pullOut, R_sh_f v hs, Option.bind_some, if_true, R_ref]
      · simp only [fR_pullOut, R_sh_t v hj, R_sh_f v ht, Option.bind_some, i10, if_false, if_true, R_ref]
    · simp only [fC__pullOut, C_sh_f _ ht, Option.bind_some, if_true, C_ref]
  rcases shelf_cases s with hs | ⟨j, hj, rfl⟩
  · refine Act2.ref hM 1 (fun v hv => ?_) (fun w hr => Or.inr ?_)
    · simp only [fR_pullOut, R_sh_f v hs, Option.bind_some, if_true, R_ref]
    · simp only [fC__pullOut, C_sh_t _ ha, Option.bind_some, i10, if_false, C_np1 w _ i hs]
  rcases shelfM hM hj with h0 | ⟨p, hp, hpt⟩
  · refine Act2.ref hM 2 (fun v hv => ?_) (fun w hr => Or.inr ?_)
    · simp only [fR_pullOut, R_sh_t v hj, R_sh_t v ha, Option.bind_some, i10, if_false, R_rp2 hM v hv i hj h0, l20, R_ref]
    · simp only [fC__pullOut, C_sh_t _ ha, Option.bind_some, i10, if_false, C_np2 hM w hr _ i hj h0]
  have k1 := (hM.2.2.1 p hpt).1
  by_cases hk : ¬ 16 ≤ kd M p
  · refine Act2.ref hM 3 (fun v hv => ?_) (fun w hr => Or.inr ?_)
    · simp only [fR_pullOut, R_sh_t v hj, R_sh_t v ha, Option.bind_some, i10, if_false, R_rp3 hM v hv i hj hp hpt hk, l30, R_ref]
    · simp only [fC__pullOut, C_sh_t _ ha, Option.bind_some, i10, if_false, C_np3 hM w hr _ i hj hp hpt ((mkRT ⟨_, k1⟩).mpr hk)]
  have hk := Decidable.not_not.mp hk
  have hm := mt (mkRT ⟨_, k1⟩).mp (fun z => z hk)
  rcases placeM hM hpt i with hi | ⟨i, hi, rfl⟩
  · refine Act2.ref hM 4 (fun v hv => ?_) (fun w hr => Or.inr ?_)
    · simp only [fR_pullOut, R_sh_t v hj, R_sh_t v ha, Option.bind_some, i10, if_false, R_rp4 hM v hv hj hp hpt hk hi, l40, R_ref]
    · simp only [fC__pullOut, C_sh_t _ ha, Option.bind_some, i10, if_false, C_np4 hM w hr _ hj hp hpt hm hi]
  have h12 := (hM.2.2.1 p hpt).2.2.2.1
  obtain ⟨hpn, hpe, -⟩ := hM.2.2.2.1 p hpt hk i hi
  refine Act2.ok (hM.setS (j := a) (p := pn M p i) ha hpn) (Ext.sg M _ (by omega)) (if pn M p i = 0 then 0 else 1) (fun v hv => ?_) (fun w hr => ?_)
  · simp only [fR_pullOut, R_sh_t v hj, R_sh_t v ha, Option.bind_some, i10, if_false, R_rp0 hM v hv hj hp hpt hk hi, l00, if_true, R_on1 hM v hv hj hp, kb12 (show p < 60 by omega) (show i < 12 by omega), lb12 (show p < 60 by omega) (show i < 12 by omega), g_let_eq, kb540 ha, lb540 ha, R_h v hv, hpe, lN_i, sA_get]
    rw [rM_a v hv]
    by_cases h : pn M p i = 0
    · rw [if_pos ((nIle0 (by omega)).mpr h), if_pos h]
    · rw [if_neg (mt (nIle0 (by omega)).mp h), if_neg h]
  · refine ⟨_, ?_, CSt_ok w (hr.setS (j := a) ha (show pn M p i < 2 ^ 31 by omega))⟩
    simp only [fC__pullOut, C_sh_t _ ha, Option.bind_some, i10, if_false, C_np0 hM w hr _ hj hp hpt hm hi, if_true, C_on1 hM (cI w 0 0) hr hj hp, C_atT (cI w 0 0) hr hM hpt hk hi, lNm1, C_put (M := M) (cI w 0 0) hr ha (show pn M p i < 2 ^ 31 by omega)]
    rfl
theorem act_write {M : GH} (hM : WF M) (s i : Int32) (x : Int64) : Act2 (fun v => fR_writeIn v s i x) (fun w => fC__writeNumber w s i x) M := by
  have h60 := hM.1.1
  rcases shelf_cases s with hs | ⟨j, hj, rfl⟩
  · refine Act2.ref hM 1 (fun v hv => ?_) (fun w hr => Or.inr ?_)
    · simp only [fR_writeIn, R_sh_f v hs, Option.bind_some, if_true, R_ref]
    · simp only [fC__writeNumber, Option.bind_some, i10, if_false, C_np1 w _ i hs]
  rcases shelfM hM hj with h0 | ⟨p, hp, hpt⟩
  · refine Act2.ref hM 2 (fun v hv => ?_) (fun w hr => Or.inr ?_)
    · simp only [fR_writeIn, R_sh_t v hj, Option.bind_some, i10, if_false, R_on0 hM v hv hj h0, m1le, R_ref]
    · simp only [fC__writeNumber, Option.bind_some, i10, if_false, C_np2 hM w hr _ i hj h0]
  have k1 := (hM.2.2.1 p hpt).1
  by_cases hk : ¬ (13 ≤ kd M p ∧ kd M p ≤ 15)
  · refine Act2.ref hM 3 (fun v hv => ?_) (fun w hr => Or.inr ?_)
    · simp only [fR_writeIn, R_sh_t v hj, Option.bind_some, i10, if_false, R_on1 hM v hv hj hp, nIge0 (show p < 2 ^ 31 by omega), if_true, R_kd hM v hv hpt, R_num v k1, if_neg hk, R_ref]
    · simp only [fC__writeNumber, Option.bind_some, i10, if_false, C_np3 hM w hr _ i hj hp hpt ((mkNR ⟨_, k1⟩).mpr hk)]
  have hk := Decidable.not_not.mp hk
  have hm := mt (mkNR ⟨_, k1⟩).mp (fun z => z hk)
  rcases placeM hM hpt i with hi | ⟨i, hi, rfl⟩
  · refine Act2.ref hM 4 (fun v hv => ?_) (fun w hr => Or.inr ?_)
    · simp only [fR_writeIn, R_sh_t v hj, Option.bind_some, i10, if_false, R_on1 hM v hv hj hp, nIge0 (show p < 2 ^ 31 by omega), if_true, R_kd hM v hv hpt, R_num v k1, if_pos hk, R_pf hM v hv hpt hi, R_ref]
    · simp only [fC__writeNumber, Option.bind_some, i10, if_false, C_np4 hM w hr _ hj hp hpt hm hi]
  have h12 := (hM.2.2.1 p hpt).2.2.2.1
  have key : ∀ y : Int64, (∀ v, gM v = M → fR_writeIn v (nI j) (nI i) x = some (1, rM v (sh M (12 * p + i) y))) → (∀ w : CS, fC_K_asHeldIn w (nI (kd M p)) x = some (y, w)) → Act2 (fun v => fR_writeIn v (nI j) (nI i) x) (fun w => fC__writeNumber w (nI j) (nI i) x) M := by
    intro y hR hC
    refine Act2.ok (M' := sh M (12 * p + i) y) (hM.setP _ hpt hi (fun z => absurd z (by omega))) (Ext.sh M _ (by omega)) 1 hR (fun w hr => ⟨_, ?_, CSt_ok w (hr.setP y y (show p < 60 by omega) (show i < 12 by omega) (by rw [if_neg (by omega)]))⟩)
    simp only [fC__writeNumber, Option.bind_some, i10, if_false, C_np0 hM w hr _ hj hp hpt hm hi, if_true, C_on1 hM (cI w 0 0) hr hj hp, C_kd hM (cI w 0 0) hr hpt, hC, C_sp hM (cI w 0 0) hr _ hpt hi, cL_cW]
    rfl
  by_cases h13 : kd M p = 13
  · refine key x.toInt32.toInt64 (fun v hv => ?_) (fun w => ?_)
    · simp only [fR_writeIn, R_sh_t v hj, Option.bind_some, i10, if_false, R_on1 hM v hv hj hp, nIge0 (show p < 2 ^ 31 by omega), if_true, R_kd hM v hv hpt, R_num v k1, if_pos hk, R_pt hM v hv hpt hi, if_pos ((eqk k1 (by decide)).mpr h13), kb12 (show p < 60 by omega) (show i < 12 by omega), lb12 (show p < 60 by omega) (show i < 12 by omega), g_let_eq, rM_p v hv]
    · unfold fC_K_asHeldIn; rw [if_pos ((eqk k1 (by decide)).mpr h13)]
  · by_cases h14 : kd M p = 14
    · refine key x.toInt32.toInt8.toInt32.toInt64 (fun v hv => ?_) (fun w => ?_)
      · simp only [fR_writeIn, R_sh_t v hj, Option.bind_some, i10, if_false, R_on1 hM v hv hj hp, nIge0 (show p < 2 ^ 31 by omega), if_true, R_kd hM v hv hpt, R_num v k1, if_pos hk, R_pt hM v hv hpt hi, if_neg (mt (eqk k1 (by decide)).mp h13), if_pos ((eqk k1 (by decide)).mpr h14), kb12 (show p < 60 by omega) (show i < 12 by omega), lb12 (show p < 60 by omega) (show i < 12 by omega), g_let_eq, rM_p v hv]
      · unfold fC_K_asHeldIn; rw [if_neg (mt (eqk k1 (by decide)).mp h13), if_pos ((eqk k1 (by decide)).mpr h14)]
    · refine key x (fun v hv => ?_) (fun w => ?_)
      · simp only [fR_writeIn, R_sh_t v hj, Option.bind_some, i10, if_false, R_on1 hM v hv hj hp, nIge0 (show p < 2 ^ 31 by omega), if_true, R_kd hM v hv hpt, R_num v k1, if_pos hk, R_pt hM v hv hpt hi, if_neg (mt (eqk k1 (by decide)).mp h13), if_neg (mt (eqk k1 (by decide)).mp h14), kb12 (show p < 60 by omega) (show i < 12 by omega), lb12 (show p < 60 by omega) (show i < 12 by omega), g_let_eq, rM_p v hv]
      · unfold fC_K_asHeldIn; rw [if_neg (mt (eqk k1 (by decide)).mp h13), if_neg (mt (eqk k1 (by decide)).mp h14)]
