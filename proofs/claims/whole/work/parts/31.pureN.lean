/-! PURE 13: run -/
theorem rowFrom_eq {M M' : GH} {u : Nat} : ∀ (d i : Nat), (∀ j, i ≤ j → j < i + d → pn M' u j = pn M u j) → rowFrom M' u d i = rowFrom M u d i := by
  intro d
  induction d with
  | zero => intro i _; rfl
  | succ d ih =>
    intro i h
    unfold rowFrom
    rw [h i (by omega) (by omega), ih (i + 1) (fun j h1 h2 => h j (by omega) (by omega))]
theorem plist_eq {M M' : GH} (hM : WF M) (hs : SkE M.1 M'.1) (hp : ∀ u i, u < tc M → 16 ≤ kd M u → i < 12 → M'.2 (12 * u + i) = M.2 (12 * u + i)) {t : Nat} (ht : t < tc M) (hk : played (kd M t) = true) : plist M' t = plist M t := by
  have h60 := hM.1.1
  have ek : ∀ u, u < 60 → kd M' u = kd M u := fun u hu => congrArg Int32.toNatClampNeg (hs u (by omega))
  have el : ∀ u, u < 60 → ln M' u = ln M u := fun u hu => congrArg Int32.toNatClampNeg (hs (60 + u) (by omega))
  have ep : ∀ u i, u < tc M → 16 ≤ kd M u → i < 12 → pn M' u i = pn M u i := fun u i h1 h2 h3 => by unfold pn; rw [hp u i h1 h2 h3]
  obtain ⟨c2, -, -, c4, -⟩ := hM.2.2.1 t ht
  have hpl : kd M t ≤ 10 ∨ (17 ≤ kd M t ∧ kd M t ≠ 21) := (played_tab ⟨kd M t, c2⟩).mp hk
  unfold plist
  rw [ek t (by omega), el t (by omega)]
  by_cases h0 : under (kd M t) 0 = true
  · rw [if_pos h0, if_pos h0]
  · have h10 : ¬ kd M t ≤ 10 := fun z => h0 ((part_kind ⟨kd M t, c2⟩).mpr z)
    rw [if_neg h0, if_neg h0]
    by_cases hb : kd M t = 23 ∨ kd M t = 24
    · rw [if_pos hb, if_pos hb]
      have key : ∀ (d i : Nat), i + d ≤ ln M t → boardFrom M' t d i = boardFrom M t d i := by
        intro d
        induction d with
        | zero => intro i _; rfl
        | succ d ih =>
          intro i hi
          unfold boardFrom
          rw [ep t i ht (by omega) (by omega), ih (i + 1) (by omega)]
          by_cases hz : pn M t i = 0
          · rw [if_pos hz, if_pos hz]
          · rw [if_neg hz, if_neg hz]
            obtain ⟨e1, e2, -⟩ := board_row hM ht hb (show i < ln M t by omega) hz
            have h12 := (hM.2.2.1 _ e1).2.2.2.1
            rw [el _ (by omega), rowFrom_eq (M := M) (M' := M') _ 0 (fun j _ hj => ep _ j e1 (by omega) (by omega))]
      exact key _ _ (by omega)
    · rw [if_neg hb, if_neg hb]
      exact rowFrom_eq _ 0 (fun j _ hj => ep t j ht (by omega) (by omega))
def runStep (l : List Nat) (q i : Nat) (M : GH) : GH := sh ((foldT l M.1 (M.2 (12 * q + i)).toInt32).2, M.2) (12 * q + i) (foldT l M.1 (M.2 (12 * q + i)).toInt32).1.toInt64
def runS (l : List Nat) (q : Nat) : Nat → Nat → GH → GH
  | 0, _, M => M
  | d + 1, i, M => runS l q d (i + 1) (runStep l q i M)
def RunI (M M' : GH) : Prop := WF M' ∧ SkE M.1 M'.1 ∧ (∀ u i, u < tc M → 16 ≤ kd M u → i < 12 → M'.2 (12 * u + i) = M.2 (12 * u + i))
def RunX (M M' : GH) : Prop := RunI M M' ∧ ∀ i, 720 ≤ i → M'.2 i = M.2 i
theorem RunI.st {M M' : GH} (hM : WF M) (h : RunI M M') {p q i : Nat} (hp : p < tc M) (hk : played (kd M p) = true) (hq : q < tc M) (hk13 : kd M q = 13) (hi : i < ln M q) : RunI M (runStep (plist M p) q i M') := by
  obtain ⟨h1, h2, h3⟩ := h
  have h60 := hM.1.1
  have h12 := (hM.2.2.1 q hq).2.2.2.1
  have hmem := plist_mem hM hp hk
  have et : tc M' = tc M := congrArg Int32.toNatClampNeg (h2 556 (by omega))
  have hup := foldT_up (T := tc M') (by omega) (plist M p) (fun u hu => by have := (hmem u hu).1; omega) M'.1 (M'.2 (12 * q + i)).toInt32
  have hw := h1.up hup
  have e1 : tc ((foldT (plist M p) M'.1 (M'.2 (12 * q + i)).toInt32).2, M'.2) = tc M := (congrArg Int32.toNatClampNeg (hup.sk 556 (by omega))).trans et
  have e2 : kd ((foldT (plist M p) M'.1 (M'.2 (12 * q + i)).toInt32).2, M'.2) q = kd M q := congrArg Int32.toNatClampNeg ((hup.sk q (by omega)).trans (h2 q (by omega)))
  have e3 : ln ((foldT (plist M p) M'.1 (M'.2 (12 * q + i)).toInt32).2, M'.2) q = ln M q := congrArg Int32.toNatClampNeg ((hup.sk (60 + q) (by omega)).trans (h2 (60 + q) (by omega)))
  refine ⟨hw.setP _ (by rw [e1]; exact hq) (by rw [e3]; exact hi) (fun z => absurd z (by rw [e2]; omega)), h2.tr hup.sk, fun u j hu hk2 hj => ?_⟩
  show vp_updL M'.2 (12 * q + i) _ (12 * u + j) = _
  have hne : u ≠ q := fun z => by subst z; omega
  rw [updL_ne _ _ (by omega)]
  exact h3 u j hu hk2 hj
theorem rM_rM (v : RS) (A B : GH) : rM (rM v A) B = rM v B := by
  show (v.1, va_up (va_up v.2.1 2 A.1) 2 B.1, va_up (va_up v.2.2 3 A.2) 3 B.2) = _
  rw [bx_uu, bx_uu]
  rfl
theorem gM_rM (v : RS) (A : GH) : gM (rM v A) = A := by
  show (va_up v.2.1 2 A.1 2, va_up v.2.2 3 A.2 3) = A
  rw [up_same, up_same]
theorem R_run87 {M : GH} (hM : WF M) {j p q : Nat} (hj : j < 16) (hsl : sl M j = p + 1) (hp : p < tc M) (hk : played (kd M p) = true) (hq : q < tc M) (hk13 : kd M q = 13) : ∀ (d i fu : Nat) (v : RS) (M' : GH), RunI M M' → gM v = M' → i + d = ln M q → d < fu → fR_runOver_87 fu v (nI j) (nI q) (nI i) = some (nI (ln M q), rM v (runS (plist M p) q d i M')) := by
  have h60 := hM.1.1
  have h12 := (hM.2.2.1 q hq).2.2.2.1
  intro d
  induction d with
  | zero =>
    intro i fu v M' hI hv hi hf
    obtain ⟨fu, rfl⟩ : ∃ m, fu = m + 1 := ⟨fu - 1, by omega⟩
    obtain ⟨h1, h2, h3⟩ := hI
    have et : tc M' = tc M := congrArg Int32.toNatClampNeg (h2 556 (by omega))
    have el : ln M' q = ln M q := congrArg Int32.toNatClampNeg (h2 (60 + q) (by omega))
    unfold fR_runOver_87
    simp only [R_ln h1 v hv (show q < tc M' by omega), Option.bind_some, el, if_pos (nI_le (show ln M q ≤ i by omega) (show i < 2 ^ 31 by omega))]
    show _ = some (nI (ln M q), rM v M')
    rw [rM_self v hv]
  | succ d ih =>
    intro i fu v M' hI hv hi hf
    obtain ⟨fu, rfl⟩ : ∃ m, fu = m + 1 := ⟨fu - 1, by omega⟩
    have hI2 := hI.st hM hp hk hq hk13 (show i < ln M q by omega)
    obtain ⟨h1, h2, h3⟩ := hI
    have et : tc M' = tc M := congrArg Int32.toNatClampNeg (h2 556 (by omega))
    have el : ln M' q = ln M q := congrArg Int32.toNatClampNeg (h2 (60 + q) (by omega))
    have es : sl M' j = p + 1 := (congrArg Int32.toNatClampNeg (h2 (540 + j) (by omega))).trans hsl
    have ek : kd M' p = kd M p := congrArg Int32.toNatClampNeg (h2 p (by omega))
    have hv3 : v.2.2 3 = M'.2 := by subst hv; rfl
    have e := R_playThing v h1 (SkE.rf M'.1) hv3 (show p < tc M' by omega) (by rw [ek]; exact hk) (M'.2 (12 * q + i)).toInt32
    rw [rS_v v hv, plist_eq hM h2 h3 hp hk] at e
    unfold fR_runOver_87
    simp only [R_ln h1 v hv (show q < tc M' by omega), Option.bind_some, el, if_neg (nI_ge (show i < ln M q by omega) (show ln M q < 2 ^ 31 by omega)), R_on1 h1 v hv hj es, kb12 (show q < 60 by omega) (show i < 12 by omega), lb12 (show q < 60 by omega) (show i < 12 by omega), g_let_eq, R_h v hv, e]
    rw [rM_g v hv, rM_p _ (gM_rM v _), rM_rM, nI_1]
    have e9 := ih (i + 1) fu _ _ hI2 (gM_rM v _) (by omega) (by omega)
    rw [rM_rM] at e9
    exact e9
theorem C_run91 {M : GH} (hM : WF M) {p q : Nat} (hp : p < tc M) (hk : played (kd M p) = true) (hq : q < tc M) (hk13 : kd M q = 13) (w : CS) (hc : chainIs w (plist M p)) : ∀ (d i fu : Nat) (f : Nat → Int64) (M' : GH), RunI M M' → Rel f M' → i + d = ln M q → d < fu → ∃ f', fC__runOver_91 fu (cW w f) (nI q) (nI (ln M q)) (nI i) = some (nI (ln M q), cW w f') ∧ Rel f' (runS (plist M p) q d i M') := by
  have h60 := hM.1.1
  have h12 := (hM.2.2.1 q hq).2.2.2.1
  have hmem := plist_mem hM hp hk
  intro d
  induction d with
  | zero =>
    intro i fu f M' hI hr hi hf
    obtain ⟨fu, rfl⟩ : ∃ m, fu = m + 1 := ⟨fu - 1, by omega⟩
    unfold fC__runOver_91
    rw [if_pos (nI_le (show ln M q ≤ i by omega) (show i < 2 ^ 31 by omega))]
    exact ⟨f, rfl, hr⟩
  | succ d ih =>
    intro i fu f M' hI hr hi hf
    obtain ⟨fu, rfl⟩ : ∃ m, fu = m + 1 := ⟨fu - 1, by omega⟩
    have hI2 := hI.st hM hp hk hq hk13 (show i < ln M q by omega)
    obtain ⟨h1, h2, h3⟩ := hI
    have et : tc M' = tc M := congrArg Int32.toNatClampNeg (h2 556 (by omega))
    have el : ln M' q = ln M q := congrArg Int32.toNatClampNeg (h2 (60 + q) (by omega))
    have ek : kd M' q = kd M q := congrArg Int32.toNatClampNeg (h2 q (by omega))
    have hr' : Rel ((cW w f).2.1 2) M' := by rw [cW_get]; exact hr
    have a5 := (h1.2.2.1 q (by omega)).2.2.2.2.1
    have eat : fC_S_atPlace (cW w f) (nI q) (nI i) = some (M'.2 (12 * q + i), cW w f) := by
      rw [C_atP _ (by omega) (by rw [cW_get, hr.len (by omega)]; exact a5) (by omega) (show i < ln M' q by omega), cW_get, hr.2.2.2 q i (by omega) (by omega)]
      unfold plc
      rw [if_neg (by omega)]
    obtain ⟨f1, e2, r2⟩ := C_chain4 w hc (fun u hu => by have := (hmem u hu).1; omega) (plist M p).length 0 g_fuel f M' (M'.2 (12 * q + i)).toInt32 hr (by omega) (fuel_lt (by have := hc.2.1; omega))
    rw [List.drop_zero] at e2 r2
    unfold fC__runOver_91 fC__playChain
    rw [if_neg (nI_ge (show i < ln M q by omega) (show ln M q < 2 ^ 31 by omega)), eat, Option.bind_some]
    have e3 : fC__playChain_4 g_fuel (cW w f) (M'.2 (12 * q + i)).toInt32 0 = _ := e2
    have hup := foldT_up (T := tc M') (by omega) (plist M p) (fun u hu => by have := (hmem u hu).1; omega) M'.1 (M'.2 (12 * q + i)).toInt32
    have hw := h1.up hup
    have e4 : tc ((foldT (plist M p) M'.1 (M'.2 (12 * q + i)).toInt32).2, M'.2) = tc M := (congrArg Int32.toNatClampNeg (hup.sk 556 (by omega))).trans et
    have e5 : kd ((foldT (plist M p) M'.1 (M'.2 (12 * q + i)).toInt32).2, M'.2) q = kd M q := congrArg Int32.toNatClampNeg ((hup.sk q (by omega)).trans (h2 q (by omega)))
    have e6 : ln ((foldT (plist M p) M'.1 (M'.2 (12 * q + i)).toInt32).2, M'.2) q = ln M q := congrArg Int32.toNatClampNeg ((hup.sk (60 + q) (by omega)).trans (h2 (60 + q) (by omega)))
    simp only [e3, Option.bind_some]
    rw [C_sp hw (cW w f1) (by rw [cW_get]; exact r2) _ (by rw [e4]; exact hq) (by rw [e6]; omega), Option.bind_some, cW_set, nI_1]
    exact ih (i + 1) fu _ _ hI2 (r2.setP _ _ (show q < 60 by omega) (show i < 12 by omega) (by rw [if_neg (by rw [e5]; omega)])) (by omega) (by omega)
theorem run_R {M : GH} (hM : WF M) {j a p q : Nat} (hj : j < 16) (ha : a < 16) (hp : sl M j = p + 1) (hq : sl M a = q + 1) (hpt : p < tc M) (hqt : q < tc M) (hk : played (kd M p) = true) (h13 : kd M q = 13) (v : RS) (hv : gM v = M) : fR_runOver v (nI j) (nI a) = some (nI (ln M q), rM v (runS (plist M p) q (ln M q) 0 M)) := by
  have h60 := hM.1.1
  have k1 := (hM.2.2.1 p hpt).1
  have q1 := (hM.2.2.1 q hqt).1
  have hI0 : RunI M M := ⟨hM, SkE.rf _, fun _ _ _ _ _ => rfl⟩
  have h12 := (hM.2.2.1 q hqt).2.2.2.1
  simp only [fR_runOver, R_sh_t v hj, R_sh_t v ha, Option.bind_some, i10, if_false, R_on1 hM v hv hj hp, nIneg (show p < 2 ^ 31 by omega), R_on1 hM v hv ha hq, nIge0 (show q < 2 ^ 31 by omega), if_true, R_kd hM v hv hpt, R_isPlayed v k1, hk, if_neg (mt (b2_0 true).mp (by decide))]
  rw [R_kd hM v hv hqt, Option.bind_some, if_pos (show (nI (kd M q), v).1 = 13 from ((eqk q1 (show 13 < 25 by decide)).mpr h13)), R_on1 hM v hv ha hq, Option.bind_some]
  show fR_runOver_87 g_fuel v (nI j) (nI q) (nI 0) = _
  exact R_run87 hM hj hp hpt hk hqt h13 (ln M q) 0 g_fuel v M hI0 hv (by omega) (fuel_lt (by omega))
theorem run_C {M : GH} (hM : WF M) {j a p q : Nat} (hj : j < 16) (ha : a < 16) (hp : sl M j = p + 1) (hq : sl M a = q + 1) (hpt : p < tc M) (hqt : q < tc M) (hk : played (kd M p) = true) (h13 : kd M q = 13) (w : CS) (hr : Rel (w.2.1 2) M) : ∃ w', fC__runOver w (nI j) (nI a) = some (nI (ln M q), w') ∧ CSt w w' 0 (runS (plist M p) q (ln M q) 0 M) := by
  have h60 := hM.1.1
  have k1 := (hM.2.2.1 p hpt).1
  have q1 := (hM.2.2.1 q hqt).1
  have hI0 : RunI M M := ⟨hM, SkE.rf _, fun _ _ _ _ _ => rfl⟩
  have h12 := (hM.2.2.1 q hqt).2.2.2.1
  have hm := mt (mkPl ⟨_, k1⟩).mp (by rw [hk]; decide)
  obtain ⟨w1, e1, hc1, s1⟩ := C_lineUp hM hpt hk (cI w 0 0) hr
  have hr1 : Rel (w1.2.1 2) M := by rw [s1.2.1]; exact hr
  obtain ⟨f', e2, r2⟩ := C_run91 hM hpt hk hqt h13 w1 hc1 (ln M q) 0 g_fuel (w1.2.1 2) M hI0 hr1 (by omega) (fuel_lt (by omega))
  rw [cW_id] at e2
  refine ⟨_, ?_, CSt_chain w w1 s1 r2⟩
  simp only [fC__runOver, C_ee0 hM w hr hj ha hp hq hpt hqt, Option.bind_some, if_true, C_on1 hM (cI w 0 0) hr hj hp, C_on1 hM (cI w 0 0) hr ha hq, C_isInM (cI w 0 0) hr hM _ hpt, if_neg hm, i10, if_false]
  rw [C_isInM (cI w 0 0) hr hM _ hqt, Option.bind_some]
  simp only [if_neg (mt (mkN ⟨_, q1⟩).mp (fun z => z h13)), i10, if_false]
  rw [e1, Option.bind_some, C_ln hM w1 hr1 hqt, Option.bind_some]
  show fC__runOver_91 g_fuel w1 (nI q) (nI (ln M q)) (nI 0) = _
  exact e2
theorem act_run {M : GH} (hM : WF M) (s t : Int32) : Act2 (fun v => fR_runOver v s t) (fun w => fC__runOver w s t) M := by
  have h60 := hM.1.1
  rcases shelf_cases s with hs | ⟨j, hj, rfl⟩
  · refine Act2.ref hM 1 (fun v hv => ?_) (fun w hr => Or.inr ?_)
    · simp only [fR_runOver, R_sh_f v hs, Option.bind_some, if_true, R_ref]
    · simp only [fC__runOver, C_ee1 w (Or.inl hs), Option.bind_some, i10, if_false]
  rcases shelf_cases t with ht | ⟨a, ha, rfl⟩
  · refine Act2.ref hM 1 (fun v hv => ?_) (fun w hr => Or.inr ?_)
    · simp only [fR_runOver, R_sh_t v hj, R_sh_f v ht, Option.bind_some, i10, if_false, if_true, R_ref]
    · simp only [fC__runOver, C_ee1 w (Or.inr ht), Option.bind_some, i10, if_false]
  rcases shelfM hM hj with h0 | ⟨p, hp, hpt⟩
  · refine Act2.ref hM 2 (fun v hv => ?_) (fun w hr => Or.inr ?_)
    · simp only [fR_runOver, R_sh_t v hj, R_sh_t v ha, Option.bind_some, i10, if_false, R_on0 hM v hv hj h0, m1neg, if_true, R_ref]
    · simp only [fC__runOver, C_ee2 hM w hr hj ha (Or.inl h0), Option.bind_some, i10, if_false]
  rcases shelfM hM ha with h0 | ⟨q, hq, hqt⟩
  · refine Act2.ref hM 2 (fun v hv => ?_) (fun w hr => Or.inr ?_)
    · simp only [fR_runOver, R_sh_t v hj, R_sh_t v ha, Option.bind_some, i10, if_false, R_on1 hM v hv hj hp, nIneg (show p < 2 ^ 31 by omega), R_on0 hM v hv ha h0, m1le, R_ref]
    · simp only [fC__runOver, C_ee2 hM w hr hj ha (Or.inr h0), Option.bind_some, i10, if_false]
  have k1 := (hM.2.2.1 p hpt).1
  have q1 := (hM.2.2.1 q hqt).1
  cases hk : played (kd M p)
  · refine Act2.ref hM 3 (fun v hv => ?_) (fun w hr => Or.inr ?_)
    · simp only [fR_runOver, R_sh_t v hj, R_sh_t v ha, Option.bind_some, i10, if_false, R_on1 hM v hv hj hp, nIneg (show p < 2 ^ 31 by omega), R_on1 hM v hv ha hq, nIge0 (show q < 2 ^ 31 by omega), if_true, R_kd hM v hv hpt, R_isPlayed v k1, hk, if_pos ((b2_0 false).mpr rfl), R_ref]
    · simp only [fC__runOver, C_ee0 hM w hr hj ha hp hq hpt hqt, Option.bind_some, if_true, C_on1 hM (cI w 0 0) hr hj hp, C_on1 hM (cI w 0 0) hr ha hq, C_isInM (cI w 0 0) hr hM _ hpt, if_pos ((mkPl ⟨_, k1⟩).mpr hk), C_ref]
  have hm := mt (mkPl ⟨_, k1⟩).mp (by rw [hk]; decide)
  by_cases h13 : ¬ kd M q = 13
  · refine Act2.ref hM 3 (fun v hv => ?_) (fun w hr => Or.inr ?_)
    · simp only [fR_runOver, R_sh_t v hj, R_sh_t v ha, Option.bind_some, i10, if_false, R_on1 hM v hv hj hp, nIneg (show p < 2 ^ 31 by omega), R_on1 hM v hv ha hq, nIge0 (show q < 2 ^ 31 by omega), if_true, R_kd hM v hv hpt, R_isPlayed v k1, hk, if_neg (mt (b2_0 true).mp (by decide))]
      rw [R_kd hM v hv hqt, Option.bind_some, if_neg (show ¬ (nI (kd M q), v).1 = 13 from mt (eqk q1 (show 13 < 25 by decide)).mp h13)]
      rfl
    · simp only [fC__runOver, C_ee0 hM w hr hj ha hp hq hpt hqt, Option.bind_some, if_true, C_on1 hM (cI w 0 0) hr hj hp, C_on1 hM (cI w 0 0) hr ha hq, C_isInM (cI w 0 0) hr hM _ hpt, if_neg hm, i10, if_false]
      rw [C_isInM (cI w 0 0) hr hM _ hqt, Option.bind_some]
      simp only [if_pos ((mkN ⟨_, q1⟩).mpr h13), if_true, C_ref, Option.bind_some]
  have h13 := Decidable.not_not.mp h13
  have hI0 : RunI M M := ⟨hM, SkE.rf _, fun _ _ _ _ _ => rfl⟩
  have h12 := (hM.2.2.1 q hqt).2.2.2.1
  have hend : ∀ (d i : Nat) (M' : GH), RunX M M' → i + d = ln M q → RunX M (runS (plist M p) q d i M') := by
    intro d
    induction d with
    | zero => intro i M' h _; exact h
    | succ d ih => intro i M' h hi; exact ih (i + 1) _ ⟨h.1.st hM hpt hk hqt h13 (by omega), fun k hk7 => (updL_ne _ _ (show k ≠ 12 * q + i by omega)).trans (h.2 k hk7)⟩ (by omega)
  have hx := hend (ln M q) 0 M ⟨hI0, fun _ _ => rfl⟩ (by omega)
  exact Act2.ok hx.1.1 ⟨Nat.le_of_eq (congrArg Int32.toNatClampNeg (hx.1.2.1 556 (by omega))).symm, fun i hi => hx.1.2.1 i (by omega), hx.2⟩ (nI (ln M q)) (fun v hv => run_R hM hj ha hp hq hpt hqt hk h13 v hv) (fun w hr => run_C hM hj ha hp hq hpt hqt hk h13 w hr)
