/-! PURE 12: knob, when, play, rest, ticks -/
def Up (T : Nat) (g g' : Nat → Int32) : Prop := ∀ u, (u < 120 ∨ 540 ≤ u ∨ T ≤ u % 60) → g' u = g u
theorem Up.rf (T : Nat) (g : Nat → Int32) : Up T g g := fun _ _ => rfl
theorem Up.tr {T : Nat} {a b c : Nat → Int32} (h1 : Up T a b) (h2 : Up T b c) : Up T a c := fun u hu => (h2 u hu).trans (h1 u hu)
theorem Up.up {T : Nat} {g g' : Nat → Int32} {i : Nat} (x : Int32) (h : Up T g g') (hi : 120 ≤ i ∧ i < 540 ∧ i % 60 < T) : Up T g (upd g' i x) := fun u hu => by rw [upd_ne _ _ (by intro z; subst z; omega)]; exact h u hu
theorem Up.sk {T : Nat} {g g' : Nat → Int32} (h : Up T g g') : SkE g g' := fun u hu => h u (by omega)
theorem spT_up {T : Nat} (g : Nat → Int32) {p : Nat} (x : Int32) (hp : p < T) (hT : T ≤ 60) : Up T g (spT g p x).2 := by
  have h1 : Up T g (upd g (180 + p) (g (180 + p) + 1)) := (Up.rf T g).up _ (by omega)
  unfold spT
  split
  · exact h1
  split
  · exact h1
  split
  · show Up T g (if _ then _ else _)
    split
    · exact h1
    · exact h1.up _ (by omega)
  split
  · exact h1.up _ (by omega)
  split
  · show Up T g (if _ then _ else _)
    split
    · exact h1.up _ (by omega)
    · exact (h1.up _ (by omega)).up _ (by omega)
  split
  · exact h1.up _ (by omega)
  split
  · exact h1.up _ (by omega)
  exact h1
theorem foldT_up {T : Nat} (hT : T ≤ 60) (l : List Nat) (hl : ∀ p ∈ l, p < T) (g : Nat → Int32) (x : Int32) : Up T g (foldT l g x).2 := by
  induction l generalizing g x with
  | nil => exact Up.rf T g
  | cons p l ih => exact (spT_up g x (hl p (List.mem_cons_self)) hT).tr (ih (fun q hq => hl q (List.mem_cons_of_mem _ hq)) _ _)
theorem spC_up {T : Nat} (g : Nat → Int32) {t : Nat} (k : Nat) (ht : t < T) (hT : T ≤ 60) : Up T g (spC g t k) := by
  have a100 : ∀ g', Up T g g' → Up T g (sp100 g' t k) := fun g' h => by unfold sp100; split <;> first | exact h.up _ (by omega) | exact h
  have a83 : ∀ g', Up T g g' → Up T g (sp83 g' t k) := fun g' h => by unfold sp83; apply a100; split <;> first | exact h.up _ (by omega) | exact h
  have a53 : ∀ g', Up T g g' → Up T g (sp53 g' t k) := fun g' h => by unfold sp53; apply a83; split <;> first | exact h | exact h.up _ (by omega)
  have a33 : ∀ g', Up T g g' → Up T g (sp33 g' t k) := fun g' h => by unfold sp33; apply a53; split <;> first | exact h | exact h.up _ (by omega)
  unfold spC
  apply a33
  split
  · exact ((Up.rf T g).up _ (by omega)).up _ (by omega)
  · exact (Up.rf T g).up _ (by omega)
theorem foldC_up {T : Nat} (hT : T ≤ 60) (M : GH) (l : List Nat) (hl : ∀ p ∈ l, p < T) (g : Nat → Int32) : Up T g (foldC M l g) := by
  induction l generalizing g with
  | nil => exact Up.rf T g
  | cons p l ih => exact (spC_up g (kd M p) (hl p (List.mem_cons_self)) hT).tr (ih (fun q hq => hl q (List.mem_cons_of_mem _ hq)) _)
theorem spTicks_up {T t : Nat} (ht : t < T) (hT : T ≤ 60) : ∀ (d i : Nat) (g : Nat → Int32) (x : Int32), Up T g (spTicks t d i g x).2 := by
  intro d
  induction d with
  | zero => intro i g x; exact Up.rf T g
  | succ d ih =>
    intro i g x
    unfold spTicks
    refine Up.tr ?_ (ih _ _ _)
    unfold spTick
    split
    · exact (Up.rf T g).up _ (by omega)
    · exact (Up.rf T g).up _ (by omega)
theorem foldK_up {M : GH} (hM : WF M) {t n : Nat} (ht : t < tc M) (hk : 16 ≤ kd M t) : ∀ (d i : Nat) (g : Nat → Int32) (x : Int32), i + d ≤ ln M t → Up (tc M) g (foldK M t n d i g x).2 := by
  intro d
  induction d with
  | zero => intro i g x _; exact Up.rf _ g
  | succ d ih =>
    intro i g x hi
    unfold foldK
    have hp := (hM.2.2.2.1 t ht hk i (by omega)).1
    split
    · exact ih _ _ _ (by omega)
    · exact (spTicks_up (by omega) hM.1.1 _ _ _ _).tr (ih _ _ _ (by omega))
theorem WF.up {M : GH} (h : WF M) {g : Nat → Int32} (hg : Up (tc M) M.1 g) : WF (g, M.2) := by
  obtain ⟨h1, h2, h3, h4, h5, h6, h7⟩ := h
  have e0 : ∀ j, (j < 120 ∨ 540 ≤ j) → g j = M.1 j := fun j hj => hg j (by omega)
  have e1 : tc (g, M.2) = tc M := congrArg Int32.toNatClampNeg (e0 556 (by omega))
  have e2 : ∀ u, u < 60 → kd (g, M.2) u = kd M u := fun u hu => congrArg Int32.toNatClampNeg (e0 u (by omega))
  have e3 : ∀ u, u < 60 → ln (g, M.2) u = ln M u := fun u hu => congrArg Int32.toNatClampNeg (e0 (60 + u) (by omega))
  have e4 : ∀ s, s < 16 → sl (g, M.2) s = sl M s := fun s hs => congrArg Int32.toNatClampNeg (e0 (540 + s) (by omega))
  refine ⟨⟨by rw [e1]; exact h1.1, by rw [e1]; exact (e0 556 (by omega)).trans h1.2⟩, fun s hs => ?_, fun u hu => ?_, fun u hu hk i hi => ?_, fun u hu i hi hi2 => ?_, fun u p hu hu2 hp => ?_, fun u i hu hu2 hi => ?_⟩
  · rw [e4 s hs, e1]
    exact ⟨(h2 s hs).1, (e0 _ (by omega)).trans (h2 s hs).2⟩
  · rw [e1] at hu
    rw [e2 u (by omega), e3 u (by omega)]
    obtain ⟨b1, b2, b3, b4, b5, b6⟩ := h3 u hu
    exact ⟨b1, b2, (e0 _ (by omega)).trans b3, b4, (e0 _ (by omega)).trans b5, b6⟩
  · rw [e1] at hu
    rw [e2 u (by omega)] at hk
    rw [e3 u (by omega)] at hi
    obtain ⟨a1, a2, a3⟩ := h4 u hu hk i hi
    have e5 : pn (g, M.2) u i = pn M u i := rfl
    rw [e5, e1, e2 u (by omega)]
    refine ⟨a1, a2, fun hz => ?_⟩
    rw [e2 _ (by omega)]
    exact a3 hz
  · rw [e1] at hu
    rw [e3 u (by omega)] at hi
    exact h5 u hu i hi hi2
  · rw [e1] at hu
    exact (hg _ (by omega)).trans (h6 u p hu hu2 hp)
  · rw [e1] at hu
    exact h7 u i hu hu2 hi
theorem Up.ext {M : GH} {T : Nat} {g : Nat → Int32} (h : Up T M.1 g) : Ext M (g, M.2) := ⟨Nat.le_of_eq (congrArg Int32.toNatClampNeg (h 556 (by omega))).symm, fun i hi => h i (by omega), fun _ _ => rfl⟩
theorem rS_v (v : RS) {M : GH} (hv : gM v = M) : rS v M.1 = v := by
  subst hv
  exact rS_id v
theorem act_knob {M : GH} (hM : WF M) (s x : Int32) : Act2 (fun v => fR_knobTo v s x) (fun w => fC__setKnob w s x) M := by
  have h60 := hM.1.1
  by_cases h1 : x < -1000
  · refine Act2.ref hM 1 (fun v hv => ?_) (fun w hr => Or.inl ?_)
    · rcases shelf_cases s with hs | ⟨j, hj, rfl⟩
      · simp only [fR_knobTo, R_sh_f v hs, Option.bind_some, if_true, R_ref]
      · simp only [fR_knobTo, R_sh_t v hj, Option.bind_some, i10, if_false, if_pos h1, R_ref]
    · simp only [fC__setKnob, if_pos h1, C_ref, Option.bind_some]
  by_cases h2 : ¬ x ≤ 1000
  · refine Act2.ref hM 1 (fun v hv => ?_) (fun w hr => Or.inl ?_)
    · rcases shelf_cases s with hs | ⟨j, hj, rfl⟩
      · simp only [fR_knobTo, R_sh_f v hs, Option.bind_some, if_true, R_ref]
      · simp only [fR_knobTo, R_sh_t v hj, Option.bind_some, i10, if_false, if_neg h1, if_neg h2, R_ref]
    · simp only [fC__setKnob, if_neg h1, if_neg h2, C_ref, Option.bind_some]
  have h2 := Decidable.not_not.mp h2
  rcases shelf_cases s with hs | ⟨j, hj, rfl⟩
  · refine Act2.ref hM 1 (fun v hv => ?_) (fun w hr => Or.inr ?_)
    · simp only [fR_knobTo, R_sh_f v hs, Option.bind_some, if_true, R_ref]
    · simp only [fC__setKnob, if_neg h1, if_pos h2, C_hn1 w _ hs, Option.bind_some, i10, if_false]
  rcases shelfM hM hj with h0 | ⟨p, hp, hpt⟩
  · refine Act2.ref hM 2 (fun v hv => ?_) (fun w hr => Or.inr ?_)
    · simp only [fR_knobTo, R_sh_t v hj, Option.bind_some, i10, if_false, if_neg h1, if_pos h2, R_on0 hM v hv hj h0, m1le, R_ref]
    · simp only [fC__setKnob, if_neg h1, if_pos h2, C_hn2 hM w hr _ hj h0, Option.bind_some, i10, if_false]
  have k1 := (hM.2.2.1 p hpt).1
  cases hu : under (kd M p) 0
  · refine Act2.ref hM 3 (fun v hv => ?_) (fun w hr => Or.inr ?_)
    · simp only [fR_knobTo, R_sh_t v hj, Option.bind_some, i10, if_false, if_neg h1, if_pos h2, R_on1 hM v hv hj hp, nIge0 (show p < 2 ^ 31 by omega), if_true, R_kd hM v hv hpt, R_isPart v k1, hu, if_pos ((b2_0 false).mpr rfl), R_ref]
    · simp only [fC__setKnob, if_neg h1, if_pos h2, C_hn3 hM w hr _ hj hp hpt ((mk1 ⟨_, k1⟩).mpr hu), Option.bind_some, i10, if_false]
  refine Act2.ok (M' := sg M (120 + p) x) (hM.set (q := 2) x hpt (by omega)) (Ext.sg M _ (by omega)) (M.1 (120 + p)) (fun v hv => ?_) (fun w hr => ⟨_, ?_, CSt_ok w (hr.set (c := 2) x (show p < 60 by omega) (by omega))⟩)
  · simp only [fR_knobTo, R_sh_t v hj, Option.bind_some, i10, if_false, if_neg h1, if_pos h2, R_on1 hM v hv hj hp, nIge0 (show p < 2 ^ 31 by omega), if_true, R_kd hM v hv hpt, R_isPart v k1, hu, if_neg (mt (b2_0 true).mp (by decide)), kb120 (show p < 60 by omega), lb120 (show p < 60 by omega), g_let_eq, R_g v hv, rM_a v hv]
  · have hm := mt (mk1 ⟨_, k1⟩).mp (by rw [hu]; decide)
    have e2 : fC_S_trait (cI w 0 0) (nI p) 2 = some (M.1 (120 + p), cI w 0 0) := by
      show fC_S_trait (cI w 0 0) (nI p) (nI 2) = _
      rw [C_trait _ (by omega) (by decide)]
      show some (((w.2.1 2) (17 + p * 23 + 2)).toInt32, _) = _
      rw [hr.fld (by omega) (by decide) (by decide) (by decide)]
      rfl
    have e3 : fC_S_setTrait (cI w 0 0) (nI p) 2 x = some (cW (cI w 0 0) (vp_updL (w.2.1 2) (17 + p * 23 + 2) x.toInt64)) := by
      show fC_S_setTrait (cI w 0 0) (nI p) (nI 2) x = _
      rw [C_set _ _ (by omega) (by decide)]
      rfl
    simp only [fC__setKnob, if_neg h1, if_pos h2, C_hn0 hM w hr _ hj hp hpt hm, Option.bind_some, if_true, C_on1 hM (cI w 0 0) hr hj hp, e2, e3]
theorem kind_cases (x : Int32) : (x < 0 ∨ 24 < x) ∨ ∃ j : Nat, j < 25 ∧ x = nI j := by
  rcases pk_ix x (n := 25) (by decide) with h | h | h
  · exact Or.inl (Or.inl h)
  · refine Or.inl (Or.inr ?_)
    have h1 : (nI 25).toInt ≤ x.toInt := Int32.le_iff_toInt_le.mp h
    have h2 : (nI 25).toInt = 25 := by decide
    refine Int32.lt_iff_toInt_lt.mpr ?_
    have h3 : (24 : Int32).toInt = 24 := by decide
    omega
  · exact Or.inr h
theorem C_kind_f (w : CS) {x : Int32} (h : x < 0 ∨ 24 < x) : fC_K_isKind w x = some (0, w) := by
  unfold fC_K_isKind
  by_cases h1 : x < 0
  · rw [if_pos h1]
  · rw [if_neg h1, if_pos]
    have h2 := Int32.lt_iff_toInt_lt.mp (h.resolve_left h1)
    refine Int32.le_iff_toInt_le.mpr ?_
    have h3 : (24 : Int32).toInt = 24 := by decide
    have h4 : (25 : Int32).toInt = 25 := by decide
    omega
theorem C_kind_t (w : CS) {o : Nat} (ho : o < 25) : fC_K_isKind w (nI o) = some (1, w) := by
  unfold fC_K_isKind
  rw [if_neg (nI_pos (by omega)), show (25 : Int32) = nI 25 from rfl, if_neg (nI_ge ho (by decide))]
theorem le24 {x : Int32} (h : x < 0 ∨ 24 < x) : x < 0 ∨ ¬ x ≤ 24 := h.imp id (fun z y => by
  have h1 := Int32.lt_iff_toInt_lt.mp z
  have h2 := Int32.le_iff_toInt_le.mp y
  omega)
theorem nIle24 {o : Nat} (ho : o < 25) : nI o ≤ 24 := nI_le (a := o) (b := 24) (by omega) (by decide)
theorem act_when {M : GH} (hM : WF M) (s x : Int32) : Act2 (fun v => fR_whenUnder v s x) (fun w => fC__askWhether w s x) M := by
  have h60 := hM.1.1
  rcases shelf_cases s with hs | ⟨j, hj, rfl⟩
  · refine Act2.ref hM 1 (fun v hv => ?_) (fun w hr => Or.inr ?_)
    · simp only [fR_whenUnder, R_sh_f v hs, Option.bind_some, if_true, R_ref]
    · simp only [fC__askWhether, g_let_eq, C_sh_f _ hs, Option.bind_some, if_true, C_ref]
  rcases kind_cases x with hx | ⟨o, ho, rfl⟩
  · refine Act2.ref hM 1 (fun v hv => ?_) (fun w hr => Or.inr ?_)
    · rcases le24 hx with h | h
      · simp only [fR_whenUnder, R_sh_t v hj, Option.bind_some, i10, if_false, if_pos h, R_ref]
      · by_cases h2 : x < 0
        · simp only [fR_whenUnder, R_sh_t v hj, Option.bind_some, i10, if_false, if_pos h2, R_ref]
        · simp only [fR_whenUnder, R_sh_t v hj, Option.bind_some, i10, if_false, if_neg h2, if_neg h, R_ref]
    · simp only [fC__askWhether, g_let_eq, C_sh_t _ hj, C_kind_f _ hx, Option.bind_some, i10, if_false, if_true, C_ref]
  rcases shelfM hM hj with h0 | ⟨p, hp, hpt⟩
  · refine Act2.same hM 0 (fun v hv => ?_) (fun w hr => ?_)
    · simp only [fR_whenUnder, R_sh_t v hj, Option.bind_some, i10, if_false, nIneg (show o < 2 ^ 31 by omega), if_pos (nIle24 ho), R_on0 hM v hv hj h0, m1neg, if_true]
    · simp only [fC__askWhether, g_let_eq, C_sh_t _ hj, C_kind_t _ ho, Option.bind_some, i10, if_false, C_on0 hM (cI w 0 0) hr hj h0, C_isIn_n, if_true]
  have k1 := (hM.2.2.1 p hpt).1
  have hb := mkBit ⟨o, ho⟩ ⟨_, k1⟩
  refine Act2.same hM (b2 (under (kd M p) o)) (fun v hv => ?_) (fun w hr => ?_)
  · simp only [fR_whenUnder, R_sh_t v hj, Option.bind_some, i10, if_false, nIneg (show o < 2 ^ 31 by omega), if_pos (nIle24 ho), R_on1 hM v hv hj hp, nIneg (show p < 2 ^ 31 by omega), R_kd hM v hv hpt, R_isUnder v k1 ho]
    cases under (kd M p) o <;> rfl
  · simp only [fC__askWhether, g_let_eq, C_sh_t _ hj, C_kind_t _ ho, Option.bind_some, i10, if_false, C_on1 hM (cI w 0 0) hr hj hp, C_isInM (cI w 0 0) hr hM _ hpt]
    cases hu : under (kd M p) o
    · simp only [if_pos (hb.mpr hu), if_true]; rfl
    · simp only [if_neg (mt hb.mp (by rw [hu]; decide)), i10, if_false]; rfl
/-! play, rest, ticks -/
theorem R_py1 (v : RS) {s : Int32} (h : s < 0 ∨ 15 < s) : fR_reasonOfPlay v s = some (1, v) := by
  simp only [fR_reasonOfPlay, R_sh_f v h, Option.bind_some, if_true]
theorem R_py2 {M : GH} (hM : WF M) (v : RS) (hv : gM v = M) {j : Nat} (hj : j < 16) (h : sl M j = 0) : fR_reasonOfPlay v (nI j) = some (2, v) := by
  simp only [fR_reasonOfPlay, R_sh_t v hj, Option.bind_some, i10, if_false, R_on0 hM v hv hj h, m1le]
theorem R_py3 {M : GH} (hM : WF M) (v : RS) (hv : gM v = M) {j p : Nat} (hj : j < 16) (h : sl M j = p + 1) (hp : p < tc M) (hk : played (kd M p) = false) : fR_reasonOfPlay v (nI j) = some (3, v) := by
  have := hM.1.1
  simp only [fR_reasonOfPlay, R_sh_t v hj, Option.bind_some, i10, if_false, R_on1 hM v hv hj h, nIge0 (show p < 2 ^ 31 by omega), if_true, R_kd hM v hv hp, R_isPlayed v (hM.2.2.1 p hp).1, hk, if_pos ((b2_0 false).mpr rfl)]
theorem R_py0 {M : GH} (hM : WF M) (v : RS) (hv : gM v = M) {j p : Nat} (hj : j < 16) (h : sl M j = p + 1) (hp : p < tc M) (hk : played (kd M p) = true) : fR_reasonOfPlay v (nI j) = some (0, v) := by
  have := hM.1.1
  simp only [fR_reasonOfPlay, R_sh_t v hj, Option.bind_some, i10, if_false, R_on1 hM v hv hj h, nIge0 (show p < 2 ^ 31 by omega), if_true, R_kd hM v hv hp, R_isPlayed v (hM.2.2.1 p hp).1, hk, if_neg (mt (b2_0 true).mp (by decide))]
theorem CSt_chain (w w1 : CS) {M : GH} {f : Nat → Int64} (s : Cs (cI w 0 0) w1) (h : Rel f M) : CSt w (cW w1 f) 0 M :=
  ⟨(s.1 0 (by decide)).trans (cI_same w 0 0), fun k h0 h2 => (s.1 k h2).trans (cI_ne w 0 h0), by rw [cW_get]; exact h, (cW_get3 _ _).trans (congrFun s.2.1 3), s.2.2⟩
theorem act_play {M : GH} (hM : WF M) (s x : Int32) : Act2 (fun v => fR_playBy v s x) (fun w => fC__playOnce w s x) M := by
  have h60 := hM.1.1
  rcases shelf_cases s with hs | ⟨j, hj, rfl⟩
  · refine Act2.ref hM 1 (fun v hv => ?_) (fun w hr => Or.inr ?_)
    · simp only [fR_playBy, R_py1 v hs, Option.bind_some, l10, if_false, R_ref]
    · simp only [fC__playOnce, C_hn1 w _ hs, Option.bind_some, i10, if_false]
  rcases shelfM hM hj with h0 | ⟨p, hp, hpt⟩
  · refine Act2.ref hM 2 (fun v hv => ?_) (fun w hr => Or.inr ?_)
    · simp only [fR_playBy, R_py2 hM v hv hj h0, Option.bind_some, l20, if_false, R_ref]
    · simp only [fC__playOnce, C_hn2 hM w hr _ hj h0, Option.bind_some, i10, if_false]
  have k1 := (hM.2.2.1 p hpt).1
  cases hk : played (kd M p)
  · refine Act2.ref hM 3 (fun v hv => ?_) (fun w hr => Or.inr ?_)
    · simp only [fR_playBy, R_py3 hM v hv hj hp hpt hk, Option.bind_some, l30, if_false, R_ref]
    · simp only [fC__playOnce, C_hn3 hM w hr _ hj hp hpt ((mkPl ⟨_, k1⟩).mpr hk), Option.bind_some, i10, if_false]
  have hm := mt (mkPl ⟨_, k1⟩).mp (by rw [hk]; decide)
  have hmem := plist_mem hM hpt hk
  refine Act2.ok (M' := ((foldT (plist M p) M.1 x).2, M.2)) (hM.up (foldT_up h60 _ (fun q hq => (hmem q hq).1) _ _)) (foldT_up h60 _ (fun q hq => (hmem q hq).1) _ _).ext (foldT (plist M p) M.1 x).1 (fun v hv => ?_) (fun w hr => ?_)
  · have h2 : v.2.2 3 = M.2 := by subst hv; rfl
    have e := R_playThing v hM (SkE.rf M.1) h2 hpt hk x
    rw [rS_v v hv] at e
    simp only [fR_playBy, R_py0 hM v hv hj hp hpt hk, Option.bind_some, l00, if_true, R_on1 hM v hv hj hp, e]
    rw [rM_g v hv]
  · obtain ⟨w1, e1, hc1, s1⟩ := C_lineUp hM hpt hk (cI w 0 0) hr
    have hr1 : Rel (w1.2.1 2) M := by rw [s1.2.1]; exact hr
    obtain ⟨f', e2, r2⟩ := C_chain4 w1 hc1 (fun q hq => by have := (hmem q hq).1; omega) (plist M p).length 0 g_fuel (w1.2.1 2) M x hr1 (by omega) (fuel_lt (by have := hc1.2.1; omega))
    rw [cW_id, List.drop_zero] at e2
    rw [List.drop_zero] at r2
    refine ⟨_, ?_, CSt_chain w w1 s1 r2⟩
    simp only [fC__playOnce, C_hn0 hM w hr _ hj hp hpt hm, Option.bind_some, if_true, C_on1 hM (cI w 0 0) hr hj hp, e1, fC__playChain]
    rw [show (0 : Int32) = nI 0 from rfl, e2, Option.bind_some]
theorem act_rest {M : GH} (hM : WF M) (s : Int32) : Act2 (fun v => fR_restOf v s) (fun w => fC__restAll w s) M := by
  have h60 := hM.1.1
  rcases shelf_cases s with hs | ⟨j, hj, rfl⟩
  · refine Act2.ref hM 1 (fun v hv => ?_) (fun w hr => Or.inr ?_)
    · simp only [fR_restOf, R_py1 v hs, Option.bind_some, l10, if_false, R_ref]
    · simp only [fC__restAll, C_hn1 w _ hs, Option.bind_some, i10, if_false]
  rcases shelfM hM hj with h0 | ⟨p, hp, hpt⟩
  · refine Act2.ref hM 2 (fun v hv => ?_) (fun w hr => Or.inr ?_)
    · simp only [fR_restOf, R_py2 hM v hv hj h0, Option.bind_some, l20, if_false, R_ref]
    · simp only [fC__restAll, C_hn2 hM w hr _ hj h0, Option.bind_some, i10, if_false]
  have k1 := (hM.2.2.1 p hpt).1
  cases hk : played (kd M p)
  · refine Act2.ref hM 3 (fun v hv => ?_) (fun w hr => Or.inr ?_)
    · simp only [fR_restOf, R_py3 hM v hv hj hp hpt hk, Option.bind_some, l30, if_false, R_ref]
    · simp only [fC__restAll, C_hn3 hM w hr _ hj hp hpt ((mkPl ⟨_, k1⟩).mpr hk), Option.bind_some, i10, if_false]
  have hm := mt (mkPl ⟨_, k1⟩).mp (by rw [hk]; decide)
  have hmem := plist_mem hM hpt hk
  refine Act2.ok (M' := (foldC M (plist M p) M.1, M.2)) (hM.up (foldC_up h60 M _ (fun q hq => (hmem q hq).1) _)) (foldC_up h60 M _ (fun q hq => (hmem q hq).1) _).ext (nI (plist M p).length) (fun v hv => ?_) (fun w hr => ?_)
  · have h2 : v.2.2 3 = M.2 := by subst hv; rfl
    have hpl : kd M p ≤ 10 ∨ (17 ≤ kd M p ∧ kd M p ≠ 21) := (played_tab ⟨kd M p, k1⟩).mp hk
    have k3 := (hM.2.2.1 p hpt).2.2.1
    simp only [fR_restOf, R_py0 hM v hv hj hp hpt hk, Option.bind_some, l00, if_true, R_on1 hM v hv hj hp, R_kd hM v hv hpt, R_isPart v k1]
    unfold plist
    by_cases h0 : under (kd M p) 0 = true
    · have e := R_calm v M.1 (show p < 60 by omega) k1 k3
      rw [rS_v v hv] at e
      simp only [if_neg (mt (b2_0 (under (kd M p) 0)).mp (by rw [h0]; decide)), if_pos h0, e, Option.bind_some]
      rw [rM_g v hv]
      rfl
    · have h0' : under (kd M p) 0 = false := by simpa using h0
      have h10 : ¬ kd M p ≤ 10 := fun z => h0 ((part_kind ⟨kd M p, k1⟩).mpr z)
      simp only [if_pos ((b2_0 _).mpr h0'), if_neg h0, R_board v k1, Option.bind_some]
      by_cases hb : kd M p = 23 ∨ kd M p = 24
      · have e := R_rest64 v hM h2 hpt hb (ln M p) 0 0 g_fuel M.1 (SkE.rf _) (by omega) (fuel_lt (by have := (hM.2.2.1 p hpt).2.2.2.1; omega))
        rw [rS_v v hv, Nat.zero_add] at e
        simp only [if_pos hb, i10, if_false]
        rw [← rM_g v hv]
        exact e
      · have e := R_calmRow v hM h2 hpt (by omega) (SkE.rf M.1)
        rw [rS_v v hv] at e
        simp only [if_neg hb, if_true, e, Option.bind_some]
        rw [rM_g v hv]
  · obtain ⟨w1, e1, hc1, s1⟩ := C_lineUp hM hpt hk (cI w 0 0) hr
    have hr1 : Rel (w1.2.1 2) (M.1, M.2) := by rw [s1.2.1]; exact hr
    obtain ⟨f', e2, r2⟩ := C_rest34 hM w1 hc1 (fun q hq => (hmem q hq).1) (plist M p).length 0 g_fuel (w1.2.1 2) M.1 hr1 (SkE.rf _) (by omega) (fuel_lt (by have := hc1.2.1; omega))
    rw [cW_id] at e2
    rw [List.drop_zero] at r2
    refine ⟨_, ?_, CSt_chain w w1 s1 r2⟩
    simp only [fC__restAll, C_hn0 hM w hr _ hj hp hpt hm, Option.bind_some, if_true, C_on1 hM (cI w 0 0) hr hj hp, e1]
    rw [show (0 : Int32) = nI 0 from rfl, e2]
theorem tick_cases (x : Int32) : (x < 0 ∨ ¬ x ≤ 8) ∨ ∃ j : Nat, j ≤ 8 ∧ x = nI j := by
  rcases pk_ix x (n := 9) (by decide) with h | h | ⟨j, h1, h2⟩
  · exact Or.inl (Or.inl h)
  · refine Or.inl (Or.inr (fun z => ?_))
    have h1 : (nI 9).toInt ≤ x.toInt := Int32.le_iff_toInt_le.mp h
    have h2 : (nI 9).toInt = 9 := by decide
    have h3 := Int32.le_iff_toInt_le.mp z
    have h4 : (8 : Int32).toInt = 8 := by decide
    omega
  · exact Or.inr ⟨j, by omega, h2⟩
theorem u21 : ∀ k : Fin 25, under k.val 21 = true → 16 ≤ k.val := by decide +kernel
theorem act_ticks {M : GH} (hM : WF M) (s x : Int32) : Act2 (fun v => fR_ticksBy v s x) (fun w => fC__tickOn w s x) M := by
  have h60 := hM.1.1
  rcases tick_cases x with hx | ⟨n, hn, rfl⟩
  · refine Act2.ref hM 1 (fun v hv => ?_) (fun w hr => Or.inl ?_)
    · rcases shelf_cases s with hs | ⟨j, hj, rfl⟩
      · simp only [fR_ticksBy, R_sh_f v hs, Option.bind_some, if_true, R_ref]
      · by_cases h1 : x < 0
        · simp only [fR_ticksBy, R_sh_t v hj, Option.bind_some, i10, if_false, if_pos h1, R_ref]
        · simp only [fR_ticksBy, R_sh_t v hj, Option.bind_some, i10, if_false, if_neg h1, if_neg (hx.resolve_left h1), R_ref]
    · by_cases h1 : x < 0
      · simp only [fC__tickOn, if_pos h1, C_ref, Option.bind_some]
      · simp only [fC__tickOn, if_neg h1, if_neg (hx.resolve_left h1), C_ref, Option.bind_some]
  have hn8 : nI n ≤ 8 := nI_le (a := n) (b := 8) (by omega) (by decide)
  have hn0 := nI_pos (show n < 2 ^ 31 by omega)
  rcases shelf_cases s with hs | ⟨j, hj, rfl⟩
  · refine Act2.ref hM 1 (fun v hv => ?_) (fun w hr => Or.inr ?_)
    · simp only [fR_ticksBy, R_sh_f v hs, Option.bind_some, if_true, R_ref]
    · simp only [fC__tickOn, if_neg hn0, if_pos hn8, C_hn1 w _ hs, Option.bind_some, i10, if_false]
  rcases shelfM hM hj with h0 | ⟨p, hp, hpt⟩
  · refine Act2.ref hM 2 (fun v hv => ?_) (fun w hr => Or.inr ?_)
    · simp only [fR_ticksBy, R_sh_t v hj, Option.bind_some, i10, if_false, if_neg hn0, if_pos hn8, R_on0 hM v hv hj h0, m1le, R_ref]
    · simp only [fC__tickOn, if_neg hn0, if_pos hn8, C_hn2 hM w hr _ hj h0, Option.bind_some, i10, if_false]
  obtain ⟨k1, -, k3, k4, -⟩ := hM.2.2.1 p hpt
  cases hu : under (kd M p) 12
  · cases hu2 : under (kd M p) 21
    · refine Act2.ref hM 3 (fun v hv => ?_) (fun w hr => Or.inr ?_)
      · simp only [fR_ticksBy, R_sh_t v hj, Option.bind_some, i10, if_false, if_neg hn0, if_pos hn8, R_on1 hM v hv hj hp, nIge0 (show p < 2 ^ 31 by omega), if_true, R_kd hM v hv hpt]
        rw [show (12 : Int32) = nI 12 from rfl, show (21 : Int32) = nI 21 from rfl]
        simp only [R_kd hM v hv hpt, R_isUnder v k1 (show 12 < 25 by decide), R_isUnder v k1 (show 21 < 25 by decide), hu, hu2, Option.bind_some, if_pos ((b2_0 false).mpr rfl), R_ref]
      · simp only [fC__tickOn, if_neg hn0, if_pos hn8, C_hn3 hM w hr _ hj hp hpt ((mkTk ⟨_, k1⟩).mpr ⟨hu, hu2⟩), Option.bind_some, i10, if_false]
    · have hm := mt (mkTk ⟨_, k1⟩).mp (fun z => absurd z.2 (by rw [hu2]; decide))
      have hk : 16 ≤ kd M p := u21 ⟨_, k1⟩ hu2
      refine Act2.ok (M' := ((foldK M p n (ln M p) 0 M.1 0).2, M.2)) (hM.up (foldK_up hM hpt hk _ _ _ _ (by omega))) (foldK_up hM hpt hk _ _ _ _ (by omega)).ext (foldK M p n (ln M p) 0 M.1 0).1 (fun v hv => ?_) (fun w hr => ?_)
      · have h2 : v.2.2 3 = M.2 := by subst hv; rfl
        have e := R_tick90 v hM h2 hn hpt hk (ln M p) 0 g_fuel M.1 0 (SkE.rf _) (by omega) (fuel_lt (by omega))
        rw [rS_v v hv] at e
        simp only [fR_ticksBy, R_sh_t v hj, Option.bind_some, i10, if_false, if_neg hn0, if_pos hn8, R_on1 hM v hv hj hp, nIge0 (show p < 2 ^ 31 by omega), if_true, R_kd hM v hv hpt]
        rw [show (12 : Int32) = nI 12 from rfl, show (21 : Int32) = nI 21 from rfl]
        simp only [R_kd hM v hv hpt, R_isUnder v k1 (show 12 < 25 by decide), R_isUnder v k1 (show 21 < 25 by decide), hu, hu2, Option.bind_some, if_pos ((b2_0 false).mpr rfl), if_neg (mt (b2_0 true).mp (by decide))]
        rw [← rM_g v hv]
        exact e
      · obtain ⟨f', e2, r2⟩ := C_tick68 (cI w 0 0) hM hn hpt hk (ln M p) 0 g_fuel (w.2.1 2) M.1 0 hr (SkE.rf _) (by omega) (fuel_lt (by omega))
        have ew : cW (cI w 0 0) (w.2.1 2) = cI w 0 0 := cW_id (cI w 0 0)
        rw [ew] at e2
        refine ⟨_, ?_, CSt_ok w r2⟩
        simp only [fC__tickOn, if_neg hn0, if_pos hn8, C_hn0 hM w hr _ hj hp hpt hm, Option.bind_some, if_true, C_on1 hM (cI w 0 0) hr hj hp, C_isInM (cI w 0 0) hr hM _ hpt, if_pos ((mkT ⟨_, k1⟩).mpr hu)]
        exact e2
  · have hm := mt (mkTk ⟨_, k1⟩).mp (fun z => absurd z.1 (by rw [hu]; decide))
    refine Act2.ok (M' := ((spTicks p n 0 M.1 0).2, M.2)) (hM.up (spTicks_up hpt h60 _ _ _ _)) (spTicks_up hpt h60 _ _ _ _).ext (spTicks p n 0 M.1 0).1 (fun v hv => ?_) (fun w hr => ?_)
    · have e := R_ticksOf v M.1 (show p < 60 by omega) hn
      rw [rS_v v hv] at e
      simp only [fR_ticksBy, R_sh_t v hj, Option.bind_some, i10, if_false, if_neg hn0, if_pos hn8, R_on1 hM v hv hj hp, nIge0 (show p < 2 ^ 31 by omega), if_true, R_kd hM v hv hpt]
      rw [show (12 : Int32) = nI 12 from rfl]
      simp only [R_isUnder v k1 (show 12 < 25 by decide), hu, Option.bind_some, if_neg (mt (b2_0 true).mp (by decide)), e]
      rw [rM_g v hv]
    · obtain ⟨f', e2, r2⟩ := C_ticksBy (cI w 0 0) (show p < 60 by omega) k1 hn (f := w.2.1 2) (M := M) hr k3
      have ew : cW (cI w 0 0) (w.2.1 2) = cI w 0 0 := cW_id (cI w 0 0)
      rw [ew] at e2
      refine ⟨_, ?_, CSt_ok w r2⟩
      simp only [fC__tickOn, if_neg hn0, if_pos hn8, C_hn0 hM w hr _ hj hp hpt hm, Option.bind_some, if_true, C_on1 hM (cI w 0 0) hr hj hp, C_isInM (cI w 0 0) hr hM _ hpt, if_neg (mt (mkT ⟨_, k1⟩).mp (by rw [hu]; decide)), i10, if_false, e2]
