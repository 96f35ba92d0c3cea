/-! PURE 2: the hall's state, both pictures of it -/
abbrev GH : Type := (Nat → Int32) × (Nat → Int64)
def sg (M : GH) (i : Nat) (x : Int32) : GH := (upd M.1 i x, M.2)
def sh (M : GH) (i : Nat) (x : Int64) : GH := (M.1, vp_updL M.2 i x)
def gM (v : RS) : GH := (v.2.1 2, v.2.2 3)
def tc (M : GH) : Nat := (M.1 556).toNatClampNeg
def sl (M : GH) (s : Nat) : Nat := (M.1 (540 + s)).toNatClampNeg
def kd (M : GH) (t : Nat) : Nat := (M.1 t).toNatClampNeg
def ln (M : GH) (t : Nat) : Nat := (M.1 (60 + t)).toNatClampNeg
def pn (M : GH) (t i : Nat) : Nat := (M.2 (12 * t + i)).toInt.toNat
def memb (K : Nat) : Nat := [0, 1, 2, 7, 12, 10, 0, 2].getD (K - 17) 0
def fitk (K k : Nat) : Bool := if K = 16 then k == 13 else if K ≤ 22 then under k (memb K) else if K = 23 then under k 17 else under k 19
def WF (M : GH) : Prop :=
  (tc M ≤ 60 ∧ M.1 556 = nI (tc M)) ∧
  (∀ s, s < 16 → sl M s ≤ tc M ∧ M.1 (540 + s) = nI (sl M s)) ∧
  (∀ t, t < tc M → kd M t < 25 ∧ kd M t ≠ 12 ∧ M.1 t = nI (kd M t) ∧ ln M t ≤ 12 ∧ M.1 (60 + t) = nI (ln M t) ∧ (kd M t < 13 → ln M t = 0)) ∧
  (∀ t, t < tc M → 16 ≤ kd M t → ∀ i, i < ln M t → pn M t i ≤ tc M ∧ M.2 (12 * t + i) = lN (pn M t i) ∧ (pn M t i ≠ 0 → fitk (kd M t) (kd M (pn M t i - 1)) = true)) ∧
  (∀ t, t < tc M → ∀ i, ln M t ≤ i → i < 12 → M.2 (12 * t + i) = 0) ∧
  (∀ t q, tc M ≤ t → t < 60 → q < 9 → M.1 (60 * q + t) = 0) ∧
  (∀ t i, tc M ≤ t → t < 60 → i < 12 → M.2 (12 * t + i) = 0)
def qc (c : Nat) : Nat := if c = 10 then 1 else if c ≤ 6 then c else c - 1
def rc (M : GH) (t c : Nat) : Int64 := if c = 1 then (if t < tc M then lN t else 0) else if c = 7 then 0 else (M.1 (60 * qc c + t)).toInt64
theorem qc_inj {c d : Nat} (hc : c < 11) (hd : d < 11) (hc7 : c ≠ 7) (hd7 : d ≠ 7) (hc1 : c ≠ 1) (hd1 : d ≠ 1) (h : qc d = qc c) : d = c := by
  unfold qc at h
  split at h <;> split at h <;> (try split at h) <;> (try split at h) <;> omega
theorem qc_lt {c : Nat} (hc : c < 11) : qc c < 9 := by unfold qc; split <;> (try split) <;> omega
theorem ixne {t u c d : Nat} (hc : c < 23) (hd : d < 23) (h : ¬ (u = t ∧ d = c)) : 17 + u * 23 + d ≠ 17 + t * 23 + c := by omega
theorem qne {t u a b : Nat} (ht : t < 60) (hu : u < 60) (h : ¬ (u = t ∧ b = a)) : 60 * b + u ≠ 60 * a + t := by omega
def plc (M : GH) (t i : Nat) : Int64 := if 16 ≤ kd M t ∧ i < ln M t then M.2 (12 * t + i) - 1 else M.2 (12 * t + i)
def Rel (f : Nat → Int64) (M : GH) : Prop :=
  (∀ s, s < 16 → f s = (M.1 (540 + s)).toInt64 - 1) ∧ f 16 = (M.1 556).toInt64 ∧
  (∀ t c, t < 60 → c < 11 → f (17 + t * 23 + c) = rc M t c) ∧
  (∀ t i, t < 60 → i < 12 → f (17 + t * 23 + 11 + i) = plc M t i)
theorem i64_back (x : Int32) : x.toInt64.toInt32 = x := by simp
theorem i64_m1 (x : Int32) : (x.toInt64 - 1).toInt32 = x - 1 := by simp
/-! the reference's leaves -/
theorem ix_R (b t : Nat) : nI b + nI t = nI (b + t) := nI_add b t
theorem R_sh_t (v : RS) {j : Nat} (hj : j < 16) : fR_isShelf v (nI j) = some (1, v) := by
  unfold fR_isShelf
  rw [if_neg (nI_pos (by omega)), show (15 : Int32) = nI 15 from rfl, if_neg (nI_nlt (a := 15) (b := j) (by omega) (by omega))]
theorem R_sh_f (v : RS) {s : Int32} (h : s < 0 ∨ 15 < s) : fR_isShelf v s = some (0, v) := by
  unfold fR_isShelf
  by_cases h1 : s < 0
  · rw [if_pos h1]
  · rw [if_neg h1, if_pos (h.resolve_left h1)]
theorem R_on (v : RS) {j : Nat} (hj : j < 16) : fR_on v (nI j) = some (v.2.1 2 (540 + j) - 1, v) := by
  unfold fR_on
  rw [show (540 : Int32) = nI 540 from rfl, nI_add, ck_nI (by omega) (by decide), g_let_eq, nI_clamp (by omega)]
theorem R_kind (v : RS) {t : Nat} (ht : t < 60) : fR_kindOf v (nI t) = some (v.2.1 2 t, v) := by
  unfold fR_kindOf
  rw [show (0 : Int32) = nI 0 from rfl, nI_add, Nat.zero_add, ck_nI (by omega) (by decide), g_let_eq, nI_clamp (by omega)]
theorem R_len (v : RS) {t : Nat} (ht : t < 60) : fR_lengthOf v (nI t) = some (v.2.1 2 (60 + t), v) := by
  unfold fR_lengthOf
  rw [show (60 : Int32) = nI 60 from rfl, nI_add, ck_nI (by omega) (by decide), g_let_eq, nI_clamp (by omega)]
theorem R_thing (v : RS) {t i : Nat} (ht : t < 60) (hi : i < 12) : fR_thingAt v (nI t) (nI i) = some ((v.2.2 3 (12 * t + i)).toInt32 - 1, v) := by
  unfold fR_thingAt
  rw [show (12 : Int32) = nI 12 from rfl, pk_mul, nI_add, ck_nI (by omega) (by decide), g_let_eq, nI_clamp (by omega)]
theorem R_hp_f (v : RS) {t n : Nat} {i : Int32} (ht : t < 60) (hl : v.2.1 2 (60 + t) = nI n) (h : i < 0 ∨ nI n ≤ i) : fR_hasPlace v (nI t) i = some (0, v) := by
  unfold fR_hasPlace
  by_cases h1 : i < 0
  · rw [if_pos h1]
  · rw [if_neg h1, R_len v ht, Option.bind_some, hl]
    show (if nI n ≤ i then _ else _) = _
    rw [if_pos (h.resolve_left h1)]
theorem R_hp_t (v : RS) {t n j : Nat} (ht : t < 60) (hl : v.2.1 2 (60 + t) = nI n) (hn : n ≤ 12) (h : j < n) : fR_hasPlace v (nI t) (nI j) = some (1, v) := by
  unfold fR_hasPlace
  rw [if_neg (nI_pos (by omega)), R_len v ht, Option.bind_some, hl]
  show (if nI n ≤ nI j then _ else _) = _
  rw [if_neg (nI_ge h (by omega))]
/-! the class's leaves -/
theorem ix_C (t c : Nat) : (17 : Int32) + nI t * 23 + nI c = nI (17 + t * 23 + c) := by
  rw [show (17 : Int32) = nI 17 from rfl, show (23 : Int32) = nI 23 from rfl, pk_mul, nI_add, nI_add]
theorem C_trait (w : CS) {t c : Nat} (ht : t < 60) (hc : c < 23) : fC_S_trait w (nI t) (nI c) = some ((w.2.1 2 (17 + t * 23 + c)).toInt32, w) := by
  unfold fC_S_trait
  rw [ix_C, show (17 : Int32) = nI 17 from rfl, show (1397 : Int32) = nI 1397 from rfl, if_neg (nI_nlt (by omega) (by omega)), if_neg (nI_ge (by omega) (by decide)), ck_nI (by omega) (by decide), g_let_eq, nI_clamp (by omega)]
theorem C_set (w : CS) {t c : Nat} (x : Int32) (ht : t < 60) (hc : c < 23) : fC_S_setTrait w (nI t) (nI c) x = some (cL w 2 (17 + t * 23 + c) x.toInt64) := by
  unfold fC_S_setTrait
  rw [ix_C, show (17 : Int32) = nI 17 from rfl, show (1397 : Int32) = nI 1397 from rfl, if_neg (nI_nlt (by omega) (by omega)), if_neg (nI_ge (by omega) (by decide)), ck_nI (by omega) (by decide), g_let_eq, nI_clamp (by omega)]
theorem C_grow (w : CS) {t c : Nat} (x : Int32) (ht : t < 60) (hc : c < 23) : fC_S_grow w (nI t) (nI c) x = some (cL w 2 (17 + t * 23 + c) ((w.2.1 2 (17 + t * 23 + c)).toInt32 + x).toInt64) := by
  unfold fC_S_grow
  rw [ix_C, show (17 : Int32) = nI 17 from rfl, show (1397 : Int32) = nI 1397 from rfl, if_neg (nI_nlt (by omega) (by omega)), if_neg (nI_ge (by omega) (by decide)), ck_nI (by omega) (by decide), g_let_eq, ck_nI (by omega) (by decide), g_let_eq, nI_clamp (by omega)]
theorem C_trait_n (w : CS) {c : Nat} (hc : c < 23) : fC_S_trait w (-1) (nI c) = some (0, w) := by
  unfold fC_S_trait
  rw [if_pos]
  refine Int32.lt_iff_toInt_lt.mpr ?_
  rw [show (17 : Int32) + (-1) * 23 = -6 from by decide, Int32.toInt_add, nI_toInt (by omega)]
  have h1 : (17 : Int32).toInt = 17 := by decide
  have h2 : (-6 : Int32).toInt = -6 := by decide
  rw [h1, h2]
  have h3 : Int.bmod (-6 + (c : Int)) (2 ^ 32) = -6 + (c : Int) := by
    apply Int.bmod_eq_of_le <;> omega
  rw [h3]
  omega
theorem C_sh_t (w : CS) {j : Nat} (hj : j < 16) : fC__isShelf w (nI j) = some (1, w) := by
  unfold fC__isShelf
  rw [if_neg (nI_pos (by omega)), show (16 : Int32) = nI 16 from rfl, if_neg (nI_ge (a := j) (b := 16) (by omega) (by decide))]
theorem C_sh_f (w : CS) {s : Int32} (h : s < 0 ∨ 15 < s) : fC__isShelf w s = some (0, w) := by
  unfold fC__isShelf
  by_cases h1 : s < 0
  · rw [if_pos h1]
  · rw [if_neg h1, if_pos]
    have h2 := Int32.lt_iff_toInt_lt.mp (h.resolve_left h1)
    refine Int32.le_iff_toInt_le.mpr ?_
    have h3 : (15 : Int32).toInt = 15 := by decide
    have h4 : (16 : Int32).toInt = 16 := by decide
    omega
theorem C_onS (w : CS) {j : Nat} (hj : j < 16) : fC_S_onShelf w (nI j) = some ((w.2.1 2 j).toInt32, w) := by
  unfold fC_S_onShelf
  rw [C_sh_t w hj, Option.bind_some]
  show (if (1 : Int32) = 0 then _ else _) = _
  rw [if_neg (by decide), ck_nI (by omega) (by decide), g_let_eq, nI_clamp (by omega)]
theorem C_setS (w : CS) {j : Nat} (x : Int32) (hj : j < 16) : fC_S_setShelf w (nI j) x = some (cL w 2 j x.toInt64) := by
  unfold fC_S_setShelf
  rw [C_sh_t w hj, Option.bind_some]
  show (if (1 : Int32) = 0 then _ else _) = _
  rw [if_neg (by decide), ck_nI (by omega) (by decide), g_let_eq, nI_clamp (by omega)]
theorem C_under (w : CS) {k : Nat} (m : Int32) (hk : k < 25) : fC_K_isUnderAny w (nI k) m = some (if (g_above k &&& m) = 0 then 0 else 1, w) := by
  unfold fC_K_isUnderAny
  rw [if_neg (nI_pos (by omega)), show (25 : Int32) = nI 25 from rfl, if_neg (nI_ge hk (by decide)), ck_nI hk (by decide), g_let_eq, nI_clamp (by omega)]
  by_cases h : (g_above k &&& m) = 0
  · rw [if_pos h, if_pos h]
  · rw [if_neg h, if_neg h]
theorem nI_m1 {t : Nat} (h : t < 2 ^ 31) : ¬ nI t = (-1 : Int32) := by
  intro e
  have := congrArg Int32.toInt e
  rw [nI_toInt h] at this
  have h2 : (-1 : Int32).toInt = -1 := by decide
  omega
theorem C_isIn (w : CS) {t k : Nat} (m : Int32) (ht : t < 60) (hk : k < 25) (hw : (w.2.1 2 (17 + t * 23 + 0)).toInt32 = nI k) : fC_S_isIn w (nI t) m = some (if (g_above k &&& m) = 0 then 0 else 1, w) := by
  unfold fC_S_isIn
  rw [if_neg (nI_m1 (by omega))]
  show Option.bind (fC_S_trait w (nI t) (nI 0)) _ = _
  rw [C_trait w ht (by decide), Option.bind_some]
  show Option.bind (fC_K_isUnderAny w (w.2.1 2 (17 + t * 23 + 0)).toInt32 m) _ = _
  rw [hw, C_under w m hk, Option.bind_some]
  by_cases h : (g_above k &&& m) = 0
  · rw [if_pos h]; rfl
  · rw [if_neg h]; rfl
theorem C_isIn_n (w : CS) (m : Int32) : fC_S_isIn w (-1) m = some (0, w) := by
  unfold fC_S_isIn
  rw [if_pos rfl]
theorem C_places (w : CS) {t : Nat} (ht : t < 60) : fC_S_places w (nI t) = some ((w.2.1 2 (17 + t * 23 + 10)).toInt32, w) := by
  unfold fC_S_places
  show Option.bind (fC_S_trait w (nI t) (nI 10)) _ = _
  rw [C_trait w ht (by decide), Option.bind_some]
theorem C_places_n (w : CS) : fC_S_places w (-1) = some (0, w) := by
  unfold fC_S_places
  show Option.bind (fC_S_trait w (-1) (nI 10)) _ = _
  rw [C_trait_n w (by decide), Option.bind_some]
theorem C_hp_f (w : CS) {t n : Nat} {i : Int32} (ht : t < 60) (hl : (w.2.1 2 (17 + t * 23 + 10)).toInt32 = nI n) (h : i < 0 ∨ nI n ≤ i) : fC_S_hasPlace w (nI t) i = some (0, w) := by
  unfold fC_S_hasPlace
  by_cases h1 : i < 0
  · rw [if_pos h1]
  · rw [if_neg h1]
    show Option.bind (fC_S_trait w (nI t) (nI 10)) _ = _
    rw [C_trait w ht (by decide), Option.bind_some, hl]
    show (if nI n ≤ i then _ else _) = _
    rw [if_pos (h.resolve_left h1)]
theorem C_hp_t (w : CS) {t n j : Nat} (ht : t < 60) (hl : (w.2.1 2 (17 + t * 23 + 10)).toInt32 = nI n) (hn : n ≤ 12) (h : j < n) : fC_S_hasPlace w (nI t) (nI j) = some (1, w) := by
  unfold fC_S_hasPlace
  rw [if_neg (nI_pos (by omega))]
  show Option.bind (fC_S_trait w (nI t) (nI 10)) _ = _
  rw [C_trait w ht (by decide), Option.bind_some, hl]
  show (if nI n ≤ nI j then _ else _) = _
  rw [if_neg (nI_ge h (by omega))]
theorem ix_P (t j : Nat) : (17 : Int32) + nI t * 23 + 11 + nI j = nI (17 + t * 23 + 11 + j) := by
  rw [show (11 : Int32) = nI 11 from rfl, ix_C, nI_add]
theorem C_atP (w : CS) {t n j : Nat} (ht : t < 60) (hl : (w.2.1 2 (17 + t * 23 + 10)).toInt32 = nI n) (hn : n ≤ 12) (h : j < n) : fC_S_atPlace w (nI t) (nI j) = some (w.2.1 2 (17 + t * 23 + 11 + j), w) := by
  unfold fC_S_atPlace
  rw [if_neg (nI_pos (by omega))]
  show Option.bind (fC_S_trait w (nI t) (nI 10)) _ = _
  rw [C_trait w ht (by decide), Option.bind_some, hl]
  show (if nI n ≤ nI j then _ else _) = _
  rw [if_neg (nI_ge h (by omega))]
  unfold fC_S_placeCell
  rw [Option.bind_some, ix_P, ck_nI (by omega) (by decide), g_let_eq, nI_clamp (by omega)]
theorem C_setP (w : CS) {t n j : Nat} (x : Int64) (ht : t < 60) (hl : (w.2.1 2 (17 + t * 23 + 10)).toInt32 = nI n) (hn : n ≤ 12) (h : j < n) : fC_S_setPlace w (nI t) (nI j) x = some (cL w 2 (17 + t * 23 + 11 + j) x) := by
  unfold fC_S_setPlace
  rw [C_hp_t w ht hl hn h, Option.bind_some]
  show (if (1 : Int32) = 0 then _ else _) = _
  rw [if_neg (by decide)]
  unfold fC_S_placeCell
  rw [Option.bind_some, ix_P, ck_nI (by omega) (by decide), g_let_eq, nI_clamp (by omega)]
/-! out of Rel and WF -/
theorem Rel.shf {f : Nat → Int64} {M : GH} (h : Rel f M) {s : Nat} (hs : s < 16) : (f s).toInt32 = M.1 (540 + s) - 1 := by rw [h.1 s hs, i64_m1]
theorem Rel.tcn {f : Nat → Int64} {M : GH} (h : Rel f M) : (f 16).toInt32 = M.1 556 := by rw [h.2.1, i64_back]
theorem Rel.fld {f : Nat → Int64} {M : GH} (h : Rel f M) {t c : Nat} (ht : t < 60) (hc : c < 11) (h1 : c ≠ 1) (h7 : c ≠ 7) : (f (17 + t * 23 + c)).toInt32 = M.1 (60 * qc c + t) := by
  rw [h.2.2.1 t c ht hc]
  unfold rc
  rw [if_neg h1, if_neg h7]
  exact i64_back _
theorem Rel.kind {f : Nat → Int64} {M : GH} (h : Rel f M) {t : Nat} (ht : t < 60) : (f (17 + t * 23 + 0)).toInt32 = M.1 t := by
  rw [h.fld ht (by decide) (by decide) (by decide)]
  show M.1 (60 * 0 + t) = _
  rw [Nat.mul_zero, Nat.zero_add]
theorem Rel.len {f : Nat → Int64} {M : GH} (h : Rel f M) {t : Nat} (ht : t < 60) : (f (17 + t * 23 + 10)).toInt32 = M.1 (60 + t) := by
  rw [h.fld ht (by decide) (by decide) (by decide)]
  show M.1 (60 * 1 + t) = _
  rw [Nat.mul_one]
theorem Rel.set {f : Nat → Int64} {M : GH} (h : Rel f M) {t c : Nat} (x : Int32) (ht : t < 60) (hc : 2 ≤ c ∧ c < 10 ∧ c ≠ 7) : Rel (vp_updL f (17 + t * 23 + c) x.toInt64) (sg M (60 * qc c + t) x) := by
  have hq : 2 ≤ qc c ∧ qc c < 9 := by unfold qc; split <;> (try split) <;> omega
  have e0 : ∀ j, (j < 120 ∨ 540 ≤ j) → (sg M (60 * qc c + t) x).1 j = M.1 j := fun j hj => by unfold sg; exact upd_ne _ _ (by omega)
  have e1 : tc (sg M (60 * qc c + t) x) = tc M := by unfold tc; rw [e0 _ (by omega)]
  have e2 : ∀ u, u < 60 → kd (sg M (60 * qc c + t) x) u = kd M u := fun u hu => by unfold kd; rw [e0 _ (by omega)]
  have e3 : ∀ u, u < 60 → ln (sg M (60 * qc c + t) x) u = ln M u := fun u hu => by unfold ln; rw [e0 _ (by omega)]
  refine ⟨fun s hs => ?_, ?_, fun u d hu hd => ?_, fun u i hu hi => ?_⟩
  · rw [updL_ne _ _ (by omega), h.1 s hs, e0 _ (by omega)]
  · rw [updL_ne _ _ (by omega), h.2.1, e0 _ (by omega)]
  · unfold rc
    by_cases d1 : d = 1
    · rw [if_pos d1, updL_ne _ _ (ixne (by omega) (by omega) (by omega)), h.2.2.1 u d hu hd, e1]
      unfold rc
      rw [if_pos d1]
    · by_cases d7 : d = 7
      · rw [if_neg d1, if_pos d7, updL_ne _ _ (ixne (by omega) (by omega) (by omega)), h.2.2.1 u d hu hd]
        unfold rc
        rw [if_neg d1, if_pos d7]
      · rw [if_neg d1, if_neg d7]
        by_cases hs : u = t ∧ d = c
        · obtain ⟨rfl, rfl⟩ := hs
          rw [updL_same]
          show _ = (upd M.1 _ x _).toInt64
          rw [upd_same]
        · rw [updL_ne _ _ (ixne (by omega) (by omega) hs), h.2.2.1 u d hu hd]
          unfold rc
          rw [if_neg d1, if_neg d7]
          show _ = (upd M.1 _ x _).toInt64
          rw [upd_ne _ _ (qne ht hu (fun z => hs ⟨z.1, qc_inj (by omega) hd (by omega) d7 (by omega) d1 z.2⟩))]
  · rw [updL_ne _ _ (by omega), h.2.2.2 u i hu hi]
    unfold plc
    rw [e2 u hu, e3 u hu]
    rfl
theorem WF.set {M : GH} (h : WF M) {t q : Nat} (x : Int32) (ht : t < tc M) (hq : 2 ≤ q ∧ q < 9) : WF (sg M (60 * q + t) x) := by
  obtain ⟨h1, h2, h3, h4, h5, h6, h7⟩ := h
  have e0 : ∀ j, (j < 120 ∨ 540 ≤ j) → (sg M (60 * q + t) x).1 j = M.1 j := fun j hj => by unfold sg; exact upd_ne _ _ (by omega)
  have e1 : tc (sg M (60 * q + t) x) = tc M := by unfold tc; rw [e0 _ (by omega)]
  have e2 : ∀ u, u < 60 → kd (sg M (60 * q + t) x) u = kd M u := fun u hu => by unfold kd; rw [e0 _ (by omega)]
  have e3 : ∀ u, u < 60 → ln (sg M (60 * q + t) x) u = ln M u := fun u hu => by unfold ln; rw [e0 _ (by omega)]
  refine ⟨⟨by rw [e1]; exact h1.1, by rw [e0 _ (by omega), e1]; exact h1.2⟩, fun s hs => ?_, fun u hu => ?_, fun u hu hk i hi => ?_, fun u hu i hi hi2 => ?_, fun u p hu hu2 hp => ?_, fun u i hu hu2 hi => ?_⟩
  · have : sl (sg M (60 * q + t) x) s = sl M s := by unfold sl; rw [e0 _ (by omega)]
    rw [this, e1, e0 _ (by omega)]
    exact h2 s hs
  · rw [e1] at hu
    rw [e2 u (by omega), e3 u (by omega), e0 _ (by omega), e0 _ (by omega)]
    exact h3 u hu
  · rw [e1] at hu
    rw [e2 u (by omega)] at hk
    rw [e3 u (by omega)] at hi
    obtain ⟨a1, a2, a3⟩ := h4 u hu hk i hi
    have e5 : pn (sg M (60 * q + t) x) u i = pn M u i := rfl
    rw [e5, e1, e2 u (by omega)]
    refine ⟨a1, a2, fun hz => ?_⟩
    rw [e2 _ (by omega)]
    exact a3 hz
  · rw [e1] at hu
    rw [e3 u (by omega)] at hi
    exact h5 u hu i hi hi2
  · rw [e1] at hu
    have : (sg M (60 * q + t) x).1 (60 * p + u) = M.1 (60 * p + u) := by unfold sg; exact upd_ne _ _ (by omega)
    rw [this]
    exact h6 u p hu hu2 hp
  · rw [e1] at hu
    exact h7 u i hu hu2 hi
