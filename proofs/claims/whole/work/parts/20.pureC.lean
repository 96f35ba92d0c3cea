/-! PURE 3: a part's rules -/
def rS (v : RS) (g : Nat → Int32) : RS := (v.1, va_up v.2.1 2 g, v.2.2)
def cW (w : CS) (f : Nat → Int64) : CS := (w.1, va_up w.2.1 2 f, w.2.2)
theorem up_self {α : Type} (f : Nat → α) (k : Nat) : va_up f k (f k) = f := by
  funext j
  unfold va_up
  by_cases h : j = k
  · rw [if_pos h, h]
  · rw [if_neg h]
theorem upd_self' (g : Nat → Int32) (i : Nat) : upd g i (g i) = g := by
  funext j
  by_cases h : j = i
  · rw [h, upd_same]
  · rw [upd_ne _ _ h]
theorem upd_upd (g : Nat → Int32) (i : Nat) (x y : Int32) : upd (upd g i x) i y = upd g i y := by
  funext j
  by_cases h : j = i
  · rw [h, upd_same, upd_same]
  · rw [upd_ne _ _ h, upd_ne _ _ h, upd_ne _ _ h]
theorem rS_get (v : RS) (g : Nat → Int32) : (rS v g).2.1 2 = g := by
  show va_up v.2.1 2 g 2 = g
  exact up_same _ _ _
theorem rS_set (v : RS) (g : Nat → Int32) (i : Nat) (x : Int32) : sA (rS v g) 2 i x = rS v (upd g i x) := by
  unfold sA
  rw [rS_get]
  show ((rS v g).1, va_up (va_up v.2.1 2 g) 2 (upd g i x), (rS v g).2.2) = _
  rw [bx_uu]
  rfl
theorem rS_id (v : RS) : rS v (v.2.1 2) = v := by unfold rS; rw [up_self]
theorem rS_rS (v : RS) (g g' : Nat → Int32) : rS (rS v g) g' = rS v g' := by
  show (v.1, va_up (va_up v.2.1 2 g) 2 g', v.2.2) = _
  rw [bx_uu]
  rfl
theorem cW_get (w : CS) (f : Nat → Int64) : (cW w f).2.1 2 = f := by
  show va_up w.2.1 2 f 2 = f
  exact up_same _ _ _
theorem cW_set (w : CS) (f : Nat → Int64) (i : Nat) (x : Int64) : cL (cW w f) 2 i x = cW w (vp_updL f i x) := by
  unfold cL
  rw [cW_get]
  show ((cW w f).1, va_up (va_up w.2.1 2 f) 2 (vp_updL f i x), (cW w f).2.2) = _
  rw [bx_uu]
  rfl
theorem cW_id (w : CS) : cW w (w.2.1 2) = w := by unfold cW; rw [up_self]
theorem cW_cW (w : CS) (f f' : Nat → Int64) : cW (cW w f) f' = cW w f' := by
  show (w.1, va_up (va_up w.2.1 2 f) 2 f', w.2.2) = _
  rw [bx_uu]
  rfl
theorem ck_b {α : Type} {B t : Nat} (h : B + t < 557) (k : Option α) : g_ck ((OfNat.ofNat B : Int32) + nI t) 557 k = k := by
  rw [lit32, nI_add]
  exact ck_nI h (by decide) k
theorem cl_b {B t : Nat} (h : B + t < 557) : ((OfNat.ofNat B : Int32) + nI t).toNatClampNeg = B + t := by
  rw [lit32, nI_add]
  exact nI_clamp (by omega)
theorem cw_trait {w : CS} {f : Nat → Int64} {M : GH} (h : Rel f M) {t c : Nat} (ht : t < 60) (hc : c < 11) (h1 : c ≠ 1) (h7 : c ≠ 7) : fC_S_trait (cW w f) (nI t) (OfNat.ofNat c) = some (M.1 (60 * qc c + t), cW w f) := by
  rw [lit32, C_trait _ ht (by omega), cW_get, h.fld ht hc h1 h7]
theorem cw_set {w : CS} {f : Nat → Int64} {t c : Nat} (x : Int32) (ht : t < 60) (hc : c < 23) : fC_S_setTrait (cW w f) (nI t) (OfNat.ofNat c) x = some (cW w (vp_updL f (17 + t * 23 + c) x.toInt64)) := by
  rw [lit32, C_set _ _ ht hc, cW_set]
theorem cw_grow {w : CS} {f : Nat → Int64} {M : GH} (h : Rel f M) {t c : Nat} (x : Int32) (ht : t < 60) (hc : c < 11) (h1 : c ≠ 1) (h7 : c ≠ 7) : fC_S_grow (cW w f) (nI t) (OfNat.ofNat c) x = some (cW w (vp_updL f (17 + t * 23 + c) (M.1 (60 * qc c + t) + x).toInt64)) := by
  rw [lit32, C_grow _ _ ht (by omega), cW_set, cW_get, h.fld ht hc h1 h7]
def tAbs (x : Int32) : Int32 := if 0 ≤ x then x else -x
theorem R_size (v : RS) (x : Int32) : fR_sizeOf v x = some (tAbs x, v) := by
  unfold fR_sizeOf tAbs
  by_cases h : 0 ≤ x
  · rw [if_pos h, if_pos h]
  · rw [if_neg h, if_neg h]
theorem g_abs_eq (x : Int32) : g_abs x = tAbs x := by
  unfold g_abs tAbs
  by_cases h : 0 ≤ x
  · rw [if_pos h, if_pos h]
  · rw [if_neg h, if_neg h]; simp
theorem neg_toInt {x : Int32} (h : x.toInt ≠ -2147483648) : (-x).toInt = -x.toInt := by
  rw [Int32.toInt_neg]
  have h1 := Int32.le_toInt x
  have h2 := Int32.toInt_lt x
  apply Int.bmod_eq_of_le <;> omega
theorem abs_ge (x : Int32) : - tAbs x ≤ tAbs x := by
  refine Int32.le_iff_toInt_le.mpr ?_
  by_cases hm : x.toInt = -2147483648
  · have : x = -2147483648 := Int32.toInt_inj.mp (hm.trans (by decide))
    subst this
    decide
  · have h1 := neg_toInt hm
    have z0 : (0 : Int32).toInt = 0 := by decide
    unfold tAbs
    by_cases h : 0 ≤ x
    · have h2 := Int32.le_iff_toInt_le.mp h
      rw [if_pos h, h1]
      omega
    · have h2 := mt Int32.le_iff_toInt_le.mpr h
      rw [if_neg h]
      have h3 : (-x).toInt ≠ -2147483648 := by have := Int32.toInt_lt x; omega
      rw [neg_toInt h3, h1]
      omega
def clipv (k y : Int32) : Int32 := if y ≤ tAbs k then (if - tAbs k ≤ y then y else - tAbs k) else tAbs k
theorem R_clip (v : RS) (g : Nat → Int32) {t : Nat} (y : Int32) (ht : t < 60) : fR_clipped (rS v g) (nI t) y = some (clipv (g (120 + t)) y, rS v g) := by
  unfold fR_clipped clipv
  rw [ck_b (B := 120) (by omega), g_let_eq, cl_b (B := 120) (by omega), rS_get, R_size, Option.bind_some]
  by_cases h1 : y ≤ tAbs (g (120 + t))
  · by_cases h2 : - tAbs (g (120 + t)) ≤ y
    · simp [h1, h2]
    · simp [h1, h2]
  · simp [h1]
theorem clip_eq (k y : Int32) : g_max (- tAbs k) (g_min (tAbs k) y) = clipv k y := by
  have ha := Int32.le_iff_toInt_le.mp (abs_ge k)
  unfold g_max g_min clipv
  generalize tAbs k = a at *
  generalize -a = b at *
  by_cases h1 : y < a
  · have h1' := Int32.lt_iff_toInt_lt.mp h1
    have h2 : y ≤ a := Int32.le_iff_toInt_le.mpr (by omega)
    rw [if_pos h1, if_pos h2]
    by_cases h3 : b < y
    · have h3' := Int32.lt_iff_toInt_lt.mp h3
      rw [if_pos h3, if_pos (Int32.le_iff_toInt_le.mpr (by omega))]
    · rw [if_neg h3]
      by_cases h4 : b ≤ y
      · rw [if_pos h4]
        have h3' := mt Int32.lt_iff_toInt_lt.mpr h3
        have h4' := Int32.le_iff_toInt_le.mp h4
        exact Int32.toInt_inj.mp (by omega)
      · rw [if_neg h4]
  · rw [if_neg h1]
    have h1' := mt Int32.lt_iff_toInt_lt.mpr h1
    by_cases h2 : y ≤ a
    · have h2' := Int32.le_iff_toInt_le.mp h2
      have e : y = a := Int32.toInt_inj.mp (by omega)
      subst e
      rw [if_pos h2, if_pos (Int32.le_iff_toInt_le.mpr ha)]
      by_cases h3 : b < y
      · rw [if_pos h3]
      · rw [if_neg h3]
        have h3' := mt Int32.lt_iff_toInt_lt.mpr h3
        exact Int32.toInt_inj.mp (by omega)
    · rw [if_neg h2]
      by_cases h3 : b < a
      · rw [if_pos h3]
      · rw [if_neg h3]
        have h3' := mt Int32.lt_iff_toInt_lt.mpr h3
        exact Int32.toInt_inj.mp (by omega)
theorem C_clip {w : CS} {f : Nat → Int64} {M : GH} (h : Rel f M) {t : Nat} (y : Int32) (ht : t < 60) : fC_Ru_clip (cW w f) (nI t) y = some (clipv (M.1 (120 + t)) y, cW w f) := by
  unfold fC_Ru_clip
  rw [cw_trait h ht (by decide) (by decide) (by decide), Option.bind_some]
  show g_let (g_abs (M.1 (60 * 2 + t))) _ = _
  rw [g_let_eq, g_let_eq, g_let_eq, g_abs_eq, clip_eq]
