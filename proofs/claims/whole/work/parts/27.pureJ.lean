/-! PURE 9: fitting; shelves and places set; what an act is on both sides -/
theorem lgc0 (x y : Int64) : (lg_cmp x y = 0) ↔ x = y := by
  unfold lg_cmp
  by_cases h1 : y < x
  · rw [if_pos h1]
    refine ⟨fun h => absurd h (by decide), fun h => ?_⟩
    subst h
    have := Int64.lt_iff_toInt_lt.mp h1
    omega
  · rw [if_neg h1]
    by_cases h2 : x = y
    · rw [if_pos h2]; exact ⟨fun _ => h2, fun _ => rfl⟩
    · rw [if_neg h2]; exact ⟨fun h => absurd h (by decide), fun h => absurd h h2⟩
theorem lN_ne0 {p : Nat} (h : p ≠ 0) (hp : p < 2 ^ 31) : ¬ lN p = 0 := fun e => h ((lN_eq hp (by decide)).mp (show lN p = lN 0 from e))
theorem memb_eq : ∀ K : Fin 25, 17 ≤ K.val → rMembers (K.val - 17) = nI (memb K.val) ∧ memb K.val < 25 := by decide +kernel
theorem R_memberOf (v : RS) {K : Nat} (h : 17 ≤ K) (hK : K < 25) : fR_memberOf v (nI K) = some (nI (memb K), v) := by
  unfold fR_memberOf
  rw [show (17 : Int32) = nI 17 from rfl, pk_sub h, ck_nI (by omega) (by decide), g_let_eq, nI_clamp (by omega), (memb_eq ⟨K, hK⟩ h).1]
theorem R_rowOf (v : RS) {K : Nat} (hK : K < 25) : fR_isRowOf v (nI K) = some (if 17 ≤ K ∧ K ≤ 22 then 1 else 0, v) := by
  unfold fR_isRowOf
  by_cases h : K < 17
  · rw [if_pos (show nI K < 17 from nI_lt h (by decide)), if_neg (by omega)]
  · rw [if_neg (show ¬ nI K < 17 from nI_nlt (a := K) (b := 17) (by omega) (by omega))]
    by_cases h2 : 22 < K
    · rw [if_pos (show (22 : Int32) < nI K from nI_lt h2 (by omega)), if_neg (by omega)]
    · rw [if_neg (show ¬ (22 : Int32) < nI K from nI_nlt (a := 22) (b := K) (by omega) (by decide)), if_pos (by omega)]
theorem R_boolU (b : Bool) {α : Type} (x : Option α) : g_bool (b2 b) x = x := by cases b <;> rfl
theorem R_fits0 (v : RS) (K : Int32) : fR_fits v K 0 = some (1, v) := by
  unfold fR_fits
  rw [if_pos ((lgc0 _ _).mpr rfl)]
theorem R_fits (v : RS) {K k p : Nat} (hK : 16 ≤ K) (hK2 : K < 25) (hk : k < 25) (hp : p < 60) (hg : v.2.1 2 p = nI k) : fR_fits v (nI K) (lN (p + 1)) = some (b2 (fitk K k), v) := by
  unfold fR_fits
  rw [if_neg (mt (lgc0 _ _).mp (lN_ne0 (by omega) (by omega))), lN_i]
  rw [show ((0 : Int32) + nI (p + 1)) - 1 = nI p by rw [show (0 : Int32) = nI 0 from rfl, nI_add, Nat.zero_add, nI_pred]]
  rw [ck_nI (by omega) (by decide), g_let_eq, nI_clamp (by omega), hg]
  unfold fitk
  by_cases h16 : K = 16
  · subst h16
    rw [if_pos (show nI 16 = (16 : Int32) from rfl), if_pos rfl]
    by_cases h13 : k = 13
    · subst h13; rfl
    · rw [if_neg (mt (eqk hk (by decide)).mp h13)]
      have : (k == 13) = false := by simpa using h13
      rw [this]; rfl
  · rw [if_neg (mt (eqk hK2 (by decide)).mp h16), if_neg h16, R_rowOf v hK2, Option.bind_some]
    by_cases h22 : K ≤ 22
    · simp only [if_pos (show 17 ≤ K ∧ K ≤ 22 by omega), if_neg (show ¬ (1 : Int32) = 0 by decide), if_pos h22]
      rw [R_memberOf v (by omega) hK2, Option.bind_some]
      simp only [R_isUnder v hk (memb_eq ⟨K, hK2⟩ (by show 17 ≤ K; omega)).2, Option.bind_some, R_boolU]
    · simp only [if_neg (show ¬ (17 ≤ K ∧ K ≤ 22) by omega), if_true, if_neg h22]
      by_cases h23 : K = 23
      · rw [if_pos ((eqk hK2 (by decide)).mpr h23), if_pos h23]
        show Option.bind (fR_isUnder v (nI k) (nI 17)) _ = _
        rw [R_isUnder v hk (by decide), Option.bind_some, R_boolU]
      · rw [if_neg (mt (eqk hK2 (by decide)).mp h23), if_neg h23]
        show Option.bind (fR_isUnder v (nI k) (nI 19)) _ = _
        rw [R_isUnder v hk (by decide), Option.bind_some, R_boolU]
theorem fit_mask : ∀ K : Fin 9, ∀ k : Fin 25, ((g_above k.val &&& ((1 : Int32) <<< (g_wanted K.val &&& 31))) = 0) ↔ fitk (K.val + 16) k.val = false := by decide +kernel
theorem C_fits0 (w : CS) (a : Int32) : fC_S_fits w (-1) a = some (1, w) := by unfold fC_S_fits; rw [if_pos rfl]
theorem C_fits (w : CS) {M : GH} (hr : Rel (w.2.1 2) M) (hM : WF M) {r p : Nat} (h1 : r < tc M) (h2 : p < tc M) (hK : 16 ≤ kd M r) : fC_S_fits w (nI p) (nI r) = some (b2 (fitk (kd M r) (kd M p)), w) := by
  have h60 := hM.1.1
  obtain ⟨r1, -, r3, -⟩ := hM.2.2.1 r h1
  obtain ⟨p1, -, p3, -⟩ := hM.2.2.1 p h2
  unfold fC_S_fits
  rw [if_neg (nI_m1 (by omega))]
  show Option.bind (fC_S_trait w (nI r) (nI 0)) _ = _
  rw [C_trait w (by omega) (by decide), Option.bind_some, hr.kind (by omega), r3]
  have ef : fC_K_fittingIn w (nI (kd M r)) = some ((1 : Int32) <<< (g_wanted (kd M r - 16) &&& 31), w) := by
    unfold fC_K_fittingIn
    rw [show (16 : Int32) = nI 16 from rfl, if_neg (nI_nlt (by omega) (by omega)), pk_sub hK, show (9 : Int32) = nI 9 from rfl, if_neg (nI_ge (by omega) (by decide)), ck_nI (by omega) (by decide), g_let_eq, nI_clamp (by omega)]
  simp only [ef, Option.bind_some]
  rw [C_isInM w hr hM _ h2, Option.bind_some]
  have hm := fit_mask ⟨kd M r - 16, by omega⟩ ⟨kd M p, p1⟩
  simp only [show kd M r - 16 + 16 = kd M r by omega] at hm
  cases hb : fitk (kd M r) (kd M p)
  · simp only [if_pos (hm.mpr hb), if_true]; rfl
  · simp only [if_neg (mt hm.mp (by rw [hb]; decide)), if_neg (show ¬ (1 : Int32) = 0 by decide)]; rfl
/-! a shelf set -/
theorem nIm1_64 {p : Nat} (hp : p < 2 ^ 31) : (nI p - 1).toInt64 = lN p - 1 := by
  cases p with
  | zero => decide
  | succ q => rw [nI_pred, nI_l (by omega), ← lN_1]; simp
theorem Rel.setS {f : Nat → Int64} {M : GH} (h : Rel f M) {j p : Nat} (hj : j < 16) (hp : p < 2 ^ 31) : Rel (vp_updL f j (nI p - 1).toInt64) (sg M (540 + j) (nI p)) := by
  have e0 : ∀ i, i ≠ 540 + j → (sg M (540 + j) (nI p)).1 i = M.1 i := fun i hi => upd_ne _ _ hi
  have e1 : tc (sg M (540 + j) (nI p)) = tc M := congrArg Int32.toNatClampNeg (e0 556 (by omega))
  refine ⟨fun s hs => ?_, ?_, fun u d hu hd => ?_, fun u i hu hi => ?_⟩
  · by_cases he : s = j
    · subst he
      rw [updL_same]
      show _ = (upd M.1 (540 + s) (nI p) (540 + s)).toInt64 - 1
      rw [upd_same, nIm1_64 hp, nI_l hp]
    · rw [updL_ne _ _ he, h.1 s hs, e0 _ (by omega)]
  · rw [updL_ne _ _ (by omega), h.2.1, e0 _ (by omega)]
  · rw [updL_ne _ _ (by omega), h.2.2.1 u d hu hd]
    have := qc_lt hd
    unfold rc
    rw [e1, e0 _ (by omega)]
  · rw [updL_ne _ _ (by omega), h.2.2.2 u i hu hi]
    have ek : kd (sg M (540 + j) (nI p)) u = kd M u := congrArg Int32.toNatClampNeg (e0 u (by omega))
    have el : ln (sg M (540 + j) (nI p)) u = ln M u := congrArg Int32.toNatClampNeg (e0 (60 + u) (by omega))
    unfold plc
    rw [ek, el]
    rfl
theorem WF.setS {M : GH} (h : WF M) {j p : Nat} (hj : j < 16) (hp : p ≤ tc M) : WF (sg M (540 + j) (nI p)) := by
  obtain ⟨h1, h2, h3, h4, h5, h6, h7⟩ := h
  have e0 : ∀ i, i ≠ 540 + j → (sg M (540 + j) (nI p)).1 i = M.1 i := fun i hi => upd_ne _ _ hi
  have e1 : tc (sg M (540 + j) (nI p)) = tc M := congrArg Int32.toNatClampNeg (e0 556 (by omega))
  have ek : ∀ u, u < 60 → kd (sg M (540 + j) (nI p)) u = kd M u := fun u hu => congrArg Int32.toNatClampNeg (e0 u (by omega))
  have el : ∀ u, u < 60 → ln (sg M (540 + j) (nI p)) u = ln M u := fun u hu => congrArg Int32.toNatClampNeg (e0 (60 + u) (by omega))
  refine ⟨⟨by rw [e1]; exact h1.1, by rw [e0 _ (by omega), e1]; exact h1.2⟩, fun s hs => ?_, fun u hu => ?_, fun u hu hk i hi => ?_, fun u hu i hi hi2 => ?_, fun u q hu hu2 hq => ?_, fun u i hu hu2 hi => ?_⟩
  · by_cases he : s = j
    · subst he
      have e2 : (sg M (540 + s) (nI p)).1 (540 + s) = nI p := upd_same _ _ _
      have e3 : sl (sg M (540 + s) (nI p)) s = p := by unfold sl; rw [e2]; exact nI_clamp (by omega)
      rw [e3, e1, e2]
      exact ⟨hp, rfl⟩
    · have e3 : sl (sg M (540 + j) (nI p)) s = sl M s := congrArg Int32.toNatClampNeg (e0 _ (by omega))
      rw [e3, e1, e0 _ (by omega)]
      exact h2 s hs
  · rw [e1] at hu
    rw [ek u (by omega), el u (by omega), e0 _ (by omega), e0 _ (by omega)]
    exact h3 u hu
  · rw [e1] at hu
    rw [ek u (by omega)] at hk
    rw [el u (by omega)] at hi
    obtain ⟨a1, a2, a3⟩ := h4 u hu hk i hi
    have e5 : pn (sg M (540 + j) (nI p)) u i = pn M u i := rfl
    rw [e5, e1, ek u (by omega)]
    exact ⟨a1, a2, fun hz => by rw [ek _ (by omega)]; exact a3 hz⟩
  · rw [e1] at hu
    rw [el u (by omega)] at hi
    exact h5 u hu i hi hi2
  · rw [e1] at hu
    rw [e0 _ (by omega)]
    exact h6 u q hu hu2 hq
  · rw [e1] at hu
    exact h7 u i hu hu2 hi
/-! a place set -/
theorem Rel.setP {f : Nat → Int64} {M : GH} (h : Rel f M) {t i : Nat} (x y : Int64) (ht : t < 60) (hi : i < 12) (hx : x = if 16 ≤ kd M t ∧ i < ln M t then y - 1 else y) : Rel (vp_updL f (17 + t * 23 + 11 + i) x) (sh M (12 * t + i) y) := by
  refine ⟨fun s hs => ?_, ?_, fun u d hu hd => ?_, fun u j hu hj => ?_⟩
  · rw [updL_ne _ _ (by omega)]; exact h.1 s hs
  · rw [updL_ne _ _ (by omega)]; exact h.2.1
  · rw [updL_ne _ _ (by omega)]; exact h.2.2.1 u d hu hd
  · have ek : kd (sh M (12 * t + i) y) u = kd M u := rfl
    have el : ln (sh M (12 * t + i) y) u = ln M u := rfl
    unfold plc
    rw [ek, el]
    by_cases hs : u = t ∧ j = i
    · obtain ⟨rfl, rfl⟩ := hs
      have e : (sh M (12 * u + j) y).2 (12 * u + j) = y := updL_same _ _ _
      rw [updL_same, e, hx]
    · have e : (sh M (12 * t + i) y).2 (12 * u + j) = M.2 (12 * u + j) := updL_ne _ _ (by omega)
      rw [updL_ne _ _ (by omega), e]
      exact h.2.2.2 u j hu hj
theorem WF.setP {M : GH} (h : WF M) {t i : Nat} (y : Int64) (ht : t < tc M) (hi : i < ln M t) (hy : 16 ≤ kd M t → ∃ p, y = lN p ∧ p ≤ tc M ∧ (p ≠ 0 → fitk (kd M t) (kd M (p - 1)) = true)) : WF (sh M (12 * t + i) y) := by
  obtain ⟨h1, h2, h3, h4, h5, h6, h7⟩ := h
  have h60 := h1.1
  have hl12 := (h3 t ht).2.2.2.1
  have en : ∀ n, n ≠ 12 * t + i → (sh M (12 * t + i) y).2 n = M.2 n := fun n hn => updL_ne _ _ hn
  refine ⟨h1, h2, h3, fun u hu hk j hj => ?_, fun u hu j hj hj2 => ?_, h6, fun u j hu hu2 hj => ?_⟩
  · have hu : u < tc M := hu
    have hk : 16 ≤ kd M u := hk
    have hj : j < ln M u := hj
    have hu12 := (h3 u hu).2.2.2.1
    show pn (sh M (12 * t + i) y) u j ≤ tc M ∧ (sh M (12 * t + i) y).2 (12 * u + j) = lN (pn (sh M (12 * t + i) y) u j) ∧ (pn (sh M (12 * t + i) y) u j ≠ 0 → fitk (kd M u) (kd M (pn (sh M (12 * t + i) y) u j - 1)) = true)
    by_cases hs : u = t ∧ j = i
    · obtain ⟨rfl, rfl⟩ := hs
      obtain ⟨p, rfl, p2, p3⟩ := hy hk
      have e : (sh M (12 * u + j) (lN p)).2 (12 * u + j) = lN p := updL_same _ _ _
      have ep : pn (sh M (12 * u + j) (lN p)) u j = p := by unfold pn; rw [e, lN_toInt (by omega)]; exact Int.toNat_natCast p
      rw [ep, e]
      exact ⟨p2, rfl, p3⟩
    · have e := en (12 * u + j) (by omega)
      have ep : pn (sh M (12 * t + i) y) u j = pn M u j := by unfold pn; rw [e]
      rw [ep, e]
      exact h4 u hu hk j hj
  · have hu : u < tc M := hu
    have hj : ln M u ≤ j := hj
    rw [en _ (by intro z; have : u = t := by omega
                 subst this; omega)]
    exact h5 u hu j hj hj2
  · have hu : tc M ≤ u := hu
    rw [en _ (by omega)]
    exact h7 u j hu hu2 hj
/-! acts -/
def RSt (v v' : RS) (y : Int32) (M' : GH) : Prop := v'.1 = va_up v.1 15 y ∧ v'.2.1 = va_up v.2.1 2 M'.1 ∧ v'.2.2 3 = M'.2 ∧ ∀ k, k ≠ 3 → k ≠ 16 → v'.2.2 k = v.2.2 k
def CSt (w w' : CS) (y : Int32) (M' : GH) : Prop := w'.1 0 = y ∧ (∀ k, k ≠ 0 → k ≠ 2 → w'.1 k = w.1 k) ∧ Rel (w'.2.1 2) M' ∧ w'.2.1 3 = w.2.1 3 ∧ w'.2.2.2 = w.2.2.2
def SR (F : RS → Option (Int32 × RS)) (M : GH) (r y : Int32) (M' : GH) : Prop := ∀ v, gM v = M → v.1 15 = 0 → ∃ v', F v = some (r, v') ∧ RSt v v' y M'
def SC (F : CS → Option (Int32 × CS)) (M : GH) (r y : Int32) (M' : GH) : Prop := ∀ w, Rel (w.2.1 2) M → ∃ w', F w = some (r, w') ∧ CSt w w' y M'
/-- what no act undoes: things stay, and nothing outside the rows changes -/
def Ext (M M' : GH) : Prop := tc M ≤ tc M' ∧ (∀ i, 557 ≤ i → M'.1 i = M.1 i) ∧ (∀ i, 720 ≤ i → M'.2 i = M.2 i)
theorem Ext.rf (M : GH) : Ext M M := ⟨Nat.le_refl _, fun _ _ => rfl, fun _ _ => rfl⟩
theorem Ext.tr {A B C : GH} (h1 : Ext A B) (h2 : Ext B C) : Ext A C := ⟨Nat.le_trans h1.1 h2.1, fun i hi => (h2.2.1 i hi).trans (h1.2.1 i hi), fun i hi => (h2.2.2 i hi).trans (h1.2.2 i hi)⟩
theorem Ext.sg (M : GH) {i : Nat} (x : Int32) (hi : i < 556) : Ext M (sg M i x) := ⟨Nat.le_of_eq (congrArg Int32.toNatClampNeg (upd_ne M.1 x (show 556 ≠ i by omega))).symm, fun k hk => upd_ne M.1 x (by omega), fun _ _ => rfl⟩
theorem Ext.sh (M : GH) {i : Nat} (x : Int64) (hi : i < 720) : Ext M (M.1, vp_updL M.2 i x) := ⟨Nat.le_refl _, fun _ _ => rfl, fun k hk => updL_ne M.2 x (by omega)⟩
def Act2 (F : RS → Option (Int32 × RS)) (G : CS → Option (Int32 × CS)) (M : GH) : Prop := ∃ r y M', WF M' ∧ Ext M M' ∧ 0 ≤ y ∧ (y ≠ 0 → M' = M) ∧ SR F M r y M' ∧ SC G M r y M'
def rM (v : RS) (M : GH) : RS := (v.1, va_up v.2.1 2 M.1, va_up v.2.2 3 M.2)
theorem RSt_ref (v : RS) {M : GH} (hv : gM v = M) (c : Int32) : RSt v (sI v 15 c) c M := by
  subst hv
  exact ⟨rfl, (up_self v.2.1 2).symm, rfl, fun _ _ _ => rfl⟩
theorem RSt_ok (v : RS) (M' : GH) (h0 : v.1 15 = 0) : RSt v (rM v M') 0 M' := by
  refine ⟨?_, rfl, by show va_up v.2.2 3 M'.2 3 = _; exact up_same _ _ _, fun k h3 _ => by show va_up v.2.2 3 M'.2 k = _; exact up_ne _ _ h3⟩
  have := up_self v.1 15
  rw [h0] at this
  exact this.symm
theorem rM_g (v : RS) {M : GH} (hv : gM v = M) (g : Nat → Int32) : rS v g = rM v (g, M.2) := by
  subst hv
  show (v.1, va_up v.2.1 2 g, v.2.2) = (v.1, va_up v.2.1 2 g, va_up v.2.2 3 (v.2.2 3))
  rw [up_self]
theorem rM_p (v : RS) {M : GH} (hv : gM v = M) (i : Nat) (x : Int64) : sL v 3 i x = rM v (sh M i x) := by
  subst hv
  show (v.1, v.2.1, va_up v.2.2 3 _) = (v.1, va_up v.2.1 2 (v.2.1 2), va_up v.2.2 3 _)
  rw [up_self]
  rfl
theorem rM_a (v : RS) {M : GH} (hv : gM v = M) (i : Nat) (x : Int32) : sA v 2 i x = rM v (sg M i x) := by
  subst hv
  show (v.1, va_up v.2.1 2 _, v.2.2) = (v.1, va_up v.2.1 2 _, va_up v.2.2 3 (v.2.2 3))
  rw [up_self]
  rfl
theorem cI_same (w : CS) (k : Nat) (c : Int32) : (cI w k c).1 k = c := by show va_up _ k _ k = _; exact up_same _ _ _
theorem cI_ne (w : CS) {k j : Nat} (c : Int32) (h : j ≠ k) : (cI w k c).1 j = w.1 j := by show va_up _ k _ j = _; exact up_ne _ _ h
theorem CSt_ref (w : CS) {M : GH} (h : Rel (w.2.1 2) M) (c : Int32) : CSt w (cI w 0 c) c M := ⟨cI_same _ _ _, fun k h0 _ => cI_ne _ _ h0, h, rfl, rfl⟩
theorem CSt_ref2 (w : CS) {M : GH} (h : Rel (w.2.1 2) M) (b c : Int32) : CSt w (cI (cI w 0 b) 0 c) c M := ⟨cI_same _ _ _, fun k h0 _ => (cI_ne _ _ h0).trans (cI_ne _ _ h0), h, rfl, rfl⟩
theorem cW_get3 (w : CS) (f : Nat → Int64) : (cW w f).2.1 3 = w.2.1 3 := by show va_up w.2.1 2 f 3 = _; exact up_ne _ _ (by decide)
theorem CSt_ok (w : CS) {M : GH} {f : Nat → Int64} (h : Rel f M) : CSt w (cW (cI w 0 0) f) 0 M := ⟨cI_same w 0 0, fun k h0 _ => cI_ne w 0 h0, by rw [cW_get]; exact h, cW_get3 _ _, rfl⟩
