/-! PURE 10: leaves over the picture M -/
theorem i10 : ((1 : Int32) = 0) = False := eq_false (by decide)
theorem i20 : ((2 : Int32) = 0) = False := eq_false (by decide)
theorem i30 : ((3 : Int32) = 0) = False := eq_false (by decide)
theorem i40 : ((4 : Int32) = 0) = False := eq_false (by decide)
theorem l00 : ((0 : Int32) ≤ 0) = True := eq_true (by decide)
theorem l10 : ((1 : Int32) ≤ 0) = False := eq_false (by decide)
theorem l20 : ((2 : Int32) ≤ 0) = False := eq_false (by decide)
theorem l30 : ((3 : Int32) ≤ 0) = False := eq_false (by decide)
theorem l40 : ((4 : Int32) ≤ 0) = False := eq_false (by decide)
theorem m1neg : ((-1 : Int32) < 0) = True := eq_true (by decide)
theorem m1le : ((0 : Int32) ≤ -1) = False := eq_false (by decide)
theorem nIge0 {p : Nat} (h : p < 2 ^ 31) : ((0 : Int32) ≤ nI p) = True := eq_true (by
  have h1 := nI_toInt h
  exact Int32.le_iff_toInt_le.mpr (by rw [h1]; have h2 : (0 : Int32).toInt = 0 := by decide
                                      omega))
theorem nIneg {p : Nat} (h : p < 2 ^ 31) : (nI p < 0) = False := eq_false (nI_pos h)
theorem nIm1f {p : Nat} (h : p < 2 ^ 31) : (nI p = (-1 : Int32)) = False := eq_false (nI_m1 h)
theorem shelfM {M : GH} (hM : WF M) {j : Nat} (hj : j < 16) : sl M j = 0 ∨ ∃ p, sl M j = p + 1 ∧ p < tc M := by
  have := (hM.2.1 j hj).1
  by_cases h : sl M j = 0
  · exact Or.inl h
  · exact Or.inr ⟨sl M j - 1, by omega, by omega⟩
theorem placeM {M : GH} (hM : WF M) {p : Nat} (hp : p < tc M) (i : Int32) : (i < 0 ∨ nI (ln M p) ≤ i) ∨ ∃ j : Nat, j < ln M p ∧ i = nI j := by
  have := (hM.2.2.1 p hp).2.2.2.1
  rcases pk_ix i (n := ln M p) (by omega) with h | h | h
  · exact Or.inl (Or.inl h)
  · exact Or.inl (Or.inr h)
  · exact Or.inr h
theorem kb540 {α : Type} {j : Nat} (hj : j < 16) (k : Option α) : g_ck ((540 : Int32) + nI j) 557 k = k := ck_b (B := 540) (by omega) k
theorem lb540 {j : Nat} (hj : j < 16) : ((540 : Int32) + nI j).toNatClampNeg = 540 + j := cl_b (B := 540) (by omega)
theorem ix12 (p i : Nat) : ((12 : Int32) * nI p) + nI i = nI (12 * p + i) := by rw [show (12 : Int32) = nI 12 from rfl, pk_mul, nI_add]
theorem kb12 {α : Type} {p i : Nat} (hp : p < 60) (hi : i < 12) (k : Option α) : g_ck (((12 : Int32) * nI p) + nI i) 720 k = k := by rw [ix12]; exact ck_nI (by omega) (by decide) k
theorem lb12 {p i : Nat} (hp : p < 60) (hi : i < 12) : (((12 : Int32) * nI p) + nI i).toNatClampNeg = 12 * p + i := by rw [ix12]; exact nI_clamp (by omega)
theorem R_g (v : RS) {M : GH} (hv : gM v = M) (i : Nat) : v.2.1 2 i = M.1 i := by subst hv; rfl
theorem R_h (v : RS) {M : GH} (hv : gM v = M) (i : Nat) : v.2.2 3 i = M.2 i := by subst hv; rfl
theorem R_onX {M : GH} (hM : WF M) (v : RS) (hv : gM v = M) {j : Nat} (hj : j < 16) : fR_on v (nI j) = some (nI (sl M j) - 1, v) := by
  rw [R_on v hj, R_g v hv, (hM.2.1 j hj).2]
theorem R_on0 {M : GH} (hM : WF M) (v : RS) (hv : gM v = M) {j : Nat} (hj : j < 16) (h : sl M j = 0) : fR_on v (nI j) = some (-1, v) := by
  rw [R_onX hM v hv hj, h, nI0m1]
theorem R_on1 {M : GH} (hM : WF M) (v : RS) (hv : gM v = M) {j p : Nat} (hj : j < 16) (h : sl M j = p + 1) : fR_on v (nI j) = some (nI p, v) := by
  rw [R_onX hM v hv hj, h, nI_pred]
theorem R_kd {M : GH} (hM : WF M) (v : RS) (hv : gM v = M) {p : Nat} (hp : p < tc M) : fR_kindOf v (nI p) = some (nI (kd M p), v) := by
  have := hM.1.1
  rw [R_kind v (by omega), R_g v hv, (hM.2.2.1 p hp).2.2.1]
theorem R_ln {M : GH} (hM : WF M) (v : RS) (hv : gM v = M) {p : Nat} (hp : p < tc M) : fR_lengthOf v (nI p) = some (nI (ln M p), v) := by
  have := hM.1.1
  rw [R_len v (by omega), R_g v hv, (hM.2.2.1 p hp).2.2.2.2.1]
theorem R_th {M : GH} (hM : WF M) (v : RS) (hv : gM v = M) {p i : Nat} (hp : p < tc M) (hk : 16 ≤ kd M p) (hi : i < ln M p) : fR_thingAt v (nI p) (nI i) = some (nI (pn M p i) - 1, v) := by
  have := hM.1.1
  have := (hM.2.2.1 p hp).2.2.2.1
  rw [R_thing v (by omega) (by omega), R_h v hv, (hM.2.2.2.1 p hp hk i hi).2.1, lN_i]
theorem R_pf {M : GH} (hM : WF M) (v : RS) (hv : gM v = M) {p : Nat} {i : Int32} (hp : p < tc M) (h : i < 0 ∨ nI (ln M p) ≤ i) : fR_hasPlace v (nI p) i = some (0, v) := by
  have := hM.1.1
  exact R_hp_f v (by omega) (by rw [R_g v hv, (hM.2.2.1 p hp).2.2.2.2.1]) h
theorem R_pt {M : GH} (hM : WF M) (v : RS) (hv : gM v = M) {p i : Nat} (hp : p < tc M) (h : i < ln M p) : fR_hasPlace v (nI p) (nI i) = some (1, v) := by
  have := hM.1.1
  exact R_hp_t v (by omega) (by rw [R_g v hv, (hM.2.2.1 p hp).2.2.2.2.1]) (hM.2.2.1 p hp).2.2.2.1 h
theorem R_num (v : RS) {k : Nat} (hk : k < 25) : fR_isNumberRow v (nI k) = some (if 13 ≤ k ∧ k ≤ 15 then 1 else 0, v) := by
  unfold fR_isNumberRow
  by_cases h : k < 13
  · rw [if_pos (show nI k < 13 from nI_lt h (by decide)), if_neg (by omega)]
  · rw [if_neg (show ¬ nI k < 13 from nI_nlt (a := k) (b := 13) (by omega) (by omega))]
    by_cases h2 : 15 < k
    · rw [if_pos (show (15 : Int32) < nI k from nI_lt h2 (by omega)), if_neg (by omega)]
    · rw [if_neg (show ¬ (15 : Int32) < nI k from nI_nlt (a := 15) (b := k) (by omega) (by decide)), if_pos (by omega)]
theorem R_rot (v : RS) {k : Nat} (hk : k < 25) : fR_isRowOfThings v (nI k) = some (if 16 ≤ k then 1 else 0, v) := by
  unfold fR_isRowOfThings
  by_cases h : k < 16
  · rw [if_pos (show nI k < 16 from nI_lt h (by decide)), if_neg (by omega)]
  · rw [if_neg (show ¬ nI k < 16 from nI_nlt (a := k) (b := 16) (by omega) (by omega)), if_neg (show ¬ (24 : Int32) < nI k from nI_nlt (a := 24) (b := k) (by omega) (by decide)), if_pos (by omega)]
/-! the class -/
theorem C_onX {M : GH} (hM : WF M) (w : CS) (hr : Rel (w.2.1 2) M) {j : Nat} (hj : j < 16) : fC_S_onShelf w (nI j) = some (nI (sl M j) - 1, w) := by
  rw [C_onS w hj, hr.shf hj, (hM.2.1 j hj).2]
theorem C_on0 {M : GH} (hM : WF M) (w : CS) (hr : Rel (w.2.1 2) M) {j : Nat} (hj : j < 16) (h : sl M j = 0) : fC_S_onShelf w (nI j) = some (-1, w) := by
  rw [C_onX hM w hr hj, h, nI0m1]
theorem C_on1 {M : GH} (hM : WF M) (w : CS) (hr : Rel (w.2.1 2) M) {j p : Nat} (hj : j < 16) (h : sl M j = p + 1) : fC_S_onShelf w (nI j) = some (nI p, w) := by
  rw [C_onX hM w hr hj, h, nI_pred]
theorem C_kd {M : GH} (hM : WF M) (w : CS) (hr : Rel (w.2.1 2) M) {p : Nat} (hp : p < tc M) : fC_S_trait w (nI p) 0 = some (nI (kd M p), w) := by
  have := hM.1.1
  show fC_S_trait w (nI p) (nI 0) = _
  rw [C_trait w (by omega) (by decide), hr.kind (by omega), (hM.2.2.1 p hp).2.2.1]
theorem C_ln {M : GH} (hM : WF M) (w : CS) (hr : Rel (w.2.1 2) M) {p : Nat} (hp : p < tc M) : fC_S_places w (nI p) = some (nI (ln M p), w) := by
  have := hM.1.1
  rw [C_places w (by omega), hr.len (by omega), (hM.2.2.1 p hp).2.2.2.2.1]
theorem C_pf {M : GH} (hM : WF M) (w : CS) (hr : Rel (w.2.1 2) M) {p : Nat} {i : Int32} (hp : p < tc M) (h : i < 0 ∨ nI (ln M p) ≤ i) : fC_S_hasPlace w (nI p) i = some (0, w) := by
  have := hM.1.1
  exact C_hp_f w (by omega) (by rw [hr.len (by omega), (hM.2.2.1 p hp).2.2.2.2.1]) h
theorem C_pt {M : GH} (hM : WF M) (w : CS) (hr : Rel (w.2.1 2) M) {p i : Nat} (hp : p < tc M) (h : i < ln M p) : fC_S_hasPlace w (nI p) (nI i) = some (1, w) := by
  have := hM.1.1
  exact C_hp_t w (by omega) (by rw [hr.len (by omega), (hM.2.2.1 p hp).2.2.2.2.1]) (hM.2.2.1 p hp).2.2.2.1 h
theorem C_sp {M : GH} (hM : WF M) (w : CS) (hr : Rel (w.2.1 2) M) {p i : Nat} (x : Int64) (hp : p < tc M) (h : i < ln M p) : fC_S_setPlace w (nI p) (nI i) x = some (cL w 2 (17 + p * 23 + 11 + i) x) := by
  have := hM.1.1
  exact C_setP w x (by omega) (by rw [hr.len (by omega), (hM.2.2.1 p hp).2.2.2.2.1]) (hM.2.2.1 p hp).2.2.2.1 h
theorem cL_cW (w : CS) (i : Nat) (x : Int64) : cL w 2 i x = cW w (vp_updL (w.2.1 2) i x) := rfl
theorem C_hn1 (w : CS) {s : Int32} (m : Int32) (h : s < 0 ∨ 15 < s) : fC__holdsNone w s m = some (1, cI (cI w 0 0) 0 1) := by
  unfold fC__holdsNone
  rw [g_let_eq, C_sh_f _ h, Option.bind_some]
  simp only [if_true, g_let_eq, fC__holdsNone_64, cI_same, i10, if_false]
theorem C_hn2 {M : GH} (hM : WF M) (w : CS) (hr : Rel (w.2.1 2) M) {j : Nat} (m : Int32) (hj : j < 16) (h : sl M j = 0) : fC__holdsNone w (nI j) m = some (1, cI (cI w 0 0) 0 2) := by
  unfold fC__holdsNone
  rw [g_let_eq, C_sh_t _ hj, Option.bind_some]
  simp only [i10, if_false, C_on0 hM (cI w 0 0) hr hj h, Option.bind_some, if_true, g_let_eq, fC__holdsNone_64, cI_same, i20]
theorem C_hn3 {M : GH} (hM : WF M) (w : CS) (hr : Rel (w.2.1 2) M) {j p : Nat} (m : Int32) (hj : j < 16) (h : sl M j = p + 1) (hp : p < tc M) (hm : (g_above (kd M p) &&& m) = 0) : fC__holdsNone w (nI j) m = some (1, cI (cI w 0 0) 0 3) := by
  have := hM.1.1
  unfold fC__holdsNone
  rw [g_let_eq, C_sh_t _ hj, Option.bind_some]
  simp only [i10, if_false, C_on1 hM (cI w 0 0) hr hj h, Option.bind_some, nIm1f (show p < 2 ^ 31 by omega), C_isInM (cI w 0 0) hr hM m hp, if_pos hm, if_true, g_let_eq, fC__holdsNone_64, cI_same, i30]
theorem C_hn0 {M : GH} (hM : WF M) (w : CS) (hr : Rel (w.2.1 2) M) {j p : Nat} (m : Int32) (hj : j < 16) (h : sl M j = p + 1) (hp : p < tc M) (hm : ¬ (g_above (kd M p) &&& m) = 0) : fC__holdsNone w (nI j) m = some (0, cI w 0 0) := by
  have := hM.1.1
  unfold fC__holdsNone
  rw [g_let_eq, C_sh_t _ hj, Option.bind_some]
  simp only [i10, if_false, C_on1 hM (cI w 0 0) hr hj h, Option.bind_some, nIm1f (show p < 2 ^ 31 by omega), C_isInM (cI w 0 0) hr hM m hp, if_neg hm, if_true, g_let_eq, fC__holdsNone_64, cI_same]
theorem C_np1 (w : CS) {s : Int32} (m i : Int32) (h : s < 0 ∨ 15 < s) : fC__hasNoPlace w s m i = some (1, cI (cI w 0 0) 0 1) := by
  unfold fC__hasNoPlace
  rw [C_hn1 w m h, Option.bind_some]
  simp only [i10, if_false, fC__hasNoPlace_33, cI_same]
theorem C_np2 {M : GH} (hM : WF M) (w : CS) (hr : Rel (w.2.1 2) M) {j : Nat} (m i : Int32) (hj : j < 16) (h : sl M j = 0) : fC__hasNoPlace w (nI j) m i = some (1, cI (cI w 0 0) 0 2) := by
  unfold fC__hasNoPlace
  rw [C_hn2 hM w hr m hj h, Option.bind_some]
  simp only [i10, i20, if_false, fC__hasNoPlace_33, cI_same]
theorem C_np3 {M : GH} (hM : WF M) (w : CS) (hr : Rel (w.2.1 2) M) {j p : Nat} (m i : Int32) (hj : j < 16) (h : sl M j = p + 1) (hp : p < tc M) (hm : (g_above (kd M p) &&& m) = 0) : fC__hasNoPlace w (nI j) m i = some (1, cI (cI w 0 0) 0 3) := by
  unfold fC__hasNoPlace
  rw [C_hn3 hM w hr m hj h hp hm, Option.bind_some]
  simp only [i10, i30, if_false, fC__hasNoPlace_33, cI_same]
theorem C_np4 {M : GH} (hM : WF M) (w : CS) (hr : Rel (w.2.1 2) M) {j p : Nat} (m : Int32) {i : Int32} (hj : j < 16) (h : sl M j = p + 1) (hp : p < tc M) (hm : ¬ (g_above (kd M p) &&& m) = 0) (hi : i < 0 ∨ nI (ln M p) ≤ i) : fC__hasNoPlace w (nI j) m i = some (1, cI (cI w 0 0) 0 4) := by
  unfold fC__hasNoPlace
  rw [C_hn0 hM w hr m hj h hp hm, Option.bind_some]
  simp only [if_true, C_on1 hM (cI w 0 0) hr hj h, Option.bind_some, C_pf hM (cI w 0 0) hr hp hi, g_let_eq, fC__hasNoPlace_33, cI_same, i40, if_false]
theorem C_np0 {M : GH} (hM : WF M) (w : CS) (hr : Rel (w.2.1 2) M) {j p i : Nat} (m : Int32) (hj : j < 16) (h : sl M j = p + 1) (hp : p < tc M) (hm : ¬ (g_above (kd M p) &&& m) = 0) (hi : i < ln M p) : fC__hasNoPlace w (nI j) m (nI i) = some (0, cI w 0 0) := by
  unfold fC__hasNoPlace
  rw [C_hn0 hM w hr m hj h hp hm, Option.bind_some]
  simp only [if_true, C_on1 hM (cI w 0 0) hr hj h, Option.bind_some, C_pt hM (cI w 0 0) hr hp hi, fC__hasNoPlace_33, cI_same, i10, if_false]
theorem C_ee1 (w : CS) {s t : Int32} (h : (s < 0 ∨ 15 < s) ∨ (t < 0 ∨ 15 < t)) : fC__isEitherEmpty w s t = some (1, cI (cI w 0 0) 0 1) := by
  unfold fC__isEitherEmpty fC__isEitherEmpty_19
  rw [g_let_eq]
  rcases shelf_cases s with hs | ⟨j, hj, rfl⟩
  · rw [C_sh_f _ hs, Option.bind_some]
    simp only [if_true, g_let_eq, fC__isEitherEmpty_56, cI_same, i10, if_false]
  · rw [C_sh_t _ hj, Option.bind_some]
    have ht : t < 0 ∨ 15 < t := by
      refine h.resolve_left (fun z => z.elim (fun y => nI_pos (by omega) y) (fun y => ?_))
      exact nI_nlt (a := 15) (b := j) (by omega) (by decide) y
    simp only [i10, if_false, C_sh_f _ ht, Option.bind_some, if_true, g_let_eq, fC__isEitherEmpty_56, cI_same]
theorem C_ee2 {M : GH} (hM : WF M) (w : CS) (hr : Rel (w.2.1 2) M) {j i : Nat} (hj : j < 16) (hi : i < 16) (h : sl M j = 0 ∨ sl M i = 0) : fC__isEitherEmpty w (nI j) (nI i) = some (1, cI (cI w 0 0) 0 2) := by
  have h60 := hM.1.1
  unfold fC__isEitherEmpty fC__isEitherEmpty_51
  rw [g_let_eq, C_sh_t _ hj, Option.bind_some]
  simp only [i10, if_false, C_sh_t _ hi, Option.bind_some]
  rcases shelfM hM hj with h0 | ⟨p, hp, hpt⟩
  · simp only [C_on0 hM (cI w 0 0) hr hj h0, Option.bind_some, if_true, g_let_eq, fC__isEitherEmpty_56, cI_same, i20, if_false]
  · have h1 : sl M i = 0 := h.resolve_left (by omega)
    simp only [C_on1 hM (cI w 0 0) hr hj hp, Option.bind_some, nIm1f (show p < 2 ^ 31 by omega), if_false, C_on0 hM (cI w 0 0) hr hi h1, if_true, g_let_eq, fC__isEitherEmpty_56, cI_same, i20]
theorem C_ee0 {M : GH} (hM : WF M) (w : CS) (hr : Rel (w.2.1 2) M) {j i p q : Nat} (hj : j < 16) (hi : i < 16) (hp : sl M j = p + 1) (hq : sl M i = q + 1) (hpt : p < tc M) (hqt : q < tc M) : fC__isEitherEmpty w (nI j) (nI i) = some (0, cI w 0 0) := by
  have h60 := hM.1.1
  unfold fC__isEitherEmpty
  rw [g_let_eq, C_sh_t _ hj, Option.bind_some]
  simp only [i10, if_false, C_sh_t _ hi, Option.bind_some, C_on1 hM (cI w 0 0) hr hj hp, nIm1f (show p < 2 ^ 31 by omega), C_on1 hM (cI w 0 0) hr hi hq, nIm1f (show q < 2 ^ 31 by omega), fC__isEitherEmpty_56, cI_same, if_true]
/-! acts: how they end -/
theorem Act2.ref {F : RS → Option (Int32 × RS)} {G : CS → Option (Int32 × CS)} {M : GH} (hM : WF M) (c : Int32) (hR : ∀ v, gM v = M → F v = some (0, sI v 15 c)) (hC : ∀ w, Rel (w.2.1 2) M → G w = some (0, cI w 0 c) ∨ G w = some (0, cI (cI w 0 0) 0 c)) (hc : (0 : Int32) ≤ c := by decide) : Act2 F G M := by
  refine ⟨0, c, M, hM, Ext.rf M, hc, fun _ => rfl, fun v hv h0 => ⟨_, hR v hv, RSt_ref v hv c⟩, fun w hr => ?_⟩
  rcases hC w hr with h | h
  · exact ⟨_, h, CSt_ref w hr c⟩
  · exact ⟨_, h, CSt_ref2 w hr 0 c⟩
theorem Act2.ok {F : RS → Option (Int32 × RS)} {G : CS → Option (Int32 × CS)} {M M' : GH} (hM' : WF M') (hE : Ext M M') (r : Int32) (hR : ∀ v, gM v = M → F v = some (r, rM v M')) (hC : ∀ w, Rel (w.2.1 2) M → ∃ w', G w = some (r, w') ∧ CSt w w' 0 M') : Act2 F G M :=
  ⟨r, 0, M', hM', hE, by decide, fun h => absurd rfl h, fun v hv h0 => ⟨_, hR v hv, RSt_ok v M' h0⟩, fun w hr => hC w hr⟩
theorem rM_self (v : RS) {M : GH} (hv : gM v = M) : rM v M = v := by
  subst hv
  show (v.1, va_up v.2.1 2 (v.2.1 2), va_up v.2.2 3 (v.2.2 3)) = v
  rw [up_self, up_self]
theorem Act2.same {F : RS → Option (Int32 × RS)} {G : CS → Option (Int32 × CS)} {M : GH} (hM : WF M) (r : Int32) (hR : ∀ v, gM v = M → F v = some (r, v)) (hC : ∀ w, Rel (w.2.1 2) M → G w = some (r, cI w 0 0)) : Act2 F G M :=
  Act2.ok hM (Ext.rf M) r (fun v hv => by rw [hR v hv, rM_self v hv]) (fun w hr => ⟨_, hC w hr, CSt_ref w hr 0⟩)
theorem R_ref (v : RS) (c : Int32) : fR_refuse v c = some (0, sI v 15 c) := rfl
theorem C_ref (w : CS) (c : Int32) : fC__refuse w c = some (0, cI w 0 c) := rfl
/-! the masks -/
theorem mkRT : ∀ k : Fin 25, ((g_above k.val &&& 10682368) = 0) ↔ ¬ 16 ≤ k.val := by decide +kernel
theorem mkNR : ∀ k : Fin 25, ((g_above k.val &&& 57344) = 0) ↔ ¬ (13 ≤ k.val ∧ k.val ≤ 15) := by decide +kernel
theorem mkRows : ∀ k : Fin 25, ((g_above k.val &&& 10739712) = 0) ↔ ¬ 13 ≤ k.val := by decide +kernel
theorem mkRR : ∀ k : Fin 25, ((g_above k.val &&& 8454144) = 0) ↔ ¬ (k.val = 16 ∨ k.val = 23 ∨ k.val = 24) := by decide +kernel
theorem mkPl : ∀ k : Fin 25, ((g_above k.val &&& 8519681) = 0) ↔ played k.val = false := by decide +kernel
theorem mkTk : ∀ k : Fin 25, ((g_above k.val &&& 2101248) = 0) ↔ (under k.val 12 = false ∧ under k.val 21 = false) := by decide +kernel
theorem mkT : ∀ k : Fin 25, ((g_above k.val &&& 4096) = 0) ↔ under k.val 12 = false := by decide +kernel
theorem mkN : ∀ k : Fin 25, ((g_above k.val &&& 8192) = 0) ↔ ¬ k.val = 13 := by decide +kernel
theorem mkAll : ∀ k : Fin 25, ¬ (g_above k.val &&& -1) = 0 := by decide +kernel
theorem mkBit : ∀ o : Fin 25, ∀ k : Fin 25, ((g_above k.val &&& ((1 : Int32) <<< (nI o.val &&& 31))) = 0) ↔ under k.val o.val = false := by decide +kernel
/-! the simple acts -/
theorem nIm1_eq {p : Nat} (hp : p < 2 ^ 31) : (nI p - 1 = (-1 : Int32)) ↔ p = 0 := by
  cases p with
  | zero => exact ⟨fun _ => rfl, fun _ => nI0m1⟩
  | succ q => rw [nI_pred]; exact ⟨fun h => absurd h (nI_m1 (by omega)), fun h => absurd h (by omega)⟩
theorem lNm1_eq {p : Nat} (hp : p < 2 ^ 31) : (lN p - 1 = (-1 : Int64)) ↔ p = 0 := by
  constructor
  · intro h
    have := congrArg Int64.toInt32 h
    rw [lNm1] at this
    exact (nIm1_eq hp).mp this
  · intro h; subst h; decide
theorem nIle0 {p : Nat} (hp : p < 2 ^ 31) : (nI p ≤ 0) ↔ p = 0 := by
  constructor
  · intro h
    have h1 := Int32.le_iff_toInt_le.mp h
    rw [nI_toInt hp] at h1
    have h2 : (0 : Int32).toInt = 0 := by decide
    omega
  · intro h; subst h; decide
theorem nIm1lt {p : Nat} (hp : p < 2 ^ 31) : (nI p - 1 < 0) ↔ p = 0 := by
  cases p with
  | zero => exact ⟨fun _ => rfl, fun _ => nI_m1_lt⟩
  | succ q => rw [nI_pred]; exact ⟨fun h => absurd h (nI_pos (by omega)), fun h => absurd h (by omega)⟩
theorem C_put {M : GH} (w : CS) (hr : Rel (w.2.1 2) M) {j p : Nat} (hj : j < 16) (hp : p < 2 ^ 31) : fC__putOnShelf w (nI j) (nI p - 1) = some (if p = 0 then 0 else 1, cW w (vp_updL (w.2.1 2) j (nI p - 1).toInt64)) := by
  unfold fC__putOnShelf
  rw [C_setS w _ hj, Option.bind_some, cL_cW]
  by_cases h : p = 0
  · rw [if_pos ((nIm1_eq hp).mpr h), if_pos h]
  · rw [if_neg (mt (nIm1_eq hp).mp h), if_neg h]
theorem rM_a' (v : RS) {M : GH} (hv : gM v = M) (i : Nat) (x : Int32) : sA v 2 i x = rM v (sg M i x) := rM_a v hv i x
theorem sA_get (v : RS) (i : Nat) (x : Int32) : (sA v 2 i x).2.1 2 i = x := by
  show va_up v.2.1 2 (upd (v.2.1 2) i x) 2 i = x
  rw [up_same, upd_same]
theorem act_lay {M : GH} (hM : WF M) (s t : Int32) : Act2 (fun v => fR_layOn v s t) (fun w => fC__layOver w s t) M := by
  have h60 := hM.1.1
  rcases shelf_cases s with hs | ⟨j, hj, rfl⟩
  · refine Act2.ref hM 1 (fun v hv => ?_) (fun w hr => Or.inr ?_)
    · simp only [fR_layOn, R_sh_f v hs, Option.bind_some, if_true, R_ref]
    · simp only [fC__layOver, g_let_eq, C_sh_f _ hs, Option.bind_some, if_true, C_ref]
  · rcases shelf_cases t with ht | ⟨i, hi, rfl⟩
    · refine Act2.ref hM 1 (fun v hv => ?_) (fun w hr => Or.inr ?_)
      · simp only [fR_layOn, R_sh_t v hj, R_sh_f v ht, Option.bind_some, i10, if_false, if_true, R_ref]
      · simp only [fC__layOver, g_let_eq, C_sh_t _ hj, C_sh_f _ ht, Option.bind_some, i10, if_false, if_true, C_ref]
    · have hle := (hM.2.1 j hj).1
      refine Act2.ok (hM.setS (j := i) (p := sl M j) hi hle) (Ext.sg M _ (by omega)) (if sl M j = 0 then 0 else 1) (fun v hv => ?_) (fun w hr => ?_)
      · simp only [fR_layOn, R_sh_t v hj, R_sh_t v hi, Option.bind_some, i10, if_false, kb540 hj, kb540 hi, g_let_eq, lb540 hj, lb540 hi, R_g v hv, (hM.2.1 j hj).2, sA_get]
        rw [rM_a v hv]
        by_cases h : sl M j = 0
        · rw [if_pos ((nIle0 (by omega)).mpr h), if_pos h]
        · rw [if_neg (mt (nIle0 (by omega)).mp h), if_neg h]
      · refine ⟨_, ?_, CSt_ok w (hr.setS (j := i) hi (show sl M j < 2 ^ 31 by omega))⟩
        simp only [fC__layOver, g_let_eq, C_sh_t _ hj, C_sh_t _ hi, Option.bind_some, i10, if_false, C_onX hM (cI w 0 0) hr hj, C_put (M := M) (cI w 0 0) hr hi (show sl M j < 2 ^ 31 by omega)]
        rfl
