theorem kb60 {α : Type} {t : Nat} (ht : t < 60) (k : Option α) : g_ck ((60 : Int32) + nI t) 557 k = k := ck_b (B := 60) (by omega) k
theorem lb60 {t : Nat} (ht : t < 60) : ((60 : Int32) + nI t).toNatClampNeg = 60 + t := cl_b (B := 60) (by omega)
theorem kb120 {α : Type} {t : Nat} (ht : t < 60) (k : Option α) : g_ck ((120 : Int32) + nI t) 557 k = k := ck_b (B := 120) (by omega) k
theorem lb120 {t : Nat} (ht : t < 60) : ((120 : Int32) + nI t).toNatClampNeg = 120 + t := cl_b (B := 120) (by omega)
theorem kb180 {α : Type} {t : Nat} (ht : t < 60) (k : Option α) : g_ck ((180 : Int32) + nI t) 557 k = k := ck_b (B := 180) (by omega) k
theorem lb180 {t : Nat} (ht : t < 60) : ((180 : Int32) + nI t).toNatClampNeg = 180 + t := cl_b (B := 180) (by omega)
theorem kb240 {α : Type} {t : Nat} (ht : t < 60) (k : Option α) : g_ck ((240 : Int32) + nI t) 557 k = k := ck_b (B := 240) (by omega) k
theorem lb240 {t : Nat} (ht : t < 60) : ((240 : Int32) + nI t).toNatClampNeg = 240 + t := cl_b (B := 240) (by omega)
theorem kb300 {α : Type} {t : Nat} (ht : t < 60) (k : Option α) : g_ck ((300 : Int32) + nI t) 557 k = k := ck_b (B := 300) (by omega) k
theorem lb300 {t : Nat} (ht : t < 60) : ((300 : Int32) + nI t).toNatClampNeg = 300 + t := cl_b (B := 300) (by omega)
theorem kb360 {α : Type} {t : Nat} (ht : t < 60) (k : Option α) : g_ck ((360 : Int32) + nI t) 557 k = k := ck_b (B := 360) (by omega) k
theorem lb360 {t : Nat} (ht : t < 60) : ((360 : Int32) + nI t).toNatClampNeg = 360 + t := cl_b (B := 360) (by omega)
theorem kb420 {α : Type} {t : Nat} (ht : t < 60) (k : Option α) : g_ck ((420 : Int32) + nI t) 557 k = k := ck_b (B := 420) (by omega) k
theorem lb420 {t : Nat} (ht : t < 60) : ((420 : Int32) + nI t).toNatClampNeg = 420 + t := cl_b (B := 420) (by omega)
theorem kb480 {α : Type} {t : Nat} (ht : t < 60) (k : Option α) : g_ck ((480 : Int32) + nI t) 557 k = k := ck_b (B := 480) (by omega) k
theorem lb480 {t : Nat} (ht : t < 60) : ((480 : Int32) + nI t).toNatClampNeg = 480 + t := cl_b (B := 480) (by omega)
def echoZ (g : Nat → Int32) (t : Nat) (x : Int32) : Int32 := x + ((g (300 + t) * g (120 + t)) >>> ((4 : Int32) &&& 31))
def spT (g : Nat → Int32) (t : Nat) (x : Int32) : Int32 × (Nat → Int32) :=
  if g t = 2 then (clipv (g (120 + t)) x, upd g (180 + t) (g (180 + t) + 1))
  else if g t = 3 then (clipv (g (120 + t)) x, upd g (180 + t) (g (180 + t) + 1))
  else if g t = 4 then (clipv (g (120 + t)) x + ((x - clipv (g (120 + t)) x) >>> ((2 : Int32) &&& 31)), if clipv (g (120 + t)) x = x then upd g (180 + t) (g (180 + t) + 1) else upd (upd g (180 + t) (g (180 + t) + 1)) (240 + t) (g (240 + t) + 1))
  else if g t = 7 then (echoZ g t x, upd (upd g (180 + t) (g (180 + t) + 1)) (300 + t) x)
  else if g t = 8 then (echoZ g t x, if echoZ g t x ≤ g (420 + t) then upd (upd g (180 + t) (g (180 + t) + 1)) (300 + t) (x + (echoZ g t x >>> ((3 : Int32) &&& 31))) else upd (upd (upd g (180 + t) (g (180 + t) + 1)) (300 + t) (x + (echoZ g t x >>> ((3 : Int32) &&& 31)))) (420 + t) (echoZ g t x))
  else if g t = 9 then (x + (g (360 + t) + 1), upd (upd g (180 + t) (g (180 + t) + 1)) (360 + t) (g (360 + t) + 1))
  else if g t = 10 then (x + (g (360 + t) + 1), upd (upd g (180 + t) (g (180 + t) + 1)) (360 + t) (g (360 + t) + 1))
  else (x, upd g (180 + t) (g (180 + t) + 1))
theorem upd_self2 (g : Nat → Int32) {i : Nat} {x : Int32} (h : x = g i) : upd g i x = g := by subst h; exact upd_self' g i
theorem R_turn (v : RS) (g : Nat → Int32) {t : Nat} (x : Int32) (ht : t < 60) : fR_turn (rS v g) (nI t) x = some ((spT g t x).1, rS v (spT g t x).2) := by
  unfold fR_turn
  simp only [R_kind _ ht, kb120 ht, kb180 ht, kb240 ht, kb300 ht, kb360 ht, kb420 ht, lb120 ht, lb180 ht, lb240 ht, lb300 ht, lb360 ht, lb420 ht, g_let_eq, Option.bind_some, rS_get, rS_set, upd_same]
  unfold spT
  by_cases h2 : g t = 2
  · simp only [if_pos h2, R_clip _ _ _ ht, Option.bind_some]
    rw [upd_ne _ _ (by omega)]
  by_cases h3 : g t = 3
  · simp only [if_neg h2, if_pos h3, R_clip _ _ _ ht, Option.bind_some]
    rw [upd_ne _ _ (by omega)]
  by_cases h4 : g t = 4
  · simp only [if_neg h2, if_neg h3, if_pos h4, R_clip _ _ _ ht, Option.bind_some]
    rw [upd_ne _ _ (by omega)]
    by_cases hc : clipv (g (120 + t)) x = x
    · simp only [if_pos hc, fR_turn_72, kb120 ht, kb180 ht, kb240 ht, kb300 ht, kb360 ht, kb420 ht, lb120 ht, lb180 ht, lb240 ht, lb300 ht, lb360 ht, lb420 ht, g_let_eq, Option.bind_some, rS_get, rS_set, upd_same]
      rw [upd_ne g _ (by omega)]
      rw [upd_self2 _ (by rw [upd_ne g _ (by omega)]; simp)]
    · simp only [if_neg hc, fR_turn_72, kb120 ht, kb180 ht, kb240 ht, kb300 ht, kb360 ht, kb420 ht, lb120 ht, lb180 ht, lb240 ht, lb300 ht, lb360 ht, lb420 ht, g_let_eq, Option.bind_some, rS_get, rS_set, upd_same]
      rw [upd_ne g _ (by omega)]
  by_cases h7 : g t = 7
  · have h78 : ¬ g t = 8 := by rw [h7]; decide
    simp only [if_neg h2, if_neg h3, if_neg h4, if_pos h7, fR_turn_96, if_neg h78, kb120 ht, kb180 ht, kb240 ht, kb300 ht, kb360 ht, kb420 ht, lb120 ht, lb180 ht, lb240 ht, lb300 ht, lb360 ht, lb420 ht, g_let_eq, Option.bind_some, rS_get, rS_set, upd_same]
    rw [upd_ne g (k := 180 + t) (j := 300 + t) _ (by omega), upd_ne g (k := 180 + t) (j := 120 + t) _ (by omega)]
    rfl
  by_cases h8 : g t = 8
  · simp only [if_neg h2, if_neg h3, if_neg h4, if_neg h7, if_pos h8, fR_turn_96, kb120 ht, kb180 ht, kb240 ht, kb300 ht, kb360 ht, kb420 ht, lb120 ht, lb180 ht, lb240 ht, lb300 ht, lb360 ht, lb420 ht, g_let_eq, Option.bind_some, rS_get, rS_set, upd_same]
    rw [upd_ne g (k := 180 + t) (j := 300 + t) _ (by omega), upd_ne g (k := 180 + t) (j := 120 + t) _ (by omega)]
    rw [upd_upd, upd_ne _ (k := 300 + t) (j := 420 + t) _ (by omega), upd_ne _ (k := 180 + t) (j := 420 + t) _ (by omega)]
    show (if echoZ g t x ≤ g (420 + t) then _ else _) = _
    by_cases hz : echoZ g t x ≤ g (420 + t)
    · simp only [if_pos hz]
      rw [upd_self2 _ (by rw [upd_ne _ _ (by omega), upd_ne _ _ (by omega)])]
      rfl
    · simp only [if_neg hz]
      rfl
  by_cases h9 : g t = 9
  · simp only [if_neg h2, if_neg h3, if_neg h4, if_neg h7, if_neg h8, if_pos h9, fR_turn_211, kb120 ht, kb180 ht, kb240 ht, kb300 ht, kb360 ht, kb420 ht, lb120 ht, lb180 ht, lb240 ht, lb300 ht, lb360 ht, lb420 ht, g_let_eq, Option.bind_some, rS_get, rS_set, upd_same]
    rw [upd_ne g (k := 180 + t) (j := 360 + t) _ (by omega)]
  by_cases h10 : g t = 10
  · simp only [if_neg h2, if_neg h3, if_neg h4, if_neg h7, if_neg h8, if_neg h9, if_pos h10, fR_turn_211, kb120 ht, kb180 ht, kb240 ht, kb300 ht, kb360 ht, kb420 ht, lb120 ht, lb180 ht, lb240 ht, lb300 ht, lb360 ht, lb420 ht, g_let_eq, Option.bind_some, rS_get, rS_set, upd_same]
    rw [upd_ne g (k := 180 + t) (j := 360 + t) _ (by omega)]
  simp only [if_neg h2, if_neg h3, if_neg h4, if_neg h7, if_neg h8, if_neg h9, if_neg h10]
theorem C_turn {w : CS} {f : Nat → Int64} {M : GH} (h : Rel f M) {t : Nat} (x : Int32) (ht : t < 60) : ∃ f', fC_Ru_turn (cW w f) (nI t) x = some ((spT M.1 t x).1, cW w f') ∧ Rel f' ((spT M.1 t x).2, M.2) := by
  unfold fC_Ru_turn
  rw [cw_grow h _ ht (by decide) (by decide) (by decide), Option.bind_some]
  have h1 : Rel (vp_updL f (17 + t * 23 + 3) (M.1 (180 + t) + 1).toInt64) (sg M (180 + t) (M.1 (180 + t) + 1)) := h.set (c := 3) _ ht (by decide)
  show ∃ f', Option.bind (fC_S_trait (cW w (vp_updL f (17 + t * 23 + 3) (M.1 (180 + t) + 1).toInt64)) (nI t) 0) _ = _ ∧ _
  generalize vp_updL f (17 + t * 23 + 3) (M.1 (180 + t) + 1).toInt64 = f1 at h1 ⊢
  rw [cw_trait h1 ht (by decide) (by decide) (by decide), Option.bind_some]
  have ek : (sg M (180 + t) (M.1 (180 + t) + 1)).1 (60 * qc 0 + t) = M.1 t := by
    show upd M.1 (180 + t) _ (60 * 0 + t) = _
    rw [Nat.mul_zero, Nat.zero_add, upd_ne _ _ (by omega)]
  simp only [ek]
  unfold spT
  by_cases h2 : M.1 t = 2
  · simp only [if_pos h2, C_clip h1 _ ht, Option.bind_some]
    refine ⟨f1, ?_, h1⟩
    have e : (sg M (180 + t) (M.1 (180 + t) + 1)).1 (120 + t) = M.1 (120 + t) := upd_ne _ _ (by omega)
    rw [e]
  by_cases h3 : M.1 t = 3
  · simp only [if_neg h2, if_pos h3, C_clip h1 _ ht, Option.bind_some]
    refine ⟨f1, ?_, h1⟩
    have e : (sg M (180 + t) (M.1 (180 + t) + 1)).1 (120 + t) = M.1 (120 + t) := upd_ne _ _ (by omega)
    rw [e]
  by_cases h4 : M.1 t = 4
  · simp only [if_neg h2, if_neg h3, if_pos h4, C_clip h1 _ ht, Option.bind_some]
    have e : (sg M (180 + t) (M.1 (180 + t) + 1)).1 (120 + t) = M.1 (120 + t) := upd_ne _ _ (by omega)
    rw [e]
    unfold fC_Ru_bend fC_Ru_bend_12
    by_cases hc : clipv (M.1 (120 + t)) x = x
    · simp only [if_pos hc, Option.bind_some]
      exact ⟨f1, rfl, h1⟩
    · simp only [if_neg hc, cw_grow h1 _ ht (show 4 < 11 by decide) (by decide) (by decide), Option.bind_some]
      refine ⟨_, rfl, ?_⟩
      have h2 := h1.set (c := 4) ((sg M (180 + t) (M.1 (180 + t) + 1)).1 (60 * qc 4 + t) + 1) ht (by decide)
      have e2 : (sg M (180 + t) (M.1 (180 + t) + 1)).1 (60 * qc 4 + t) = M.1 (240 + t) := upd_ne _ _ (show 240 + t ≠ 180 + t by omega)
      rw [e2] at h2 ⊢
      exact h2
  by_cases h7 : M.1 t = 7
  · have h5 : ¬ M.1 t = 5 := by rw [h7]; decide
    have h6 : ¬ M.1 t = 6 := by rw [h7]; decide
    simp only [if_neg h5, if_neg h6, if_neg h2, if_neg h3, if_neg h4, if_pos h7]
    unfold fC_Ru_echo
    simp only [cw_trait h1 ht (show 5 < 11 by decide) (by decide) (by decide), Option.bind_some, cw_set _ ht (show 5 < 23 by decide)]
    have h2 := h1.set (c := 5) x ht (by decide)
    simp only [cw_trait h2 ht (show 2 < 11 by decide) (by decide) (by decide), Option.bind_some]
    refine ⟨_, ?_, h2⟩
    have e3 : (sg M (180 + t) (M.1 (180 + t) + 1)).1 (60 * qc 5 + t) = M.1 (300 + t) := upd_ne _ _ (show 300 + t ≠ 180 + t by omega)
    have e4 : (sg (sg M (180 + t) (M.1 (180 + t) + 1)) (60 * qc 5 + t) x).1 (60 * qc 2 + t) = M.1 (120 + t) := (upd_ne _ _ (show 120 + t ≠ 300 + t by omega)).trans (upd_ne _ _ (by omega))
    rw [e3, e4]
    rfl
  by_cases h8 : M.1 t = 8
  · have h5 : ¬ M.1 t = 5 := by rw [h8]; decide
    have h6 : ¬ M.1 t = 6 := by rw [h8]; decide
    simp only [if_neg h5, if_neg h6, if_neg h2, if_neg h3, if_neg h4, if_neg h7, if_pos h8]
    unfold fC_Ru_echo fC_Ru_resound
    simp only [cw_trait h1 ht (show 5 < 11 by decide) (by decide) (by decide), Option.bind_some, cw_set _ ht (show 5 < 23 by decide)]
    have h2 := h1.set (c := 5) x ht (by decide)
    simp only [cw_trait h2 ht (show 2 < 11 by decide) (by decide) (by decide), Option.bind_some]
    have e3 : (sg M (180 + t) (M.1 (180 + t) + 1)).1 (60 * qc 5 + t) = M.1 (300 + t) := upd_ne _ _ (show 300 + t ≠ 180 + t by omega)
    have e4 : (sg (sg M (180 + t) (M.1 (180 + t) + 1)) (60 * qc 5 + t) x).1 (60 * qc 2 + t) = M.1 (120 + t) := (upd_ne _ _ (show 120 + t ≠ 300 + t by omega)).trans (upd_ne _ _ (by omega))
    rw [e3, e4]
    show ∃ f', Option.bind (Option.bind (fC_S_grow _ (nI t) 5 (echoZ M.1 t x >>> ((3 : Int32) &&& 31))) _) _ = _ ∧ _
    rw [cw_grow h2 _ ht (by decide) (by decide) (by decide), Option.bind_some]
    have e5 : (sg (sg M (180 + t) (M.1 (180 + t) + 1)) (60 * qc 5 + t) x).1 (60 * qc 5 + t) = x := upd_same _ _ _
    rw [e5]
    have h3 := h2.set (c := 5) (x + (echoZ M.1 t x >>> ((3 : Int32) &&& 31))) ht (by decide)
    have e6 : sg (sg (sg M (180 + t) (M.1 (180 + t) + 1)) (60 * qc 5 + t) x) (60 * qc 5 + t) (x + (echoZ M.1 t x >>> ((3 : Int32) &&& 31))) = (upd (upd M.1 (180 + t) (M.1 (180 + t) + 1)) (300 + t) (x + (echoZ M.1 t x >>> ((3 : Int32) &&& 31))), M.2) := Prod.ext (upd_upd _ _ _ _) rfl
    rw [e6] at h3
    rw [cw_trait h3 ht (by decide) (by decide) (by decide), Option.bind_some]
    have e7 : upd (upd M.1 (180 + t) (M.1 (180 + t) + 1)) (300 + t) (x + (echoZ M.1 t x >>> ((3 : Int32) &&& 31))) (60 * qc 8 + t) = M.1 (420 + t) := (upd_ne _ _ (show 420 + t ≠ 300 + t by omega)).trans (upd_ne _ _ (by omega))
    show ∃ f', Option.bind (if echoZ M.1 t x ≤ upd (upd M.1 (180 + t) (M.1 (180 + t) + 1)) (300 + t) (x + (echoZ M.1 t x >>> ((3 : Int32) &&& 31))) (60 * qc 8 + t) then _ else _) _ = _ ∧ _
    rw [e7]
    by_cases hz : echoZ M.1 t x ≤ M.1 (420 + t)
    · simp only [if_pos hz, Option.bind_some]
      exact ⟨_, rfl, h3⟩
    · simp only [if_neg hz]
      show ∃ f', Option.bind (Option.bind (fC_S_setTrait _ (nI t) 8 (echoZ M.1 t x)) _) _ = _ ∧ _
      rw [cw_set _ ht (by decide), Option.bind_some, Option.bind_some]
      exact ⟨_, rfl, h3.set (c := 8) _ ht (by decide)⟩
  by_cases h9 : M.1 t = 9
  · have h5 : ¬ M.1 t = 5 := by rw [h9]; decide
    have h6 : ¬ M.1 t = 6 := by rw [h9]; decide
    simp only [if_neg h5, if_neg h6, if_neg h2, if_neg h3, if_neg h4, if_neg h7, if_neg h8, if_pos h9]
    unfold fC_Ru_countIn
    simp only [cw_grow h1 _ ht (show 6 < 11 by decide) (by decide) (by decide), Option.bind_some]
    have e3 : (sg M (180 + t) (M.1 (180 + t) + 1)).1 (60 * qc 6 + t) = M.1 (360 + t) := upd_ne _ _ (show 360 + t ≠ 180 + t by omega)
    rw [e3]
    have h2 := h1.set (c := 6) (M.1 (360 + t) + 1) ht (by decide)
    rw [cw_trait h2 ht (by decide) (by decide) (by decide), Option.bind_some, Option.bind_some]
    have e4 : (sg (sg M (180 + t) (M.1 (180 + t) + 1)) (60 * qc 6 + t) (M.1 (360 + t) + 1)).1 (60 * qc 6 + t) = M.1 (360 + t) + 1 := upd_same _ _ _
    rw [e4]
    exact ⟨_, rfl, h2⟩
  by_cases h10 : M.1 t = 10
  · have h5 : ¬ M.1 t = 5 := by rw [h10]; decide
    have h6 : ¬ M.1 t = 6 := by rw [h10]; decide
    simp only [if_neg h5, if_neg h6, if_neg h2, if_neg h3, if_neg h4, if_neg h7, if_neg h8, if_neg h9, if_pos h10]
    unfold fC_Ru_countIn
    simp only [cw_grow h1 _ ht (show 6 < 11 by decide) (by decide) (by decide), Option.bind_some]
    have e3 : (sg M (180 + t) (M.1 (180 + t) + 1)).1 (60 * qc 6 + t) = M.1 (360 + t) := upd_ne _ _ (show 360 + t ≠ 180 + t by omega)
    rw [e3]
    have h2 := h1.set (c := 6) (M.1 (360 + t) + 1) ht (by decide)
    rw [cw_trait h2 ht (by decide) (by decide) (by decide), Option.bind_some, Option.bind_some]
    have e4 : (sg (sg M (180 + t) (M.1 (180 + t) + 1)) (60 * qc 6 + t) (M.1 (360 + t) + 1)).1 (60 * qc 6 + t) = M.1 (360 + t) + 1 := upd_same _ _ _
    rw [e4]
    exact ⟨_, rfl, h2⟩
  simp only [if_neg h2, if_neg h3, if_neg h4, if_neg h7, if_neg h8, if_neg h9, if_neg h10]
  by_cases h5 : M.1 t = 5
  · simp only [if_pos h5]; exact ⟨f1, rfl, h1⟩
  by_cases h6 : M.1 t = 6
  · simp only [if_neg h5, if_pos h6]; exact ⟨f1, rfl, h1⟩
  simp only [if_neg h5, if_neg h6]; exact ⟨f1, rfl, h1⟩
