/-! PURE 5: load; the parts of a played thing; playing -/
def spL (g : Nat → Int32) (t k : Nat) : Int32 :=
  if under k 2 = false then (if k = 1 then 5 else if k = 8 then 6 + (g (300 + t) &&& 7) else if under k 6 = false then (if under k 9 = false then 2 else 2 + g (360 + t)) else 6)
  else if k = 4 then (5 + tAbs (g (120 + t))) + g (240 + t) else (5 + tAbs (g (120 + t))) + 0
theorem R_load (v : RS) (g : Nat → Int32) {t k : Nat} (ht : t < 60) (hk : k < 25) (hg : g t = nI k) : fR_load (rS v g) (nI t) = some (spL g t k, rS v g) := by
  unfold fR_load spL
  rw [R_kindS v g ht, Option.bind_some, hg]
  show Option.bind (fR_isUnder (rS v g) (nI k) (nI 2)) _ = _
  rw [R_isUnder _ hk (by decide), Option.bind_some]
  by_cases h2 : under k 2 = false
  · simp only [if_pos ((b2_0 _).mpr h2), if_pos h2]
    by_cases h1 : k = 1
    · rw [if_pos ((eqk hk (by decide)).mpr h1), if_pos h1]
    · rw [if_neg (mt (eqk hk (by decide)).mp h1), if_neg h1]
      by_cases h8 : k = 8
      · rw [if_pos ((eqk hk (by decide)).mpr h8), if_pos h8]
        simp only [kb300 ht, lb300 ht, g_let_eq, rS_get]
      · rw [if_neg (mt (eqk hk (by decide)).mp h8), if_neg h8]
        show Option.bind (fR_isUnder (rS v g) (nI k) (nI 6)) _ = _
        rw [R_isUnder _ hk (by decide), Option.bind_some]
        by_cases h6 : under k 6 = false
        · simp only [if_pos ((b2_0 _).mpr h6), if_pos h6]
          show Option.bind (fR_isUnder (rS v g) (nI k) (nI 9)) _ = _
          rw [R_isUnder _ hk (by decide), Option.bind_some]
          by_cases h9 : under k 9 = false
          · simp only [if_pos ((b2_0 _).mpr h9), if_pos h9]
          · simp only [if_neg (mt (b2_0 _).mp h9), if_neg h9, kb360 ht, lb360 ht, g_let_eq, rS_get]
        · simp only [if_neg (mt (b2_0 _).mp h6), if_neg h6]
  · simp only [if_neg (mt (b2_0 _).mp h2), if_neg h2, kb120 ht, lb120 ht, g_let_eq, rS_get, R_size, Option.bind_some]
    by_cases h4 : k = 4
    · rw [if_pos ((eqk hk (by decide)).mpr h4), if_pos h4]
      simp only [kb240 ht, lb240 ht, g_let_eq, rS_get]
    · rw [if_neg (mt (eqk hk (by decide)).mp h4), if_neg h4]
def cl101 (g : Nat → Int32) (t k : Nat) (x : Int32) : Int32 := if k = 9 ∨ k = 10 then x + g (360 + t) else x
def cl78 (g : Nat → Int32) (t k : Nat) (x : Int32) : Int32 := cl101 g t k (if k = 8 then x + (g (300 + t) &&& 7) else x)
def cl65 (g : Nat → Int32) (t k : Nat) (x : Int32) : Int32 := cl78 g t k (if under k 6 = false then x else x + 4)
def cl46 (g : Nat → Int32) (t k : Nat) (x : Int32) : Int32 := cl65 g t k (if k = 4 then x + g (240 + t) else x)
def cl25 (g : Nat → Int32) (t k : Nat) (x : Int32) : Int32 := cl46 g t k (if under k 2 = false then x else x + tAbs (g (120 + t)))
def clL (g : Nat → Int32) (t k : Nat) : Int32 := cl25 g t k (if under k 1 = false then 2 else 2 + 3)
section CL
variable {w : CS} {f : Nat → Int64} {M : GH} {t k : Nat}
theorem C_load101 (h : Rel f M) (ht : t < 60) (hk : k < 25) (hg : M.1 t = nI k) (x : Int32) : fC_Ru_load_101 (cW w f) (nI t) x = some (cl101 M.1 t k x, cW w f) := by
  unfold fC_Ru_load_101 cl101
  rw [cw_isIn h _ ht hk hg, Option.bind_some]
  by_cases hc : k = 9 ∨ k = 10
  · simp only [if_neg (mt (mk512 ⟨k, hk⟩).mp (fun z => z hc)), if_neg (show ¬ (1 : Int32) = 0 by decide), if_pos hc, cw_trait h ht (show 6 < 11 by decide) (by decide) (by decide), Option.bind_some]
    rfl
  · simp only [if_pos ((mk512 ⟨k, hk⟩).mpr hc), if_true, if_neg hc]
theorem C_load78 (h : Rel f M) (ht : t < 60) (hk : k < 25) (hg : M.1 t = nI k) (x : Int32) : fC_Ru_load_78 (cW w f) (nI t) x = some (cl78 M.1 t k x, cW w f) := by
  unfold fC_Ru_load_78 cl78
  rw [cw_isIn h _ ht hk hg, Option.bind_some]
  by_cases hc : k = 8
  · simp only [if_neg (mt (mk256 ⟨k, hk⟩).mp (fun z => z hc)), if_neg (show ¬ (1 : Int32) = 0 by decide), if_pos hc, cw_trait h ht (show 5 < 11 by decide) (by decide) (by decide), Option.bind_some, C_load101 h ht hk hg]
    rfl
  · simp only [if_pos ((mk256 ⟨k, hk⟩).mpr hc), if_true, if_neg hc, C_load101 h ht hk hg]
theorem C_load65 (h : Rel f M) (ht : t < 60) (hk : k < 25) (hg : M.1 t = nI k) (x : Int32) : fC_Ru_load_65 (cW w f) (nI t) x = some (cl65 M.1 t k x, cW w f) := by
  unfold fC_Ru_load_65 cl65
  rw [cw_isIn h _ ht hk hg, Option.bind_some]
  by_cases hc : under k 6 = false
  · simp only [if_pos ((mk64 ⟨k, hk⟩).mpr hc), if_true, if_pos hc, C_load78 h ht hk hg]
  · simp only [if_neg (mt (mk64 ⟨k, hk⟩).mp hc), if_neg (show ¬ (1 : Int32) = 0 by decide), if_neg hc, C_load78 h ht hk hg]
theorem C_load46 (h : Rel f M) (ht : t < 60) (hk : k < 25) (hg : M.1 t = nI k) (x : Int32) : fC_Ru_load_46 (cW w f) (nI t) x = some (cl46 M.1 t k x, cW w f) := by
  unfold fC_Ru_load_46 cl46
  rw [cw_isIn h _ ht hk hg, Option.bind_some]
  by_cases hc : k = 4
  · simp only [if_neg (mt (mk16 ⟨k, hk⟩).mp (fun z => z hc)), if_neg (show ¬ (1 : Int32) = 0 by decide), if_pos hc, cw_trait h ht (show 4 < 11 by decide) (by decide) (by decide), Option.bind_some, C_load65 h ht hk hg]
    rfl
  · simp only [if_pos ((mk16 ⟨k, hk⟩).mpr hc), if_true, if_neg hc, C_load65 h ht hk hg]
theorem C_load25 (h : Rel f M) (ht : t < 60) (hk : k < 25) (hg : M.1 t = nI k) (x : Int32) : fC_Ru_load_25 (cW w f) (nI t) x = some (cl25 M.1 t k x, cW w f) := by
  unfold fC_Ru_load_25 cl25
  rw [cw_isIn h _ ht hk hg, Option.bind_some]
  by_cases hc : under k 2 = false
  · simp only [if_pos ((mk4 ⟨k, hk⟩).mpr hc), if_true, if_pos hc, C_load46 h ht hk hg]
  · simp only [if_neg (mt (mk4 ⟨k, hk⟩).mp hc), if_neg (show ¬ (1 : Int32) = 0 by decide), if_neg hc, cw_trait h ht (show 2 < 11 by decide) (by decide) (by decide), Option.bind_some, g_let_eq, g_abs_eq, C_load46 h ht hk hg]
    rfl
theorem C_loadP (h : Rel f M) (ht : t < 60) (hk : k < 25) (hg : M.1 t = nI k) (hp : under k 0 = true) : fC_Ru_load (cW w f) (nI t) = some (clL M.1 t k, cW w f) := by
  unfold fC_Ru_load clL
  rw [cw_isIn h _ ht hk hg, Option.bind_some]
  simp only [if_neg (mt (mk1 ⟨k, hk⟩).mp (by rw [hp]; decide)), if_neg (show ¬ (1 : Int32) = 0 by decide)]
  rw [cw_isIn h _ ht hk hg, Option.bind_some]
  by_cases hc : under k 1 = false
  · simp only [if_pos ((mk2 ⟨k, hk⟩).mpr hc), if_true, if_pos hc, C_load25 h ht hk hg]
  · simp only [if_neg (mt (mk2 ⟨k, hk⟩).mp hc), if_neg (show ¬ (1 : Int32) = 0 by decide), if_neg hc, C_load25 h ht hk hg]
theorem C_loadN (h : Rel f M) (ht : t < 60) (hk : k < 25) (hg : M.1 t = nI k) (hp : under k 0 = false) : fC_Ru_load (cW w f) (nI t) = some (0, cW w f) := by
  unfold fC_Ru_load
  rw [cw_isIn h _ ht hk hg, Option.bind_some]
  simp only [if_pos ((mk1 ⟨k, hk⟩).mpr hp), if_true]
end CL
theorem part_kind : ∀ k : Fin 25, under k.val 0 = true ↔ k.val ≤ 10 := by decide +kernel
theorem load_eq (g : Nat → Int32) {t k : Nat} (hp : under k 0 = true) (hk : k < 25) : clL g t k = spL g t k := by
  have h10 := (part_kind ⟨k, hk⟩).mp hp
  have h10 : k ≤ 10 := h10
  have e5 : (2 : Int32) + 3 = 5 := by decide
  have e6 : (2 : Int32) + 4 = 6 := by decide
  rcases (show k = 0 ∨ k = 1 ∨ k = 2 ∨ k = 3 ∨ k = 4 ∨ k = 5 ∨ k = 6 ∨ k = 7 ∨ k = 8 ∨ k = 9 ∨ k = 10 by omega) with rfl | rfl | rfl | rfl | rfl | rfl | rfl | rfl | rfl | rfl | rfl <;> simp (config := { decide := true }) [clL, cl25, cl46, cl65, cl78, cl101, spL, e5, e6]
/-! lists of parts -/
def rowFrom (M : GH) (t : Nat) : Nat → Nat → List Nat
  | 0, _ => []
  | d + 1, i => if pn M t i = 0 then rowFrom M t d (i + 1) else (pn M t i - 1) :: rowFrom M t d (i + 1)
def boardFrom (M : GH) (t : Nat) : Nat → Nat → List Nat
  | 0, _ => []
  | d + 1, i => if pn M t i = 0 then boardFrom M t d (i + 1) else rowFrom M (pn M t i - 1) (ln M (pn M t i - 1)) 0 ++ boardFrom M t d (i + 1)
def plist (M : GH) (t : Nat) : List Nat := if under (kd M t) 0 = true then [t] else if kd M t = 23 ∨ kd M t = 24 then boardFrom M t (ln M t) 0 else rowFrom M t (ln M t) 0
def foldT : List Nat → (Nat → Int32) → Int32 → Int32 × (Nat → Int32)
  | [], g, x => (x, g)
  | p :: l, g, x => foldT l (spT g p x).2 (spT g p x).1
theorem foldT_app (l1 l2 : List Nat) (g : Nat → Int32) (x : Int32) : foldT (l1 ++ l2) g x = foldT l2 (foldT l1 g x).2 (foldT l1 g x).1 := by
  induction l1 generalizing g x with
  | nil => rfl
  | cons p l ih => exact ih _ _
def SkE (g g' : Nat → Int32) : Prop := ∀ u, (u < 120 ∨ 540 ≤ u) → g' u = g u
theorem SkE.rf (g : Nat → Int32) : SkE g g := fun _ _ => rfl
theorem SkE.tr {a b c : Nat → Int32} (h1 : SkE a b) (h2 : SkE b c) : SkE a c := fun u hu => (h2 u hu).trans (h1 u hu)
theorem SkE.up {g g' : Nat → Int32} {i : Nat} (x : Int32) (h : SkE g g') (hi : 120 ≤ i ∧ i < 540) : SkE g (upd g' i x) := fun u hu => by rw [upd_ne _ _ (by omega)]; exact h u hu
theorem spT_sk (g : Nat → Int32) {p : Nat} (x : Int32) (hp : p < 60) : SkE g (spT g p x).2 := by
  have h1 : SkE g (upd g (180 + p) (g (180 + p) + 1)) := (SkE.rf g).up _ (by omega)
  unfold spT
  split
  · exact h1
  split
  · exact h1
  split
  · show SkE g (if _ then _ else _)
    split
    · exact h1
    · exact h1.up _ (by omega)
  split
  · exact h1.up _ (by omega)
  split
  · show SkE g (if _ then _ else _)
    split
    · exact h1.up _ (by omega)
    · exact (h1.up _ (by omega)).up _ (by omega)
  split
  · exact h1.up _ (by omega)
  split
  · exact h1.up _ (by omega)
  exact h1
theorem nI_m1_lt : (nI 0 - 1 : Int32) < 0 := by decide
theorem R_row5 (v : RS) {t : Nat} (ht : t < 60) (M : GH) (n : Nat) (hn : n ≤ 12) (hM2 : v.2.2 3 = M.2) (hpl : ∀ i, i < n → pn M t i ≤ 60 ∧ M.2 (12 * t + i) = lN (pn M t i)) : ∀ (d i fu : Nat) (g : Nat → Int32) (x : Int32), g (60 + t) = nI n → i + d = n → d < fu → fR_playRow_5 fu (rS v g) (nI t) x (nI i) = some ((foldT (rowFrom M t d i) g x).1, rS v (foldT (rowFrom M t d i) g x).2) := by
  intro d
  induction d with
  | zero =>
    intro i fu g x hl hi hf
    obtain ⟨fu, rfl⟩ : ∃ m, fu = m + 1 := ⟨fu - 1, by omega⟩
    unfold fR_playRow_5
    rw [R_len _ ht, Option.bind_some, rS_get, hl]
    simp only [if_pos (nI_le (show n ≤ i by omega) (by omega))]
    rfl
  | succ d ih =>
    intro i fu g x hl hi hf
    obtain ⟨fu, rfl⟩ : ∃ m, fu = m + 1 := ⟨fu - 1, by omega⟩
    unfold fR_playRow_5 fR_playRow_37
    rw [R_len _ ht, Option.bind_some, rS_get, hl]
    simp only [if_neg (nI_ge (show i < n by omega) (by omega))]
    rw [R_thing _ ht (by omega), Option.bind_some]
    have e1 : (rS v g).2.2 3 = M.2 := hM2
    obtain ⟨p1, p2⟩ := hpl i (by omega)
    simp only [e1]
    rw [p2, lN_i]
    unfold rowFrom
    by_cases hz : pn M t i = 0
    · rw [hz, if_pos rfl]
      simp only [if_pos nI_m1_lt]
      rw [nI_1]
      exact ih (i + 1) fu g x hl (by omega) (by omega)
    · obtain ⟨q, hq⟩ : ∃ q, pn M t i = q + 1 := ⟨pn M t i - 1, by omega⟩
      rw [hq, nI_pred]
      simp only [if_neg (nI_pos (show q < 2 ^ 31 by omega)), if_neg (show ¬ q + 1 = 0 by omega), Nat.add_sub_cancel]
      rw [R_turn v g x (show q < 60 by omega), Option.bind_some, nI_1]
      exact ih (i + 1) fu _ _ (by rw [spT_sk g x (show q < 60 by omega) _ (by omega)]; exact hl) (by omega) (by omega)
