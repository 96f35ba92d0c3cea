/-! PURE 4: rest, ticks, load -/
theorem eqk {k j : Nat} (hk : k < 25) (hj : j < 25) : (nI k = (OfNat.ofNat j : Int32)) ↔ k = j := nI_eq (by omega) (by omega)
theorem b2_0 (b : Bool) : (b2 b = 0) ↔ b = false := by cases b <;> decide
theorem mk1 : ∀ k : Fin 25, ((g_above k.val &&& 1) = 0) ↔ under k.val 0 = false := by decide +kernel
theorem mk2 : ∀ k : Fin 25, ((g_above k.val &&& 2) = 0) ↔ under k.val 1 = false := by decide +kernel
theorem mk4 : ∀ k : Fin 25, ((g_above k.val &&& 4) = 0) ↔ under k.val 2 = false := by decide +kernel
theorem mk16 : ∀ k : Fin 25, ((g_above k.val &&& 16) = 0) ↔ ¬ k.val = 4 := by decide +kernel
theorem mk32 : ∀ k : Fin 25, ((g_above k.val &&& 32) = 0) ↔ under k.val 5 = false := by decide +kernel
theorem mk64 : ∀ k : Fin 25, ((g_above k.val &&& 64) = 0) ↔ under k.val 6 = false := by decide +kernel
theorem mk128 : ∀ k : Fin 25, ((g_above k.val &&& 128) = 0) ↔ under k.val 7 = false := by decide +kernel
theorem mk256 : ∀ k : Fin 25, ((g_above k.val &&& 256) = 0) ↔ ¬ k.val = 8 := by decide +kernel
theorem mk512 : ∀ k : Fin 25, ((g_above k.val &&& 512) = 0) ↔ ¬ (k.val = 9 ∨ k.val = 10) := by decide +kernel
theorem mk1024 : ∀ k : Fin 25, ((g_above k.val &&& 1024) = 0) ↔ ¬ k.val = 10 := by decide +kernel
theorem R_kindS (v : RS) (g : Nat → Int32) {t : Nat} (ht : t < 60) : fR_kindOf (rS v g) (nI t) = some (g t, rS v g) := by rw [R_kind _ ht, rS_get]
theorem cw_isIn {w : CS} {f : Nat → Int64} {M : GH} (h : Rel f M) {t k : Nat} (m : Int32) (ht : t < 60) (hk : k < 25) (hg : M.1 t = nI k) : fC_S_isIn (cW w f) (nI t) m = some (if (g_above k &&& m) = 0 then 0 else 1, cW w f) := C_isIn _ m ht hk (by rw [cW_get, h.kind ht, hg])
def sp100 (g : Nat → Int32) (t k : Nat) : Nat → Int32 := if k = 10 then upd g (360 + t) 100 else g
def sp83 (g : Nat → Int32) (t k : Nat) : Nat → Int32 := sp100 (if k = 9 then upd g (360 + t) 0 else g) t k
def sp53 (g : Nat → Int32) (t k : Nat) : Nat → Int32 := sp83 (if under k 7 = false then g else upd g (120 + t) (g (120 + t) >>> ((1 : Int32) &&& 31))) t k
def sp33 (g : Nat → Int32) (t k : Nat) : Nat → Int32 := sp53 (if under k 5 = false then g else upd g (300 + t) 0) t k
def spC (g : Nat → Int32) (t k : Nat) : Nat → Int32 := sp33 (if k = 4 then upd (upd g (180 + t) 0) (240 + t) 0 else upd g (180 + t) 0) t k
theorem R_calm100 (v : RS) (g : Nat → Int32) {t k : Nat} (ht : t < 60) (hk : k < 25) : fR_calm_100 (rS v g) (nI t) (nI k) = some (rS v (sp100 g t k)) := by
  unfold fR_calm_100 sp100
  by_cases h : k = 10
  · rw [if_pos ((eqk hk (by decide)).mpr h), if_pos h]
    simp only [kb360 ht, lb360 ht, g_let_eq, rS_set]
  · rw [if_neg (mt (eqk hk (by decide)).mp h), if_neg h]
theorem R_calm83 (v : RS) (g : Nat → Int32) {t k : Nat} (ht : t < 60) (hk : k < 25) : fR_calm_83 (rS v g) (nI t) (nI k) = some (rS v (sp83 g t k)) := by
  unfold fR_calm_83 sp83
  by_cases h : k = 9
  · rw [if_pos ((eqk hk (by decide)).mpr h), if_pos h]
    simp only [kb360 ht, lb360 ht, g_let_eq, rS_set, R_calm100 v _ ht hk]
  · rw [if_neg (mt (eqk hk (by decide)).mp h), if_neg h, R_calm100 v _ ht hk]
theorem R_calm53 (v : RS) (g : Nat → Int32) {t k : Nat} (ht : t < 60) (hk : k < 25) : fR_calm_53 (rS v g) (nI t) (nI k) = some (rS v (sp53 g t k)) := by
  unfold fR_calm_53 sp53
  show Option.bind (fR_isUnder (rS v g) (nI k) (nI 7)) _ = _
  rw [R_isUnder _ hk (by decide), Option.bind_some]
  by_cases h : under k 7 = false
  · simp only [if_pos ((b2_0 _).mpr h), if_pos h, R_calm83 v _ ht hk]
  · simp only [if_neg (mt (b2_0 _).mp h), if_neg h, kb120 ht, lb120 ht, g_let_eq, rS_get, rS_set, R_calm83 v _ ht hk]
theorem R_calm33 (v : RS) (g : Nat → Int32) {t k : Nat} (ht : t < 60) (hk : k < 25) : fR_calm_33 (rS v g) (nI t) (nI k) = some (rS v (sp33 g t k)) := by
  unfold fR_calm_33 sp33
  show Option.bind (fR_isUnder (rS v g) (nI k) (nI 5)) _ = _
  rw [R_isUnder _ hk (by decide), Option.bind_some]
  by_cases h : under k 5 = false
  · simp only [if_pos ((b2_0 _).mpr h), if_pos h, R_calm53 v _ ht hk]
  · simp only [if_neg (mt (b2_0 _).mp h), if_neg h, kb300 ht, lb300 ht, g_let_eq, rS_get, rS_set, R_calm53 v _ ht hk]
theorem R_calm (v : RS) (g : Nat → Int32) {t k : Nat} (ht : t < 60) (hk : k < 25) (hg : g t = nI k) : fR_calm (rS v g) (nI t) = some (rS v (spC g t k)) := by
  unfold fR_calm spC
  rw [R_kindS v g ht, Option.bind_some, hg]
  by_cases h : k = 4
  · simp only [if_pos ((eqk hk (by decide)).mpr h), if_pos h, kb180 ht, lb180 ht, kb240 ht, lb240 ht, g_let_eq, rS_set, R_calm33 v _ ht hk]
  · simp only [if_neg (mt (eqk hk (by decide)).mp h), if_neg h, kb180 ht, lb180 ht, g_let_eq, rS_set, R_calm33 v _ ht hk]
theorem C_rest85 {w : CS} {f : Nat → Int64} {M : GH} (h : Rel f M) {t k : Nat} (ht : t < 60) (hk : k < 25) (hg : M.1 t = nI k) : ∃ f', fC_Ru_putToRest_85 (cW w f) (nI t) = some (cW w f') ∧ Rel f' (sp100 M.1 t k, M.2) := by
  unfold fC_Ru_putToRest_85 sp100
  rw [cw_isIn h _ ht hk hg, Option.bind_some]
  by_cases hc : k = 10
  · simp only [if_neg (mt (mk1024 ⟨k, hk⟩).mp (fun z => z hc)), if_neg (show ¬ (1 : Int32) = 0 by decide), if_pos hc, cw_set _ ht (show 6 < 23 by decide), Option.bind_some]
    exact ⟨_, rfl, h.set (c := 6) _ ht (by decide)⟩
  · simp only [if_pos ((mk1024 ⟨k, hk⟩).mpr hc), if_pos (show (0 : Int32) = 0 from rfl), if_neg hc]
    exact ⟨f, rfl, h⟩
theorem C_rest66 {w : CS} {f : Nat → Int64} {M : GH} (h : Rel f M) {t k : Nat} (ht : t < 60) (hk : k < 25) (hg : M.1 t = nI k) : ∃ f', fC_Ru_putToRest_66 (cW w f) (nI t) = some (cW w f') ∧ Rel f' (sp83 M.1 t k, M.2) := by
  unfold fC_Ru_putToRest_66 sp83
  rw [cw_isIn h _ ht hk hg, Option.bind_some]
  by_cases hc : k = 9 ∨ k = 10
  · simp only [if_neg (mt (mk512 ⟨k, hk⟩).mp (fun z => z hc)), if_neg (show ¬ (1 : Int32) = 0 by decide), cw_set _ ht (show 6 < 23 by decide), Option.bind_some]
    have h2 := h.set (c := 6) 0 ht (by decide)
    obtain ⟨f', e1, h3⟩ := C_rest85 (w := w) h2 ht hk (by show upd M.1 (360 + t) 0 t = _; rw [upd_ne _ _ (by omega)]; exact hg)
    refine ⟨f', e1, ?_⟩
    by_cases h9 : k = 9
    · rw [if_pos h9]; exact h3
    · rw [if_neg h9]
      have h10 := hc.resolve_left h9
      have e4 : sp100 (sg M (60 * qc 6 + t) 0).1 t k = sp100 M.1 t k := by
        unfold sp100
        rw [if_pos h10, if_pos h10]
        exact upd_upd _ _ _ _
      rw [e4] at h3
      exact h3
  · simp only [if_pos ((mk512 ⟨k, hk⟩).mpr hc), if_pos (show (0 : Int32) = 0 from rfl), if_neg (fun z => hc (Or.inl z))]
    exact C_rest85 h ht hk hg
theorem C_rest41 {w : CS} {f : Nat → Int64} {M : GH} (h : Rel f M) {t k : Nat} (ht : t < 60) (hk : k < 25) (hg : M.1 t = nI k) : ∃ f', fC_Ru_putToRest_41 (cW w f) (nI t) = some (cW w f') ∧ Rel f' (sp53 M.1 t k, M.2) := by
  unfold fC_Ru_putToRest_41 sp53
  rw [cw_isIn h _ ht hk hg, Option.bind_some]
  by_cases hc : under k 7 = false
  · simp only [if_pos ((mk128 ⟨k, hk⟩).mpr hc), if_pos (show (0 : Int32) = 0 from rfl), if_pos hc]
    exact C_rest66 h ht hk hg
  · simp only [if_neg (mt (mk128 ⟨k, hk⟩).mp hc), if_neg (show ¬ (1 : Int32) = 0 by decide), if_neg hc, cw_trait h ht (show 2 < 11 by decide) (by decide) (by decide), cw_set _ ht (show 2 < 23 by decide), Option.bind_some]
    have h2 := h.set (c := 2) (M.1 (60 * qc 2 + t) >>> ((1 : Int32) &&& 31)) ht (by decide)
    exact C_rest66 (w := w) h2 ht hk (by show upd M.1 (120 + t) _ t = _; rw [upd_ne _ _ (by omega)]; exact hg)
theorem C_rest24 {w : CS} {f : Nat → Int64} {M : GH} (h : Rel f M) {t k : Nat} (ht : t < 60) (hk : k < 25) (hg : M.1 t = nI k) : ∃ f', fC_Ru_putToRest_24 (cW w f) (nI t) = some (cW w f') ∧ Rel f' (sp33 M.1 t k, M.2) := by
  unfold fC_Ru_putToRest_24 sp33
  rw [cw_isIn h _ ht hk hg, Option.bind_some]
  by_cases hc : under k 5 = false
  · simp only [if_pos ((mk32 ⟨k, hk⟩).mpr hc), if_pos (show (0 : Int32) = 0 from rfl), if_pos hc]
    exact C_rest41 h ht hk hg
  · simp only [if_neg (mt (mk32 ⟨k, hk⟩).mp hc), if_neg (show ¬ (1 : Int32) = 0 by decide), if_neg hc, cw_set _ ht (show 5 < 23 by decide), Option.bind_some]
    have h2 := h.set (c := 5) 0 ht (by decide)
    exact C_rest41 (w := w) h2 ht hk (by show upd M.1 (300 + t) _ t = _; rw [upd_ne _ _ (by omega)]; exact hg)
theorem C_rest {w : CS} {f : Nat → Int64} {M : GH} (h : Rel f M) {t k : Nat} (ht : t < 60) (hk : k < 25) (hg : M.1 t = nI k) : ∃ f', fC_Ru_putToRest (cW w f) (nI t) = some (cW w f') ∧ Rel f' (spC M.1 t k, M.2) := by
  unfold fC_Ru_putToRest spC
  rw [cw_set _ ht (by decide), Option.bind_some]
  have h1 := h.set (c := 3) 0 ht (by decide)
  have hg1 : (sg M (60 * qc 3 + t) 0).1 t = nI k := by show upd M.1 (180 + t) _ t = _; rw [upd_ne _ _ (by omega)]; exact hg
  rw [cw_isIn h1 _ ht hk hg1, Option.bind_some]
  by_cases hc : k = 4
  · simp only [if_neg (mt (mk16 ⟨k, hk⟩).mp (fun z => z hc)), if_neg (show ¬ (1 : Int32) = 0 by decide), if_pos hc, cw_set _ ht (show 4 < 23 by decide), Option.bind_some]
    have h2 := h1.set (c := 4) 0 ht (by decide)
    exact C_rest24 (w := w) h2 ht hk (by show upd (upd M.1 (180 + t) 0) (240 + t) _ t = _; rw [upd_ne _ _ (by omega), upd_ne _ _ (by omega)]; exact hg)
  · simp only [if_pos ((mk16 ⟨k, hk⟩).mpr hc), if_pos (show (0 : Int32) = 0 from rfl), if_neg hc]
    exact C_rest24 h1 ht hk hg1
/-! ticks -/
def spTick (g : Nat → Int32) (t : Nat) (n : Int32) : Int32 × (Nat → Int32) := if g t = 10 then (g (360 + t) + (n + 1), upd g (360 + t) (g (360 + t) + (n + 1))) else (3 * g (480 + t) + n, upd g (480 + t) (3 * g (480 + t) + n))
def spTicks (t : Nat) : Nat → Nat → (Nat → Int32) → Int32 → Int32 × (Nat → Int32)
  | 0, _, g, x => (x, g)
  | d + 1, i, g, x => spTicks t d (i + 1) (spTick g t (nI i)).2 (x + (spTick g t (nI i)).1)
theorem R_ticks5 (v : RS) {t : Nat} (ht : t < 60) (n : Nat) (hn : n ≤ 8) : ∀ (d i fu : Nat) (g : Nat → Int32) (x : Int32), i + d = n → d < fu → fR_ticksOf_5 fu (rS v g) (nI t) (nI n) x (nI i) = some ((spTicks t d i g x).1, rS v (spTicks t d i g x).2) := by
  intro d
  induction d with
  | zero =>
    intro i fu g x hi hf
    obtain ⟨fu, rfl⟩ : ∃ m, fu = m + 1 := ⟨fu - 1, by omega⟩
    unfold fR_ticksOf_5
    rw [if_pos (nI_le (by omega) (by omega))]
    rfl
  | succ d ih =>
    intro i fu g x hi hf
    obtain ⟨fu, rfl⟩ : ∃ m, fu = m + 1 := ⟨fu - 1, by omega⟩
    unfold fR_ticksOf_5 fR_ticksOf_92
    rw [if_neg (nI_ge (by omega) (by omega)), R_kindS v g ht, Option.bind_some]
    unfold spTicks spTick
    by_cases h : g t = 10
    · simp only [if_pos h, kb360 ht, lb360 ht, g_let_eq, rS_get, rS_set, upd_same]
      rw [nI_1, ih (i + 1) fu _ _ (by omega) (by omega)]
    · simp only [if_neg h, kb480 ht, lb480 ht, g_let_eq, rS_get, rS_set, upd_same]
      rw [nI_1, ih (i + 1) fu _ _ (by omega) (by omega)]
theorem C_tick {w : CS} {f : Nat → Int64} {M : GH} (h : Rel f M) {t k : Nat} (n : Int32) (ht : t < 60) (hk : k < 25) (hg : M.1 t = nI k) : ∃ f', fC_Ru_tick (cW w f) (nI t) n = some ((spTick M.1 t n).1, cW w f') ∧ Rel f' ((spTick M.1 t n).2, M.2) := by
  unfold fC_Ru_tick spTick
  rw [cw_isIn h _ ht hk hg, Option.bind_some]
  by_cases hc : k = 10
  · have hc' : M.1 t = 10 := by rw [hg]; exact (eqk hk (by decide)).mpr hc
    simp only [if_neg (mt (mk1024 ⟨k, hk⟩).mp (fun z => z hc)), if_neg (show ¬ (1 : Int32) = 0 by decide), if_pos hc', cw_grow h _ ht (show 6 < 11 by decide) (by decide) (by decide), Option.bind_some]
    have h2 := h.set (c := 6) (M.1 (60 * qc 6 + t) + (n + 1)) ht (by decide)
    rw [cw_trait h2 ht (by decide) (by decide) (by decide), Option.bind_some]
    have e4 : (sg M (60 * qc 6 + t) (M.1 (60 * qc 6 + t) + (n + 1))).1 (60 * qc 6 + t) = M.1 (360 + t) + (n + 1) := upd_same _ _ _
    rw [e4]
    exact ⟨_, rfl, h2⟩
  · have hc' : ¬ M.1 t = 10 := by rw [hg]; exact mt (eqk hk (by decide)).mp hc
    simp only [if_pos ((mk1024 ⟨k, hk⟩).mpr hc), if_pos (show (0 : Int32) = 0 from rfl), if_neg hc', cw_trait h ht (show 9 < 11 by decide) (by decide) (by decide), Option.bind_some, cw_set _ ht (show 9 < 23 by decide)]
    have h2 := h.set (c := 9) (3 * M.1 (60 * qc 9 + t) + n) ht (by decide)
    rw [cw_trait h2 ht (by decide) (by decide) (by decide), Option.bind_some]
    have e4 : (sg M (60 * qc 9 + t) (3 * M.1 (60 * qc 9 + t) + n)).1 (60 * qc 9 + t) = 3 * M.1 (480 + t) + n := upd_same _ _ _
    rw [e4]
    exact ⟨_, rfl, h2⟩
theorem spTick_kind (g : Nat → Int32) {t : Nat} (n : Int32) {u : Nat} (hu : u < 120 ∨ 540 ≤ u) (ht : t < 60) : (spTick g t n).2 u = g u := by
  unfold spTick
  by_cases h : g t = 10
  · rw [if_pos h]; exact upd_ne _ _ (by omega)
  · rw [if_neg h]; exact upd_ne _ _ (by omega)
theorem C_ticks12 {t k : Nat} (w : CS) (ht : t < 60) (hk : k < 25) (n : Nat) (hn : n ≤ 8) : ∀ (d i fu : Nat) (f : Nat → Int64) (M : GH) (x : Int32), Rel f M → M.1 t = nI k → i + d = n → d < fu → ∃ f', fC_Ru_ticksBy_12 fu (cW w f) (nI t) (nI n) x (nI i) = some ((spTicks t d i M.1 x).1, cW w f') ∧ Rel f' ((spTicks t d i M.1 x).2, M.2) := by
  intro d
  induction d with
  | zero =>
    intro i fu f M x h hg hi hf
    obtain ⟨fu, rfl⟩ : ∃ m, fu = m + 1 := ⟨fu - 1, by omega⟩
    unfold fC_Ru_ticksBy_12
    rw [if_pos (nI_le (by omega) (by omega))]
    exact ⟨f, rfl, h⟩
  | succ d ih =>
    intro i fu f M x h hg hi hf
    obtain ⟨fu, rfl⟩ : ∃ m, fu = m + 1 := ⟨fu - 1, by omega⟩
    unfold fC_Ru_ticksBy_12
    obtain ⟨f1, e1, h1⟩ := C_tick (w := w) h (nI i) ht hk hg
    rw [if_neg (nI_ge (by omega) (by omega)), e1, Option.bind_some, nI_1]
    obtain ⟨f2, e2, h2⟩ := ih (i + 1) fu f1 _ (x + (spTick M.1 t (nI i)).1) h1 (by show (spTick M.1 t (nI i)).2 t = _; rw [spTick_kind _ _ (by omega) ht]; exact hg) (by omega) (by omega)
    exact ⟨f2, e2, h2⟩
