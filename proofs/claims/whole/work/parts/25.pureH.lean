/-! PURE 7: the class's chain of parts; resting -/
def chainIs (w : CS) (l : List Nat) : Prop := w.1 2 = nI l.length ∧ l.length ≤ 144 ∧ ∀ j p, l[j]? = some p → w.2.2.1 j = nI p
def Cs (w w' : CS) : Prop := (∀ k, k ≠ 2 → w'.1 k = w.1 k) ∧ w'.2.1 = w.2.1 ∧ w'.2.2.2 = w.2.2.2
theorem Cs.rf (w : CS) : Cs w w := ⟨fun _ _ => rfl, rfl, rfl⟩
theorem Cs.tr {a b c : CS} (h1 : Cs a b) (h2 : Cs b c) : Cs a c := ⟨fun k hk => (h2.1 k hk).trans (h1.1 k hk), h2.2.1.trans h1.2.1, h2.2.2.trans h1.2.2⟩
theorem C_add (w : CS) {l : List Nat} {p : Nat} (h : chainIs w l) (hl : l.length < 144) (hp : p < 60) : ∃ w', fC_Ch_add w (nI p) = some w' ∧ chainIs w' (l ++ [p]) ∧ Cs w w' := by
  obtain ⟨h1, h2, h3⟩ := h
  unfold fC_Ch_add
  rw [if_neg (nI_m1 (by omega)), h1, show (144 : Int32) = nI 144 from rfl, if_neg (nI_ge hl (by decide)), ck_nI hl (by decide), g_let_eq, g_let_eq, nI_clamp (by omega)]
  refine ⟨_, rfl, ⟨?_, by simp; omega, fun j q hj => ?_⟩, fun k hk => up_ne _ _ hk, rfl, rfl⟩
  · show va_up w.1 2 (w.1 2 + 1) 2 = _
    rw [up_same, h1, nI_1]
    simp
  · show upd w.2.2.1 l.length (nI p) j = nI q
    by_cases hjl : j < l.length
    · rw [List.getElem?_append_left hjl] at hj
      rw [upd_ne _ _ (by omega)]
      exact h3 j q hj
    · rw [List.getElem?_append_right (by omega)] at hj
      have hz : j - l.length < 1 := (List.getElem?_eq_some_iff.mp hj).1
      rw [show j - l.length = 0 by omega] at hj
      cases hj
      rw [show j = l.length by omega, upd_same]
theorem C_add_n (w : CS) : fC_Ch_add w (-1) = some w := by unfold fC_Ch_add; rw [if_pos rfl]
theorem lNm1 (p : Nat) : (lN p - 1).toInt32 = nI p - 1 := by
  rw [show (lN p - 1).toInt32 = (lN p).toInt32 - 1 by simp, lN_i]
theorem nI0m1 : (nI 0 - 1 : Int32) = -1 := by decide
/-- at a place of a row of things -/
theorem C_atT (w : CS) {M : GH} (hr : Rel (w.2.1 2) M) (hM : WF M) {t : Nat} (ht : t < tc M) (hk : 16 ≤ kd M t) {i : Nat} (hi : i < ln M t) : fC_S_atPlace w (nI t) (nI i) = some (lN (pn M t i) - 1, w) := by
  have h60 := hM.1.1
  obtain ⟨-, -, -, a4, a5, -⟩ := hM.2.2.1 t ht
  obtain ⟨-, b2, -⟩ := hM.2.2.2.1 t ht hk i hi
  rw [C_atP w (by omega) ((hr.len (by omega)).trans a5) a4 hi, hr.2.2.2 t i (by omega) (by omega)]
  unfold plc
  rw [if_pos ⟨hk, hi⟩, b2]
theorem C_parts17 {M : GH} (hM : WF M) {t : Nat} (ht : t < tc M) (hk : 16 ≤ kd M t) : ∀ (d i fu : Nat) (w : CS) (l : List Nat), Rel (w.2.1 2) M → chainIs w l → l.length + d ≤ 144 → i + d = ln M t → d < fu → ∃ w', fC_Ch_addPartsOf_17 fu w (nI t) (nI i) = some w' ∧ chainIs w' (l ++ rowFrom M t d i) ∧ Cs w w' := by
  have h60 := hM.1.1
  obtain ⟨-, -, -, a4, a5, -⟩ := hM.2.2.1 t ht
  intro d
  induction d with
  | zero =>
    intro i fu w l hr hc hl hi hf
    obtain ⟨fu, rfl⟩ : ∃ m, fu = m + 1 := ⟨fu - 1, by omega⟩
    unfold fC_Ch_addPartsOf_17
    rw [C_places w (by omega), Option.bind_some, hr.len (by omega), a5]
    simp only [if_pos (nI_le (show ln M t ≤ i by omega) (by omega))]
    refine ⟨w, rfl, ?_, Cs.rf w⟩
    show chainIs w (l ++ [])
    rw [List.append_nil]
    exact hc
  | succ d ih =>
    intro i fu w l hr hc hl hi hf
    obtain ⟨fu, rfl⟩ : ∃ m, fu = m + 1 := ⟨fu - 1, by omega⟩
    unfold fC_Ch_addPartsOf_17
    rw [C_places w (by omega), Option.bind_some, hr.len (by omega), a5]
    simp only [if_neg (nI_ge (show i < ln M t by omega) (by omega))]
    rw [C_atT w hr hM ht hk (by omega), Option.bind_some]
    simp only [lNm1]
    unfold rowFrom
    obtain ⟨b1, -, -⟩ := hM.2.2.2.1 t ht hk i (by omega)
    by_cases hz : pn M t i = 0
    · rw [hz, if_pos rfl, nI0m1, C_add_n, Option.bind_some, nI_1]
      exact ih (i + 1) fu w l hr hc (by omega) (by omega) (by omega)
    · obtain ⟨q, hq⟩ : ∃ q, pn M t i = q + 1 := ⟨pn M t i - 1, by omega⟩
      rw [hq, nI_pred, if_neg (by omega), Nat.add_sub_cancel]
      obtain ⟨w1, e1, hc1, s1⟩ := C_add w hc (by omega) (show q < 60 by omega)
      rw [e1, Option.bind_some, nI_1]
      obtain ⟨w2, e2, hc2, s2⟩ := ih (i + 1) fu w1 (l ++ [q]) (by rw [s1.2.1]; exact hr) hc1 (by simp; omega) (by omega) (by omega)
      refine ⟨w2, e2, ?_, s1.tr s2⟩
      rw [List.append_assoc] at hc2
      exact hc2
theorem C_addParts_n (w : CS) : fC_Ch_addPartsOf w (-1) = some w := by
  unfold fC_Ch_addPartsOf
  rw [C_isIn_n, Option.bind_some]
  show fC_Ch_addPartsOf_17 (4999 + 1) w (-1) 0 = some w
  unfold fC_Ch_addPartsOf_17
  rw [C_places_n, Option.bind_some]
  rfl
theorem C_isInM (w : CS) {M : GH} (hr : Rel (w.2.1 2) M) (hM : WF M) {t : Nat} (m : Int32) (ht : t < tc M) : fC_S_isIn w (nI t) m = some (if (g_above (kd M t) &&& m) = 0 then 0 else 1, w) := by
  have h60 := hM.1.1
  obtain ⟨c2, -, c3, -⟩ := hM.2.2.1 t ht
  exact C_isIn w m (by omega) c2 (by rw [hr.kind (by omega), c3])
theorem C_addRow {M : GH} (hM : WF M) {t : Nat} (ht : t < tc M) (hk : 16 ≤ kd M t) (w : CS) (l : List Nat) (hr : Rel (w.2.1 2) M) (hc : chainIs w l) (hl : l.length + ln M t ≤ 144) : ∃ w', fC_Ch_addPartsOf w (nI t) = some w' ∧ chainIs w' (l ++ rowFrom M t (ln M t) 0) ∧ Cs w w' := by
  obtain ⟨c2, -⟩ := hM.2.2.1 t ht
  unfold fC_Ch_addPartsOf
  have h0 : under (kd M t) 0 = false := by
    cases h : under (kd M t) 0
    · rfl
    · have := (part_kind ⟨kd M t, c2⟩).mp h
      have : kd M t ≤ 10 := this
      omega
  rw [C_isInM w hr hM _ ht, Option.bind_some]
  simp only [if_pos ((mk1 ⟨kd M t, c2⟩).mpr h0), if_true]
  exact C_parts17 hM ht hk (ln M t) 0 g_fuel w l hr hc hl (by omega) (fuel_lt (by have := (hM.2.2.1 t ht).2.2.2.1; omega))
theorem C_board24 {M : GH} (hM : WF M) {t : Nat} (ht : t < tc M) (hk : kd M t = 23 ∨ kd M t = 24) : ∀ (d i fu : Nat) (w : CS) (l : List Nat), Rel (w.2.1 2) M → chainIs w l → l.length ≤ 12 * i → i + d = ln M t → d < fu → ∃ w', fC_Ch_lineUp_24 fu w (nI t) (nI i) = some w' ∧ chainIs w' (l ++ boardFrom M t d i) ∧ Cs w w' := by
  have h60 := hM.1.1
  obtain ⟨-, -, -, a4, a5, -⟩ := hM.2.2.1 t ht
  intro d
  induction d with
  | zero =>
    intro i fu w l hr hc hl hi hf
    obtain ⟨fu, rfl⟩ : ∃ m, fu = m + 1 := ⟨fu - 1, by omega⟩
    unfold fC_Ch_lineUp_24
    rw [C_places w (by omega), Option.bind_some, hr.len (by omega), a5]
    simp only [if_pos (nI_le (show ln M t ≤ i by omega) (by omega))]
    refine ⟨w, rfl, ?_, Cs.rf w⟩
    show chainIs w (l ++ [])
    rw [List.append_nil]
    exact hc
  | succ d ih =>
    intro i fu w l hr hc hl hi hf
    obtain ⟨fu, rfl⟩ : ∃ m, fu = m + 1 := ⟨fu - 1, by omega⟩
    unfold fC_Ch_lineUp_24
    rw [C_places w (by omega), Option.bind_some, hr.len (by omega), a5]
    simp only [if_neg (nI_ge (show i < ln M t by omega) (by omega))]
    rw [C_atT w hr hM ht (by omega) (by omega), Option.bind_some]
    simp only [lNm1]
    unfold boardFrom
    obtain ⟨b1, -, -⟩ := hM.2.2.2.1 t ht (by omega) i (by omega)
    by_cases hz : pn M t i = 0
    · rw [hz, if_pos rfl, nI0m1, C_addParts_n, Option.bind_some, nI_1]
      exact ih (i + 1) fu w l hr hc (by omega) (by omega) (by omega)
    · obtain ⟨e3, e4, -⟩ := board_row hM ht hk (by omega : i < ln M t) hz
      obtain ⟨q, hq⟩ : ∃ q, pn M t i = q + 1 := ⟨pn M t i - 1, by omega⟩
      rw [hq] at e3 e4 ⊢
      simp only [Nat.add_sub_cancel] at e3 e4
      rw [nI_pred, if_neg (by omega), Nat.add_sub_cancel]
      have hq12 := (hM.2.2.1 q e3).2.2.2.1
      obtain ⟨w1, e1, hc1, s1⟩ := C_addRow hM e3 (by omega) w l hr hc (by omega)
      rw [e1, Option.bind_some, nI_1]
      have hlen := row_len (M := M) (u := q) (ln M q) 0
      obtain ⟨w2, e2, hc2, s2⟩ := ih (i + 1) fu w1 (l ++ rowFrom M q (ln M q) 0) (by rw [s1.2.1]; exact hr) hc1 (by simp only [List.length_append]; omega) (by omega) (by omega)
      refine ⟨w2, e2, ?_, s1.tr s2⟩
      rw [List.append_assoc] at hc2
      exact hc2
theorem mk23 : ∀ k : Fin 25, ((g_above k.val &&& 8388608) = 0) ↔ ¬ (k.val = 23 ∨ k.val = 24) := by decide +kernel
theorem C_lineUp {M : GH} (hM : WF M) {t : Nat} (ht : t < tc M) (hp : played (kd M t) = true) (w : CS) (hr : Rel (w.2.1 2) M) : ∃ w', fC_Ch_lineUp w (nI t) = some w' ∧ chainIs w' (plist M t) ∧ Cs w w' := by
  have h60 := hM.1.1
  obtain ⟨c2, -, c3, -⟩ := hM.2.2.1 t ht
  have hpl := (played_tab ⟨kd M t, c2⟩).mp hp
  have hpl : kd M t ≤ 10 ∨ (17 ≤ kd M t ∧ kd M t ≠ 21) := hpl
  have hc0 : chainIs (cI w 2 0) [] := ⟨by show va_up w.1 2 0 2 = nI 0; exact up_same _ _ _, by simp, fun j p h => by simp at h⟩
  have s0 : Cs w (cI w 2 0) := ⟨fun k hk => up_ne _ _ hk, rfl, rfl⟩
  have hr0 : Rel ((cI w 2 0).2.1 2) M := hr
  unfold fC_Ch_lineUp plist
  rw [g_let_eq, C_isInM _ hr0 hM _ ht, Option.bind_some]
  by_cases hb : kd M t = 23 ∨ kd M t = 24
  · have h0 : ¬ under (kd M t) 0 = true := fun z => by
      have := (part_kind ⟨kd M t, c2⟩).mp z
      have : kd M t ≤ 10 := this
      omega
    simp only [if_neg (mt (mk23 ⟨kd M t, c2⟩).mp (fun z => z hb)), if_neg (show ¬ (1 : Int32) = 0 by decide), if_neg h0, if_pos hb]
    obtain ⟨w1, e1, hc1, s1⟩ := C_board24 hM ht hb (ln M t) 0 g_fuel _ [] hr0 hc0 (by simp) (by omega) (fuel_lt (by have := (hM.2.2.1 t ht).2.2.2.1; omega))
    exact ⟨w1, e1, by simpa using hc1, s0.tr s1⟩
  · simp only [if_pos ((mk23 ⟨kd M t, c2⟩).mpr hb), if_true, if_neg hb]
    by_cases h0 : under (kd M t) 0 = true
    · rw [if_pos h0]
      unfold fC_Ch_addPartsOf
      rw [C_isInM _ hr0 hM _ ht, Option.bind_some]
      simp only [if_neg (mt (mk1 ⟨kd M t, c2⟩).mp (by rw [h0]; decide)), if_neg (show ¬ (1 : Int32) = 0 by decide)]
      obtain ⟨w1, e1, hc1, s1⟩ := C_add _ hc0 (by simp) (show t < 60 by omega)
      rw [e1]
      exact ⟨w1, rfl, hc1, s0.tr s1⟩
    · rw [if_neg h0]
      have h10 : ¬ kd M t ≤ 10 := fun z => h0 ((part_kind ⟨kd M t, c2⟩).mpr z)
      obtain ⟨w1, e1, hc1, s1⟩ := C_addRow hM ht (by omega) _ [] hr0 hc0 (by have := (hM.2.2.1 t ht).2.2.2.1; simp; omega)
      rw [e1]
      exact ⟨w1, rfl, by simpa using hc1, s0.tr s1⟩
theorem C_chain4 (w : CS) {l : List Nat} (hc : chainIs w l) (hl : ∀ p ∈ l, p < 60) : ∀ (d j fu : Nat) (f : Nat → Int64) (M : GH) (x : Int32), Rel f M → j + d = l.length → d < fu → ∃ f', fC__playChain_4 fu (cW w f) x (nI j) = some ((foldT (l.drop j) M.1 x).1, cW w f') ∧ Rel f' ((foldT (l.drop j) M.1 x).2, M.2) := by
  obtain ⟨h1, h2, h3⟩ := hc
  intro d
  induction d with
  | zero =>
    intro j fu f M x hr hj hf
    obtain ⟨fu, rfl⟩ : ∃ m, fu = m + 1 := ⟨fu - 1, by omega⟩
    unfold fC__playChain_4
    have e : (cW w f).1 2 = nI l.length := h1
    rw [e, if_pos (nI_le (by omega) (by omega)), List.drop_eq_nil_of_le (by omega)]
    exact ⟨f, rfl, hr⟩
  | succ d ih =>
    intro j fu f M x hr hj hf
    obtain ⟨fu, rfl⟩ : ∃ m, fu = m + 1 := ⟨fu - 1, by omega⟩
    have hjl : j < l.length := by omega
    have hget : l[j]? = some l[j] := List.getElem?_eq_getElem hjl
    unfold fC__playChain_4 fC_Ch_partAt
    have e : (cW w f).1 2 = nI l.length := h1
    have e2 : (cW w f).2.2.1 j = nI l[j] := h3 j _ hget
    rw [e, if_neg (nI_ge hjl (by omega)), if_neg (nI_pos (by omega)), if_neg (nI_ge hjl (by omega)), show (144 : Int32) = nI 144 from rfl, if_neg (nI_ge (by omega) (by decide)), ck_nI (by omega) (by decide), g_let_eq, nI_clamp (by omega), e2, Option.bind_some]
    obtain ⟨f1, e3, r1⟩ := C_turn (w := w) hr x (hl _ (List.getElem_mem hjl))
    simp only [e3, Option.bind_some]
    rw [nI_1, List.drop_eq_getElem_cons hjl]
    exact ih (j + 1) fu f1 _ _ r1 (by omega) (by omega)
def foldC (M : GH) : List Nat → (Nat → Int32) → (Nat → Int32)
  | [], g => g
  | p :: l, g => foldC M l (spC g p (kd M p))
theorem spC_sk (g : Nat → Int32) {t : Nat} (k : Nat) (ht : t < 60) : SkE g (spC g t k) := by
  have a100 : ∀ g', SkE g g' → SkE g (sp100 g' t k) := fun g' h => by unfold sp100; split <;> first | exact h.up _ (by omega) | exact h
  have a83 : ∀ g', SkE g g' → SkE g (sp83 g' t k) := fun g' h => by unfold sp83; apply a100; split <;> first | exact h.up _ (by omega) | exact h
  have a53 : ∀ g', SkE g g' → SkE g (sp53 g' t k) := fun g' h => by unfold sp53; apply a83; split <;> first | exact h | exact h.up _ (by omega)
  have a33 : ∀ g', SkE g g' → SkE g (sp33 g' t k) := fun g' h => by unfold sp33; apply a53; split <;> first | exact h | exact h.up _ (by omega)
  unfold spC
  apply a33
  split
  · exact ((SkE.rf g).up _ (by omega)).up _ (by omega)
  · exact (SkE.rf g).up _ (by omega)
theorem foldC_app (M : GH) (l1 l2 : List Nat) (g : Nat → Int32) : foldC M (l1 ++ l2) g = foldC M l2 (foldC M l1 g) := by
  induction l1 generalizing g with
  | nil => rfl
  | cons p l ih => exact ih _
theorem foldC_sk (M : GH) (l : List Nat) (hl : ∀ p ∈ l, p < 60) (g : Nat → Int32) : SkE g (foldC M l g) := by
  induction l generalizing g with
  | nil => exact SkE.rf g
  | cons p l ih => exact (spC_sk g (kd M p) (hl p (List.mem_cons_self))).tr (ih (fun q hq => hl q (List.mem_cons_of_mem _ hq)) _)
