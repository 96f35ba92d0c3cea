/-! PURE 8: resting rows and chains; ticking rows; fitting; holding -/
theorem R_calm4 (v : RS) {M : GH} (hM : WF M) (h2 : v.2.2 3 = M.2) {t : Nat} (ht : t < tc M) (hk : 17 ≤ kd M t) : ∀ (d i c fu : Nat) (g : Nat → Int32), SkE M.1 g → i + d = ln M t → d < fu → fR_calmRow_4 fu (rS v g) (nI t) (nI c) (nI i) = some (nI (c + (rowFrom M t d i).length), rS v (foldC M (rowFrom M t d i) g)) := by
  have h60 := hM.1.1
  obtain ⟨-, -, -, a4, a5, -⟩ := hM.2.2.1 t ht
  intro d
  induction d with
  | zero =>
    intro i c fu g hs hi hf
    obtain ⟨fu, rfl⟩ : ∃ m, fu = m + 1 := ⟨fu - 1, by omega⟩
    unfold fR_calmRow_4
    rw [R_len _ (by omega), Option.bind_some, rS_get, hs _ (by omega), a5]
    simp only [if_pos (nI_le (show ln M t ≤ i by omega) (by omega))]
    rfl
  | succ d ih =>
    intro i c fu g hs hi hf
    obtain ⟨fu, rfl⟩ : ∃ m, fu = m + 1 := ⟨fu - 1, by omega⟩
    unfold fR_calmRow_4 fR_calmRow_35
    rw [R_len _ (by omega), Option.bind_some, rS_get, hs _ (by omega), a5]
    simp only [if_neg (nI_ge (show i < ln M t by omega) (by omega))]
    rw [R_thing _ (by omega) (by omega), Option.bind_some]
    have e1 : (rS v g).2.2 3 = M.2 := h2
    obtain ⟨p1, p2, -⟩ := hM.2.2.2.1 t ht (by omega) i (by omega)
    simp only [e1]
    rw [p2, lN_i]
    unfold rowFrom
    by_cases hz : pn M t i = 0
    · rw [hz, if_pos rfl]
      simp only [if_pos nI_m1_lt]
      rw [nI_1]
      exact ih (i + 1) c fu g hs (by omega) (by omega)
    · obtain ⟨q, hq⟩ : ∃ q, pn M t i = q + 1 := ⟨pn M t i - 1, by omega⟩
      rw [hq, nI_pred]
      simp only [if_neg (nI_pos (show q < 2 ^ 31 by omega)), if_neg (show ¬ q + 1 = 0 by omega), Nat.add_sub_cancel]
      obtain ⟨k1, -, k3, -⟩ := hM.2.2.1 q (by omega)
      rw [R_calm v g (show q < 60 by omega) k1 ((hs _ (by omega)).trans k3), Option.bind_some, nI_1, nI_1, ih (i + 1) (c + 1) fu _ (hs.tr (spC_sk g _ (show q < 60 by omega))) (by omega) (by omega), List.length_cons, show c + 1 + (rowFrom M t d (i + 1)).length = c + ((rowFrom M t d (i + 1)).length + 1) by omega]
      rfl
theorem R_calmRow (v : RS) {M : GH} (hM : WF M) (h2 : v.2.2 3 = M.2) {t : Nat} (ht : t < tc M) (hk : 17 ≤ kd M t) {g : Nat → Int32} (hs : SkE M.1 g) : fR_calmRow (rS v g) (nI t) = some (nI (rowFrom M t (ln M t) 0).length, rS v (foldC M (rowFrom M t (ln M t) 0) g)) := by
  unfold fR_calmRow
  have := R_calm4 v hM h2 ht hk (ln M t) 0 0 g_fuel g hs (by omega) (fuel_lt (by have := (hM.2.2.1 t ht).2.2.2.1; omega))
  rw [Nat.zero_add] at this
  exact this
theorem R_rest64 (v : RS) {M : GH} (hM : WF M) (h2 : v.2.2 3 = M.2) {t : Nat} (ht : t < tc M) (hk : kd M t = 23 ∨ kd M t = 24) : ∀ (d i c fu : Nat) (g : Nat → Int32), SkE M.1 g → i + d = ln M t → d < fu → fR_restOf_64 fu (rS v g) (nI t) (nI c) (nI i) = some (nI (c + (boardFrom M t d i).length), rS v (foldC M (boardFrom M t d i) g)) := by
  have h60 := hM.1.1
  obtain ⟨-, -, -, a4, a5, -⟩ := hM.2.2.1 t ht
  intro d
  induction d with
  | zero =>
    intro i c fu g hs hi hf
    obtain ⟨fu, rfl⟩ : ∃ m, fu = m + 1 := ⟨fu - 1, by omega⟩
    unfold fR_restOf_64
    rw [R_len _ (by omega), Option.bind_some, rS_get, hs _ (by omega), a5]
    simp only [if_pos (nI_le (show ln M t ≤ i by omega) (by omega))]
    rfl
  | succ d ih =>
    intro i c fu g hs hi hf
    obtain ⟨fu, rfl⟩ : ∃ m, fu = m + 1 := ⟨fu - 1, by omega⟩
    unfold fR_restOf_64 fR_restOf_99
    rw [R_len _ (by omega), Option.bind_some, rS_get, hs _ (by omega), a5]
    simp only [if_neg (nI_ge (show i < ln M t by omega) (by omega))]
    rw [R_thing _ (by omega) (by omega), Option.bind_some]
    have e1 : (rS v g).2.2 3 = M.2 := h2
    obtain ⟨p1, p2, -⟩ := hM.2.2.2.1 t ht (by omega) i (by omega)
    simp only [e1]
    rw [p2, lN_i]
    unfold boardFrom
    by_cases hz : pn M t i = 0
    · rw [hz, if_pos rfl]
      simp only [if_pos nI_m1_lt]
      rw [nI_1]
      exact ih (i + 1) c fu g hs (by omega) (by omega)
    · obtain ⟨e3, e4, -⟩ := board_row hM ht hk (by omega : i < ln M t) hz
      obtain ⟨q, hq⟩ : ∃ q, pn M t i = q + 1 := ⟨pn M t i - 1, by omega⟩
      rw [hq] at e3 e4 ⊢
      rw [nI_pred]
      simp only [Nat.add_sub_cancel] at e3 e4
      simp only [if_neg (nI_pos (show q < 2 ^ 31 by omega)), if_neg (show ¬ q + 1 = 0 by omega), Nat.add_sub_cancel]
      rw [R_calmRow v hM h2 e3 (by omega) hs, Option.bind_some, nI_1, nI_add, foldC_app, List.length_append, ih (i + 1) _ fu _ (hs.tr (foldC_sk M _ (fun p hp => by have := (row_mem hM e3 (by omega) (ln M q) 0 (by omega) p hp).1; omega) _)) (by omega) (by omega), Nat.add_assoc]
theorem C_rest34 {M : GH} (hM : WF M) (w : CS) {l : List Nat} (hc : chainIs w l) (hl : ∀ p ∈ l, p < tc M) : ∀ (d j fu : Nat) (f : Nat → Int64) (g : Nat → Int32), Rel f (g, M.2) → SkE M.1 g → j + d = l.length → d < fu → ∃ f', fC__restAll_34 fu (cW w f) (nI j) = some (nI l.length, cW w f') ∧ Rel f' (foldC M (l.drop j) g, M.2) := by
  have h60 := hM.1.1
  obtain ⟨h1, h2, h3⟩ := hc
  intro d
  induction d with
  | zero =>
    intro j fu f g hr hs hj hf
    obtain ⟨fu, rfl⟩ : ∃ m, fu = m + 1 := ⟨fu - 1, by omega⟩
    unfold fC__restAll_34
    have e : (cW w f).1 2 = nI l.length := h1
    rw [e, if_pos (nI_le (by omega) (by omega)), List.drop_eq_nil_of_le (by omega)]
    exact ⟨f, rfl, hr⟩
  | succ d ih =>
    intro j fu f g hr hs hj hf
    obtain ⟨fu, rfl⟩ : ∃ m, fu = m + 1 := ⟨fu - 1, by omega⟩
    have hjl : j < l.length := by omega
    have hget : l[j]? = some l[j] := List.getElem?_eq_getElem hjl
    unfold fC__restAll_34 fC_Ch_partAt
    have e : (cW w f).1 2 = nI l.length := h1
    have e2 : (cW w f).2.2.1 j = nI l[j] := h3 j _ hget
    rw [e, if_neg (nI_ge hjl (by omega)), if_neg (nI_pos (by omega)), if_neg (nI_ge hjl (by omega)), show (144 : Int32) = nI 144 from rfl, if_neg (nI_ge (by omega) (by decide)), ck_nI (by omega) (by decide), g_let_eq, nI_clamp (by omega), e2, Option.bind_some]
    have hp := hl _ (List.getElem_mem hjl)
    obtain ⟨k1, -, k3, -⟩ := hM.2.2.1 _ hp
    obtain ⟨f1, e3, r1⟩ := C_rest (w := w) hr (show l[j] < 60 by omega) k1 ((hs _ (by omega)).trans k3)
    simp only [e3, Option.bind_some]
    rw [nI_1, List.drop_eq_getElem_cons hjl]
    exact ih (j + 1) fu f1 _ r1 (hs.tr (spC_sk g _ (by omega))) (by omega) (by omega)
/-! rows of tickers -/
def foldK (M : GH) (t n : Nat) : Nat → Nat → (Nat → Int32) → Int32 → Int32 × (Nat → Int32)
  | 0, _, g, x => (x, g)
  | d + 1, i, g, x => if pn M t i = 0 then foldK M t n d (i + 1) g x else foldK M t n d (i + 1) (spTicks (pn M t i - 1) n 0 g 0).2 (x + (spTicks (pn M t i - 1) n 0 g 0).1)
theorem spTicks_sk {t : Nat} (ht : t < 60) : ∀ (d i : Nat) (g : Nat → Int32) (x : Int32), SkE g (spTicks t d i g x).2 := by
  intro d
  induction d with
  | zero => intro i g x; exact SkE.rf g
  | succ d ih =>
    intro i g x
    unfold spTicks
    exact SkE.tr (fun u hu => spTick_kind g _ hu ht) (ih _ _ _)
theorem R_ticksOf (v : RS) (g : Nat → Int32) {t n : Nat} (ht : t < 60) (hn : n ≤ 8) : fR_ticksOf (rS v g) (nI t) (nI n) = some ((spTicks t n 0 g 0).1, rS v (spTicks t n 0 g 0).2) := by
  unfold fR_ticksOf
  exact R_ticks5 v ht n hn n 0 g_fuel g 0 (by omega) (fuel_lt (by omega))
theorem C_ticksBy (w : CS) {t k n : Nat} (ht : t < 60) (hk : k < 25) (hn : n ≤ 8) {f : Nat → Int64} {M : GH} (hr : Rel f M) (hg : M.1 t = nI k) : ∃ f', fC_Ru_ticksBy (cW w f) (nI t) (nI n) = some ((spTicks t n 0 M.1 0).1, cW w f') ∧ Rel f' ((spTicks t n 0 M.1 0).2, M.2) := by
  unfold fC_Ru_ticksBy
  rw [if_neg (nI_m1 (by omega))]
  exact C_ticks12 w ht hk n hn n 0 g_fuel f M 0 hr hg (by omega) (fuel_lt (by omega))
theorem R_tick90 (v : RS) {M : GH} (hM : WF M) (h2 : v.2.2 3 = M.2) {t n : Nat} (hn : n ≤ 8) (ht : t < tc M) (hk : 16 ≤ kd M t) : ∀ (d i fu : Nat) (g : Nat → Int32) (x : Int32), SkE M.1 g → i + d = ln M t → d < fu → fR_ticksBy_90 fu (rS v g) (nI n) (nI t) x (nI i) = some ((foldK M t n d i g x).1, rS v (foldK M t n d i g x).2) := by
  have h60 := hM.1.1
  obtain ⟨-, -, -, a4, a5, -⟩ := hM.2.2.1 t ht
  intro d
  induction d with
  | zero =>
    intro i fu g x hs hi hf
    obtain ⟨fu, rfl⟩ : ∃ m, fu = m + 1 := ⟨fu - 1, by omega⟩
    unfold fR_ticksBy_90
    rw [R_len _ (by omega), Option.bind_some, rS_get, hs _ (by omega), a5]
    simp only [if_pos (nI_le (show ln M t ≤ i by omega) (by omega))]
    rfl
  | succ d ih =>
    intro i fu g x hs hi hf
    obtain ⟨fu, rfl⟩ : ∃ m, fu = m + 1 := ⟨fu - 1, by omega⟩
    unfold fR_ticksBy_90 fR_ticksBy_126
    rw [R_len _ (by omega), Option.bind_some, rS_get, hs _ (by omega), a5]
    simp only [if_neg (nI_ge (show i < ln M t by omega) (by omega))]
    rw [R_thing _ (by omega) (by omega), Option.bind_some]
    have e1 : (rS v g).2.2 3 = M.2 := h2
    obtain ⟨p1, p2, -⟩ := hM.2.2.2.1 t ht hk i (by omega)
    simp only [e1]
    rw [p2, lN_i]
    unfold foldK
    by_cases hz : pn M t i = 0
    · rw [if_pos hz, hz]
      simp only [if_pos nI_m1_lt]
      rw [nI_1]
      exact ih (i + 1) fu g x hs (by omega) (by omega)
    · rw [if_neg hz]
      obtain ⟨q, hq⟩ : ∃ q, pn M t i = q + 1 := ⟨pn M t i - 1, by omega⟩
      rw [hq, nI_pred]
      simp only [if_neg (nI_pos (show q < 2 ^ 31 by omega)), Nat.add_sub_cancel]
      rw [R_ticksOf v g (show q < 60 by omega) hn, Option.bind_some, nI_1]
      exact ih (i + 1) fu _ _ (hs.tr (spTicks_sk (show q < 60 by omega) _ _ _ _)) (by omega) (by omega)
theorem C_tick68 (w : CS) {M : GH} (hM : WF M) {t n : Nat} (hn : n ≤ 8) (ht : t < tc M) (hk : 16 ≤ kd M t) : ∀ (d i fu : Nat) (f : Nat → Int64) (g : Nat → Int32) (x : Int32), Rel f (g, M.2) → SkE M.1 g → i + d = ln M t → d < fu → ∃ f', fC__tickOn_68 fu (cW w f) (nI n) (nI t) x (nI i) = some ((foldK M t n d i g x).1, cW w f') ∧ Rel f' ((foldK M t n d i g x).2, M.2) := by
  have h60 := hM.1.1
  obtain ⟨k1, -, k3, a4, a5, -⟩ := hM.2.2.1 t ht
  intro d
  induction d with
  | zero =>
    intro i fu f g x hr hs hi hf
    obtain ⟨fu, rfl⟩ : ∃ m, fu = m + 1 := ⟨fu - 1, by omega⟩
    unfold fC__tickOn_68
    rw [C_places _ (by omega), Option.bind_some, cW_get, hr.len (by omega)]
    simp only [hs _ (show 60 + t < 120 ∨ 540 ≤ 60 + t by omega), a5, if_pos (nI_le (show ln M t ≤ i by omega) (show i < 2 ^ 31 by omega))]
    exact ⟨f, rfl, hr⟩
  | succ d ih =>
    intro i fu f g x hr hs hi hf
    obtain ⟨fu, rfl⟩ : ∃ m, fu = m + 1 := ⟨fu - 1, by omega⟩
    unfold fC__tickOn_68
    rw [C_places _ (by omega), Option.bind_some, cW_get, hr.len (by omega)]
    simp only [hs _ (show 60 + t < 120 ∨ 540 ≤ 60 + t by omega), a5, if_neg (nI_ge (show i < ln M t by omega) (show ln M t < 2 ^ 31 by omega))]
    obtain ⟨p1, p2, -⟩ := hM.2.2.2.1 t ht hk i (by omega)
    have eat : fC_S_atPlace (cW w f) (nI t) (nI i) = some (lN (pn M t i) - 1, cW w f) := by
      rw [C_atP _ (by omega) (by rw [cW_get, hr.len (by omega)]; exact (hs _ (by omega)).trans a5) a4 (show i < ln M t by omega), cW_get, hr.2.2.2 t i (by omega) (by omega)]
      have ek : kd (g, M.2) t = kd M t := congrArg Int32.toNatClampNeg (hs t (by omega))
      have el : ln (g, M.2) t = ln M t := congrArg Int32.toNatClampNeg (hs (60 + t) (by omega))
      unfold plc
      rw [ek, el, if_pos ⟨hk, by omega⟩, p2]
    rw [eat, Option.bind_some]
    simp only [lNm1]
    unfold foldK
    by_cases hz : pn M t i = 0
    · rw [if_pos hz, hz, nI0m1]
      unfold fC_Ru_ticksBy
      simp only [if_true, Option.bind_some]
      rw [nI_1, show x + 0 = x by simp]
      exact ih (i + 1) fu f g x hr hs (by omega) (by omega)
    · rw [if_neg hz]
      obtain ⟨q, hq⟩ : ∃ q, pn M t i = q + 1 := ⟨pn M t i - 1, by omega⟩
      rw [hq, nI_pred]
      simp only [Nat.add_sub_cancel]
      obtain ⟨c1, -, c3, -⟩ := hM.2.2.1 q (by omega)
      obtain ⟨f1, e3, r1⟩ := C_ticksBy w (n := n) (show q < 60 by omega) c1 hn hr ((hs _ (by omega)).trans c3)
      simp only [e3, Option.bind_some]
      rw [nI_1]
      exact ih (i + 1) fu f1 _ _ r1 (hs.tr (spTicks_sk (show q < 60 by omega) _ _ _ _)) (by omega) (by omega)
