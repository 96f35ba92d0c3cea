/-! PURE 21: the reference's copies, calls kept, lines added -/
def sB (v : RS) (B : Nat) (f : Nat → Int32) : RS := (v.1, va_up v.2.1 B f, v.2.2)
theorem sB_same (v : RS) (B : Nat) (f : Nat → Int32) : (sB v B f).2.1 B = f := by show va_up v.2.1 B f B = _; exact up_same _ _ _
theorem sB_ne (v : RS) {B k : Nat} (f : Nat → Int32) (h : k ≠ B) : (sB v B f).2.1 k = v.2.1 k := by show va_up v.2.1 B f k = _; exact up_ne _ _ h
theorem sB_set (v : RS) (B : Nat) (f : Nat → Int32) (i : Nat) (x : Int32) : sA (sB v B f) B i x = sB v B (upd f i x) := by
  unfold sA
  rw [sB_same]
  show ((sB v B f).1, va_up (va_up v.2.1 B f) B (upd f i x), (sB v B f).2.2) = _
  rw [bx_uu]
  rfl
theorem sB_id (v : RS) (B : Nat) : sB v B (v.2.1 B) = v := by unfold sB; rw [up_self]
theorem sA_sB (v : RS) (B i : Nat) (x : Int32) : sA v B i x = sB v B (upd (v.2.1 B) i x) := rfl
theorem R_ci_call_acts (v : RS) {o2 n : Nat} (hn : n ≤ 6) (ho : o2 + n ≤ 3078) : ∀ (d i fu : Nat) (f : Nat → Int32), i + d = n → d < fu → ∃ f', fR_copyInts_call_acts_3 fu (sB v 6 f) (nI 0) (nI o2) (nI n) (nI i) = some (sB v 6 f') ∧ (∀ k, i ≤ k → k < n → f' (o2 + k) = v.2.1 17 k) ∧ (∀ k, (k < o2 + i ∨ o2 + n ≤ k) → f' k = f k) := by
  intro d
  induction d with
  | zero =>
    intro i fu f hi hf
    obtain ⟨fu, rfl⟩ : ∃ m, fu = m + 1 := ⟨fu - 1, by omega⟩
    unfold fR_copyInts_call_acts_3
    rw [if_pos (nI_le (show n ≤ i by omega) (by omega))]
    exact ⟨f, rfl, fun k h1 h2 => by omega, fun _ _ => rfl⟩
  | succ d ih =>
    intro i fu f hi hf
    obtain ⟨fu, rfl⟩ : ∃ m, fu = m + 1 := ⟨fu - 1, by omega⟩
    unfold fR_copyInts_call_acts_3
    rw [if_neg (nI_ge (show i < n by omega) (by omega)), nI_add, nI_add, Nat.zero_add, ck_nI (show i < 6 by omega) (by decide), g_let_eq, ck_nI (show o2 + i < 3078 by omega) (by decide), g_let_eq, nI_clamp (show i < 2 ^ 31 by omega), nI_clamp (show o2 + i < 2 ^ 31 by omega), sB_ne v f (show 17 ≠ 6 by decide), sB_set, nI_1]
    obtain ⟨f', e, a1, a2⟩ := ih (i + 1) fu (upd f (o2 + i) (v.2.1 17 i)) (by omega) (by omega)
    refine ⟨f', e, fun k h1 h2 => ?_, fun k hk => ?_⟩
    · by_cases hki : k = i
      · rw [hki, a2 _ (by omega), upd_same]
      · exact a1 k (by omega) h2
    · rw [a2 k (by omega), upd_ne _ _ (by omega)]
theorem R_ci_call_lines (v : RS) {o2 n : Nat} (hn : n ≤ 6) (ho : o2 + n ≤ 3078) : ∀ (d i fu : Nat) (f : Nat → Int32), i + d = n → d < fu → ∃ f', fR_copyInts_call_lines_3 fu (sB v 9 f) (nI 0) (nI o2) (nI n) (nI i) = some (sB v 9 f') ∧ (∀ k, i ≤ k → k < n → f' (o2 + k) = v.2.1 17 k) ∧ (∀ k, (k < o2 + i ∨ o2 + n ≤ k) → f' k = f k) := by
  intro d
  induction d with
  | zero =>
    intro i fu f hi hf
    obtain ⟨fu, rfl⟩ : ∃ m, fu = m + 1 := ⟨fu - 1, by omega⟩
    unfold fR_copyInts_call_lines_3
    rw [if_pos (nI_le (show n ≤ i by omega) (by omega))]
    exact ⟨f, rfl, fun k h1 h2 => by omega, fun _ _ => rfl⟩
  | succ d ih =>
    intro i fu f hi hf
    obtain ⟨fu, rfl⟩ : ∃ m, fu = m + 1 := ⟨fu - 1, by omega⟩
    unfold fR_copyInts_call_lines_3
    rw [if_neg (nI_ge (show i < n by omega) (by omega)), nI_add, nI_add, Nat.zero_add, ck_nI (show i < 6 by omega) (by decide), g_let_eq, ck_nI (show o2 + i < 3078 by omega) (by decide), g_let_eq, nI_clamp (show i < 2 ^ 31 by omega), nI_clamp (show o2 + i < 2 ^ 31 by omega), sB_ne v f (show 17 ≠ 9 by decide), sB_set, nI_1]
    obtain ⟨f', e, a1, a2⟩ := ih (i + 1) fu (upd f (o2 + i) (v.2.1 17 i)) (by omega) (by omega)
    refine ⟨f', e, fun k h1 h2 => ?_, fun k hk => ?_⟩
    · by_cases hki : k = i
      · rw [hki, a2 _ (by omega), upd_same]
      · exact a1 k (by omega) h2
    · rw [a2 k (by omega), upd_ne _ _ (by omega)]
theorem R_ci_state_before (v : RS) {o2 n : Nat} (hn : n ≤ 557) (ho : o2 + n ≤ 557) : ∀ (d i fu : Nat) (f : Nat → Int32), i + d = n → d < fu → ∃ f', fR_copyInts_state_before_3 fu (sB v 4 f) (nI 0) (nI o2) (nI n) (nI i) = some (sB v 4 f') ∧ (∀ k, i ≤ k → k < n → f' (o2 + k) = v.2.1 2 k) ∧ (∀ k, (k < o2 + i ∨ o2 + n ≤ k) → f' k = f k) := by
  intro d
  induction d with
  | zero =>
    intro i fu f hi hf
    obtain ⟨fu, rfl⟩ : ∃ m, fu = m + 1 := ⟨fu - 1, by omega⟩
    unfold fR_copyInts_state_before_3
    rw [if_pos (nI_le (show n ≤ i by omega) (by omega))]
    exact ⟨f, rfl, fun k h1 h2 => by omega, fun _ _ => rfl⟩
  | succ d ih =>
    intro i fu f hi hf
    obtain ⟨fu, rfl⟩ : ∃ m, fu = m + 1 := ⟨fu - 1, by omega⟩
    unfold fR_copyInts_state_before_3
    rw [if_neg (nI_ge (show i < n by omega) (by omega)), nI_add, nI_add, Nat.zero_add, ck_nI (show i < 557 by omega) (by decide), g_let_eq, ck_nI (show o2 + i < 557 by omega) (by decide), g_let_eq, nI_clamp (show i < 2 ^ 31 by omega), nI_clamp (show o2 + i < 2 ^ 31 by omega), sB_ne v f (show 2 ≠ 4 by decide), sB_set, nI_1]
    obtain ⟨f', e, a1, a2⟩ := ih (i + 1) fu (upd f (o2 + i) (v.2.1 2 i)) (by omega) (by omega)
    refine ⟨f', e, fun k h1 h2 => ?_, fun k hk => ?_⟩
    · by_cases hki : k = i
      · rw [hki, a2 _ (by omega), upd_same]
      · exact a1 k (by omega) h2
    · rw [a2 k (by omega), upd_ne _ _ (by omega)]
theorem R_ci_before_state (v : RS) {o2 n : Nat} (hn : n ≤ 557) (ho : o2 + n ≤ 557) : ∀ (d i fu : Nat) (f : Nat → Int32), i + d = n → d < fu → ∃ f', fR_copyInts_before_state_3 fu (sB v 2 f) (nI 0) (nI o2) (nI n) (nI i) = some (sB v 2 f') ∧ (∀ k, i ≤ k → k < n → f' (o2 + k) = v.2.1 4 k) ∧ (∀ k, (k < o2 + i ∨ o2 + n ≤ k) → f' k = f k) := by
  intro d
  induction d with
  | zero =>
    intro i fu f hi hf
    obtain ⟨fu, rfl⟩ : ∃ m, fu = m + 1 := ⟨fu - 1, by omega⟩
    unfold fR_copyInts_before_state_3
    rw [if_pos (nI_le (show n ≤ i by omega) (by omega))]
    exact ⟨f, rfl, fun k h1 h2 => by omega, fun _ _ => rfl⟩
  | succ d ih =>
    intro i fu f hi hf
    obtain ⟨fu, rfl⟩ : ∃ m, fu = m + 1 := ⟨fu - 1, by omega⟩
    unfold fR_copyInts_before_state_3
    rw [if_neg (nI_ge (show i < n by omega) (by omega)), nI_add, nI_add, Nat.zero_add, ck_nI (show i < 557 by omega) (by decide), g_let_eq, ck_nI (show o2 + i < 557 by omega) (by decide), g_let_eq, nI_clamp (show i < 2 ^ 31 by omega), nI_clamp (show o2 + i < 2 ^ 31 by omega), sB_ne v f (show 4 ≠ 2 by decide), sB_set, nI_1]
    obtain ⟨f', e, a1, a2⟩ := ih (i + 1) fu (upd f (o2 + i) (v.2.1 4 i)) (by omega) (by omega)
    refine ⟨f', e, fun k h1 h2 => ?_, fun k hk => ?_⟩
    · by_cases hki : k = i
      · rw [hki, a2 _ (by omega), upd_same]
      · exact a1 k (by omega) h2
    · rw [a2 k (by omega), upd_ne _ _ (by omega)]
theorem R_keepAct (v : RS) {k : Nat} (x : Int64) (h8 : v.1 8 = nI k) (hk : k ≤ 511) : ∃ f', fR_keepAct v x = some (va_up v.1 8 (nI (k + 1)), va_up v.2.1 6 f', va_up v.2.2 7 (vp_updL (v.2.2 7) k x)) ∧ (∀ j, j < 6 → f' (6 * k + j) = v.2.1 17 j) ∧ (∀ j, (j < 6 * k ∨ 6 * k + 6 ≤ j) → f' j = v.2.1 6 j) := by
  obtain ⟨f', e, a1, a2⟩ := R_ci_call_acts v (o2 := 6 * k) (n := 6) (by omega) (by omega) 6 0 g_fuel (v.2.1 6) (by omega) (fuel_lt (by omega))
  rw [sB_id] at e
  refine ⟨f', ?_, fun j hj => a1 j (by omega) hj, fun j hj => a2 j (by omega)⟩
  unfold fR_keepAct fR_copyInts_call_acts
  rw [h8, show (6 : Int32) * nI k = nI (6 * k) by rw [show (6 : Int32) = nI 6 from rfl, pk_mul], show fR_copyInts_call_acts_3 g_fuel v 0 (nI (6 * k)) 6 0 = some (sB v 6 f') from e, Option.bind_some]
  have e8 : (sB v 6 f').1 8 = nI k := h8
  rw [e8, ck_nI (show k < 513 by omega) (by decide), g_let_eq, g_let_eq, nI_clamp (by omega)]
  have e9 : (sL (sB v 6 f') 7 k x).1 8 = nI k := h8
  rw [e9, nI_1]
  rfl
theorem R_lineMoreF (v : RS) (x : Int64) (h13 : v.1 13 = nI 16) : fR_lineMore v x = some (0, sI v 15 6) := by
  unfold fR_lineMore
  rw [if_pos (show v.1 13 = 16 from h13)]
  rfl
theorem R_lineMore (v : RS) {k sz : Nat} (x : Int64) (h11 : v.1 11 = nI k) (h13 : v.1 13 = nI sz) (hk : k ≤ 511) (hsz : sz < 16) : ∃ f', fR_lineMore v x = some (nI (sz + 1), (va_up (va_up (va_up v.1 11 (nI (k + 1))) 13 (nI (sz + 1))) 15 0, va_up v.2.1 9 f', va_up v.2.2 10 (vp_updL (v.2.2 10) k x))) ∧ (∀ j, j < 6 → f' (6 * k + j) = v.2.1 17 j) ∧ (∀ j, (j < 6 * k ∨ 6 * k + 6 ≤ j) → f' j = v.2.1 9 j) := by
  obtain ⟨f', e, a1, a2⟩ := R_ci_call_lines v (o2 := 6 * k) (n := 6) (by omega) (by omega) 6 0 g_fuel (v.2.1 9) (by omega) (fuel_lt (by omega))
  rw [sB_id] at e
  refine ⟨f', ?_, fun j hj => a1 j (by omega) hj, fun j hj => a2 j (by omega)⟩
  unfold fR_lineMore fR_copyInts_call_lines
  rw [h13, if_neg (show ¬ nI sz = (16 : Int32) from mt (eqk (k := sz) (j := 16) (by omega) (by decide)).mp (show ¬ sz = 16 by omega)), h11, show (6 : Int32) * nI k = nI (6 * k) by rw [show (6 : Int32) = nI 6 from rfl, pk_mul], show fR_copyInts_call_lines_3 g_fuel v 0 (nI (6 * k)) 6 0 = some (sB v 9 f') from e, Option.bind_some]
  have e8 : (sB v 9 f').1 11 = nI k := h11
  rw [e8, ck_nI (show k < 513 by omega) (by decide), g_let_eq, g_let_eq, nI_clamp (by omega)]
  have e9 : (sL (sB v 9 f') 10 k x).1 11 = nI k := h11
  rw [e9, nI_1, g_let_eq, g_let_eq]
  have e10 : (sI (sL (sB v 9 f') 10 k x) 11 (nI (k + 1))).1 13 = nI sz := by
    show va_up v.1 11 (nI (k + 1)) 13 = _
    rw [up_ne _ _ (by decide)]
    exact h13
  rw [e10, nI_1]
  have e11 : (sI (sI (sI (sL (sB v 9 f') 10 k x) 11 (nI (k + 1))) 13 (nI (sz + 1))) 15 0).1 13 = nI (sz + 1) := by
    show va_up (va_up (va_up v.1 11 (nI (k + 1))) 13 (nI (sz + 1))) 15 0 13 = _
    rw [up_ne _ _ (by decide), up_same]
  rw [e11]
  rfl
def en17 (f : Nat → Int32) (L : LL) : Nat → Int32 := upd (upd (upd (upd (upd (upd f 0 (nI L.1)) 1 L.2.1) 2 L.2.2.1) 3 L.2.2.2.1) 4 L.2.2.2.2.1) 5 L.2.2.2.2.2.1
theorem en17_at (f : Nat → Int32) (L : LL) : EncAt (en17 f L) 0 L := by
  unfold en17
  refine ⟨?_, ?_, ?_, ?_, ?_, ?_⟩
  · rw [upd_ne _ _ (by decide), upd_ne _ _ (by decide), upd_ne _ _ (by decide), upd_ne _ _ (by decide), upd_ne _ _ (by decide), upd_same]
  · rw [upd_ne _ _ (by decide), upd_ne _ _ (by decide), upd_ne _ _ (by decide), upd_ne _ _ (by decide), upd_same]
  · rw [upd_ne _ _ (by decide), upd_ne _ _ (by decide), upd_ne _ _ (by decide), upd_same]
  · rw [upd_ne _ _ (by decide), upd_ne _ _ (by decide), upd_same]
  · rw [upd_ne _ _ (by decide), upd_same]
  · rw [upd_same]
theorem R_called (v : RS) (L : LL) : fR_called v (nI L.1) L.2.1 L.2.2.1 L.2.2.2.1 L.2.2.2.2.1 L.2.2.2.2.2.1 L.2.2.2.2.2.2 = (
  if (v.1 14) = 0 then
    Option.bind (fR_done_call (sB v 17 (en17 (v.2.1 17) L)) (nI 0) L.2.2.2.2.2.2) fun q67 =>
    if (q67.2.1 15) = 0 then
      Option.bind (fR_keepAct q67.2 L.2.2.2.2.2.2) fun q95 =>
      some (q67.1, q95)
    else
      if (q67.2.1 15) = (5 : Int32) then
        if nI L.1 = (5 : Int32) then
          Option.bind (fR_keepAct q67.2 L.2.2.2.2.2.2) fun q95 =>
          some (q67.1, q95)
        else
          some (q67.1, q67.2)
      else
        some (q67.1, q67.2)
  else
    Option.bind (fR_lineMore (sB v 17 (en17 (v.2.1 17) L)) L.2.2.2.2.2.2) fun q55 =>
    some (q55.1, q55.2)) := by
  have c0 : ∀ {α : Type} (k : Option α), g_ck (0 : Int32) 6 k = k := fun k => ck_nI (j := 0) (by decide) (by decide) k
  have c1 : ∀ {α : Type} (k : Option α), g_ck (1 : Int32) 6 k = k := fun k => ck_nI (j := 1) (by decide) (by decide) k
  have c2 : ∀ {α : Type} (k : Option α), g_ck (2 : Int32) 6 k = k := fun k => ck_nI (j := 2) (by decide) (by decide) k
  have c3 : ∀ {α : Type} (k : Option α), g_ck (3 : Int32) 6 k = k := fun k => ck_nI (j := 3) (by decide) (by decide) k
  have c4 : ∀ {α : Type} (k : Option α), g_ck (4 : Int32) 6 k = k := fun k => ck_nI (j := 4) (by decide) (by decide) k
  have c5 : ∀ {α : Type} (k : Option α), g_ck (5 : Int32) 6 k = k := fun k => ck_nI (j := 5) (by decide) (by decide) k
  unfold fR_called
  rw [c0, g_let_eq, c1, g_let_eq, c2, g_let_eq, c3, g_let_eq, c4, g_let_eq, c5, g_let_eq, show (0 : Int32).toNatClampNeg = 0 by decide, show (1 : Int32).toNatClampNeg = 1 by decide, show (2 : Int32).toNatClampNeg = 2 by decide, show (3 : Int32).toNatClampNeg = 3 by decide, show (4 : Int32).toNatClampNeg = 4 by decide, show (5 : Int32).toNatClampNeg = 5 by decide, sA_sB v, sB_set, sB_set, sB_set, sB_set, sB_set]
  rfl
