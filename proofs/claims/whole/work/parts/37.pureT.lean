/-! PURE 19: changes kept, taken back, dropped -/
theorem Rel.congr {f f' : Nat → Int64} {M : GH} (h : Rel f M) (e : ∀ c, c < 1397 → f' c = f c) : Rel f' M :=
  ⟨fun s hs => (e s (by omega)).trans (h.1 s hs), (e 16 (by omega)).trans h.2.1, fun t c ht hc => (e _ (by omega)).trans (h.2.2.1 t c ht hc), fun t i ht hi => (e _ (by omega)).trans (h.2.2.2 t i ht hi)⟩
theorem cell_cases {k : Nat} (h : k < 1397) : k < 16 ∨ k = 16 ∨ (∃ t c, t < 60 ∧ c < 11 ∧ k = 17 + t * 23 + c) ∨ ∃ t i, t < 60 ∧ i < 12 ∧ k = 17 + t * 23 + 11 + i := by
  by_cases h1 : k < 16
  · exact Or.inl h1
  by_cases h2 : k = 16
  · exact Or.inr (Or.inl h2)
  by_cases h3 : (k - 17) % 23 < 11
  · exact Or.inr (Or.inr (Or.inl ⟨(k - 17) / 23, (k - 17) % 23, by omega, h3, by omega⟩))
  · exact Or.inr (Or.inr (Or.inr ⟨(k - 17) / 23, (k - 17) % 23 - 11, by omega, by omega, by omega⟩))
theorem Rel.det {f f' : Nat → Int64} {M : GH} (h : Rel f M) (h' : Rel f' M) : ∀ c, c < 1397 → f c = f' c := by
  intro k hk
  rcases cell_cases hk with h1 | h1 | ⟨t, c, ht, hc, rfl⟩ | ⟨t, i, ht, hi, rfl⟩
  · rw [h.1 k h1, h'.1 k h1]
  · subst h1; rw [h.2.1, h'.2.1]
  · rw [h.2.2.1 t c ht hc, h'.2.2.1 t c ht hc]
  · rw [h.2.2.2 t i ht hi, h'.2.2.2 t i ht hi]
theorem Rel.zero {f : Nat → Int64} {M : GH} (h : Rel f M) (hM : WF M) : ∀ k, 17 + tc M * 23 ≤ k → k < 1397 → f k = 0 := by
  intro k hk hk2
  have z1 := hM.2.2.2.2.2.1
  have z2 := hM.2.2.2.2.2.2
  rcases cell_cases hk2 with h1 | h1 | ⟨t, c, ht, hc, rfl⟩ | ⟨t, i, ht, hi, rfl⟩
  · omega
  · omega
  · rw [h.2.2.1 t c ht hc]
    unfold rc
    by_cases c1 : c = 1
    · rw [if_pos c1, if_neg (by omega)]
    · rw [if_neg c1]
      by_cases c7 : c = 7
      · rw [if_pos c7]
      · rw [if_neg c7, z1 t (qc c) (by omega) ht (qc_lt hc)]
        rfl
  · rw [h.2.2.2 t i ht hi]
    unfold plc
    have hk0 : kd M t = 0 := by
      unfold kd
      have := z1 t 0 (by omega) ht (by decide)
      rw [Nat.mul_zero, Nat.zero_add] at this
      rw [this]
      rfl
    rw [if_neg (by omega), z2 t i (by omega) ht hi]
def cntD (f s : Nat → Int64) : Nat → Nat → Nat
  | 0, _ => 0
  | d + 1, c => (if f c = s c then 0 else 1) + cntD f s d (c + 1)
theorem cntD_le (f s : Nat → Int64) : ∀ d c, cntD f s d c ≤ d := by
  intro d
  induction d with
  | zero => intro c; exact Nat.le_refl _
  | succ d ih =>
    intro c
    unfold cntD
    have := ih (c + 1)
    split <;> omega
theorem cntD_0 (f s : Nat → Int64) : ∀ d c, cntD f s d c = 0 → ∀ k, c ≤ k → k < c + d → f k = s k := by
  intro d
  induction d with
  | zero => intro c _ k h1 h2; omega
  | succ d ih =>
    intro c h k h1 h2
    unfold cntD at h
    by_cases e : f c = s c
    · rw [if_pos e] at h
      by_cases hk : k = c
      · rw [hk]; exact e
      · exact ih (c + 1) (by omega) k (by omega) (by omega)
    · rw [if_neg e] at h; omega
theorem C_cc4 (w : CS) {U : Nat} (hU : U ≤ 1397) : ∀ (d c n fu : Nat), c + d = U → d < fu → fC_S_countChanges_4 fu w (nI U) (nI n) (nI c) = some (nI (n + cntD (w.2.1 2) (w.2.1 3) d c), w) := by
  intro d
  induction d with
  | zero =>
    intro c n fu hc hf
    obtain ⟨fu, rfl⟩ : ∃ m, fu = m + 1 := ⟨fu - 1, by omega⟩
    unfold fC_S_countChanges_4
    rw [if_pos (nI_le (show U ≤ c by omega) (by omega))]
    rfl
  | succ d ih =>
    intro c n fu hc hf
    obtain ⟨fu, rfl⟩ : ∃ m, fu = m + 1 := ⟨fu - 1, by omega⟩
    unfold fC_S_countChanges_4 fC_S_countChanges_28
    rw [if_neg (nI_ge (show c < U by omega) (by omega)), ck_nI (show c < 1397 by omega) (by decide), g_let_eq, ck_nI (show c < 1397 by omega) (by decide), g_let_eq, nI_clamp (by omega)]
    by_cases e : w.2.1 2 c = w.2.1 3 c
    · rw [if_pos ((lgc0 _ _).mpr e), nI_1, ih (c + 1) n fu (by omega) (by omega)]
      show _ = some (nI (n + ((if w.2.1 2 c = w.2.1 3 c then 0 else 1) + cntD (w.2.1 2) (w.2.1 3) d (c + 1))), w)
      rw [if_pos e, Nat.zero_add]
    · rw [if_neg (mt (lgc0 _ _).mp e), nI_1, nI_1, ih (c + 1) (n + 1) fu (by omega) (by omega)]
      show _ = some (nI (n + ((if w.2.1 2 c = w.2.1 3 c then 0 else 1) + cntD (w.2.1 2) (w.2.1 3) d (c + 1))), w)
      rw [if_neg e, Nat.add_assoc]
def cS (w : CS) (s : Nat → Int64) : CS := (w.1, va_up w.2.1 3 s, w.2.2)
theorem cS_get2 (w : CS) (s : Nat → Int64) : (cS w s).2.1 2 = w.2.1 2 := by show va_up w.2.1 3 s 2 = _; exact up_ne _ _ (by decide)
theorem cS_get3 (w : CS) (s : Nat → Int64) : (cS w s).2.1 3 = s := by show va_up w.2.1 3 s 3 = _; exact up_same _ _ _
theorem cS_set (w : CS) (s : Nat → Int64) (i : Nat) (x : Int64) : cL (cS w s) 3 i x = cS w (vp_updL s i x) := by
  unfold cL
  rw [cS_get3]
  show ((cS w s).1, va_up (va_up w.2.1 3 s) 3 (vp_updL s i x), (cS w s).2.2) = _
  rw [bx_uu]
  rfl
theorem cS_id (w : CS) : cS w (w.2.1 3) = w := by unfold cS; rw [up_self]
theorem C_ka27 (w : CS) (q : Nat) {N U : Nat} (hU : U ≤ 1397) (hN : N ≤ 1397) (s : Nat → Int64) : ∀ (d c n fu : Nat) (s' : Nat → Int64) (f0 : Nat → Int32) (g0 : Nat → Int64),
    (∀ k, k < c → s' k = w.2.1 2 k) → (∀ k, c ≤ k → s' k = s k) → (∀ i, i < n → ∃ k, k < c ∧ f0 i = nI k ∧ g0 i = s k) → (∀ k, k < c → w.2.1 2 k ≠ s k → ∃ i, i < n ∧ f0 i = nI k) → n + cntD (w.2.1 2) s d c = N → c + d = U → d < fu →
    ∃ s2 f2 g2, fK_keepAct_27 q (nI N) fu (cS w s', f0, g0) (nI U) (nI n) (nI c) = some (cI (cLat (cS w s2) (some q)) 1 (w.1 1 + 1), f2, g2) ∧ (∀ k, k < U → s2 k = w.2.1 2 k) ∧ (∀ k, U ≤ k → s2 k = s k) ∧ (∀ i, i < N → ∃ k, k < U ∧ f2 i = nI k ∧ g2 i = s k) ∧ (∀ k, k < U → w.2.1 2 k ≠ s k → ∃ i, i < N ∧ f2 i = nI k) := by
  intro d
  induction d with
  | zero =>
    intro c n fu s' f0 g0 a1 a2 a3 a4 a5 hc hf
    obtain ⟨fu, rfl⟩ : ∃ m, fu = m + 1 := ⟨fu - 1, by omega⟩
    unfold fK_keepAct_27
    rw [if_pos (nI_le (show U ≤ c by omega) (by omega))]
    have e1 : c = U := by omega
    have e2 : n = N := by have : n + 0 = N := a5; omega
    subst e1; subst e2
    exact ⟨s', f0, g0, rfl, a1, a2, a3, a4⟩
  | succ d ih =>
    intro c n fu s' f0 g0 a1 a2 a3 a4 a5 hc hf
    obtain ⟨fu, rfl⟩ : ∃ m, fu = m + 1 := ⟨fu - 1, by omega⟩
    unfold fK_keepAct_27 fK_keepAct_97
    rw [if_neg (nI_ge (show c < U by omega) (by omega))]
    by_cases hn : N ≤ n
    · rw [if_pos (nI_le hn (by omega))]
      have hz := cntD_0 (w.2.1 2) s (d + 1) c (by omega)
      have e2 : n = N := by omega
      subst e2
      refine ⟨s', f0, g0, rfl, fun k hk => ?_, fun k hk => a2 k (by omega), fun i hi => ?_, fun k hk hne => ?_⟩
      · by_cases hkc : k < c
        · exact a1 k hkc
        · rw [a2 k (by omega)]; exact (hz k (by omega) (by omega)).symm
      · obtain ⟨k, k1, k2⟩ := a3 i hi
        exact ⟨k, by omega, k2⟩
      · by_cases hkc : k < c
        · exact a4 k hkc hne
        · exact absurd (hz k (by omega) (by omega)) hne
    · rw [if_neg (nI_ge (show n < N by omega) (by omega)), ck_nI (show c < 1397 by omega) (by decide), g_let_eq, ck_nI (show c < 1397 by omega) (by decide), g_let_eq, nI_clamp (by omega), nI_clamp (by omega)]
      have r2 : (cS w s', f0, g0).1.2.1 2 c = w.2.1 2 c := congrFun (cS_get2 w s') c
      have r3 : (cS w s', f0, g0).1.2.1 3 c = s c := (congrFun (cS_get3 w s') c).trans (a2 c (by omega))
      rw [r2, r3]
      by_cases e : w.2.1 2 c = s c
      · rw [if_pos ((lgc0 _ _).mpr e), nI_1]
        refine ih (c + 1) n fu s' f0 g0 (fun k hk => ?_) (fun k hk => a2 k (by omega)) (fun i hi => ?_) (fun k hk hne => ?_) ?_ (by omega) (by omega)
        · by_cases hkc : k < c
          · exact a1 k hkc
          · rw [show k = c by omega, a2 c (by omega), e]
        · obtain ⟨k, k1, k2⟩ := a3 i hi
          exact ⟨k, by omega, k2⟩
        · by_cases hkc : k < c
          · exact a4 k hkc hne
          · exact absurd (by rw [show k = c by omega]; exact e) hne
        · unfold cntD at a5
          rw [if_pos e] at a5
          omega
      · rw [if_neg (mt (lgc0 _ _).mp e), ck_nI (show n < N by omega) (by omega), g_let_eq, ck_nI (show c < 1397 by omega) (by decide), g_let_eq, nI_clamp (by omega), ck_nI (show n < N by omega) (by omega), g_let_eq, ck_nI (show c < 1397 by omega) (by decide), g_let_eq, ck_nI (show c < 1397 by omega) (by decide), g_let_eq, nI_1, nI_1]
        have r4 : (cS w s').2.1 2 c = w.2.1 2 c := congrFun (cS_get2 w s') c
        have r5 : (cS w s').2.1 3 c = s c := (congrFun (cS_get3 w s') c).trans (a2 c (by omega))
        show ∃ s2 f2 g2, fK_keepAct_27 q (nI N) fu (cL (cS w s') 3 c ((cS w s').2.1 2 c), upd f0 n (nI c), vp_updL g0 n ((cS w s').2.1 3 c)) (nI U) (nI (n + 1)) (nI (c + 1)) = _ ∧ _
        rw [r4, r5, cS_set]
        refine ih (c + 1) (n + 1) fu _ _ _ (fun k hk => ?_) (fun k hk => ?_) (fun i hi => ?_) (fun k hk hne => ?_) ?_ (by omega) (by omega)
        · by_cases hkc : k = c
          · rw [hkc, updL_same]
          · rw [updL_ne _ _ hkc]; exact a1 k (by omega)
        · rw [updL_ne _ _ (by omega)]; exact a2 k (by omega)
        · by_cases hin : i = n
          · refine ⟨c, by omega, ?_, ?_⟩
            · rw [hin, upd_same]
            · rw [hin, updL_same]
          · obtain ⟨k, k1, k2, k3⟩ := a3 i (by omega)
            refine ⟨k, by omega, ?_, ?_⟩
            · rw [upd_ne _ _ hin]; exact k2
            · rw [updL_ne _ _ hin]; exact k3
        · by_cases hkc : k = c
          · exact ⟨n, by omega, by rw [upd_same, hkc]⟩
          · obtain ⟨i, i1, i2⟩ := a4 k (by omega) hne
            exact ⟨i, by omega, by rw [upd_ne _ _ (by omega)]; exact i2⟩
        · unfold cntD at a5
          rw [if_neg e] at a5
          omega
/-! back -/
def resG (f0 : Nat → Int32) (g0 : Nat → Int64) : Nat → Nat → (Nat → Int64) → (Nat → Int64)
  | 0, _, f => f
  | d + 1, i, f => resG f0 g0 d (i + 1) (vp_updL f (f0 i).toNatClampNeg (g0 i))
theorem resG_s {f0 : Nat → Int32} {g0 s : Nat → Int64} {N : Nat} (h : ∀ i, i < N → ∃ k, k < 1397 ∧ f0 i = nI k ∧ g0 i = s k) : ∀ (d i : Nat) (f : Nat → Int64), i + d = N → ∀ k, k < 1397 → (f k = s k ∨ ∃ i', i ≤ i' ∧ i' < N ∧ f0 i' = nI k) → resG f0 g0 d i f k = s k := by
  intro d
  induction d with
  | zero =>
    intro i f hi k hk hc
    rcases hc with hc | ⟨i', h1, h2, -⟩
    · exact hc
    · omega
  | succ d ih =>
    intro i f hi k hk hc
    obtain ⟨k', k1, k2, k3⟩ := h i (by omega)
    refine ih (i + 1) _ (by omega) k hk ?_
    rw [k2, nI_clamp (by omega), k3]
    by_cases e : k = k'
    · subst e
      exact Or.inl (updL_same _ _ _)
    · rcases hc with hc | ⟨i', h1, h2, h3⟩
      · exact Or.inl ((updL_ne _ _ e).trans hc)
      · by_cases ei : i' = i
        · subst ei
          exact absurd ((nI_eq (by omega) (by omega)).mp (h3.symm.trans k2)) e
        · exact Or.inr ⟨i', by omega, h2, h3⟩
def RestP (N : Nat) (f2 : Nat → Int32) (g2 : Nat → Int64) (M' M : GH) : Prop := N ≤ 1397 ∧ (∀ i, i < N → ∃ k, k < 1397 ∧ f2 i = nI k) ∧ ∀ f, Rel f M' → Rel (resG f2 g2 N 0 f) M
theorem C_inUse {M : GH} (hM : WF M) (w : CS) (hr : Rel (w.2.1 2) M) : fC_S_cellsInUse w = some (nI (17 + tc M * 23), w) := by
  have h60 := hM.1.1
  unfold fC_S_cellsInUse
  rw [C_tm hM w hr, Option.bind_some, g_let_eq]
  show some (g_min ((17 : Int32) + nI (tc M) * 23) 1397, w) = _
  rw [show (17 : Int32) = nI 17 from rfl, show (23 : Int32) = nI 23 from rfl, pk_mul, nI_add]
  unfold g_min
  rw [if_neg (show ¬ (1397 : Int32) < nI (17 + tc M * 23) from nI_nlt (a := 1397) (b := 17 + tc M * 23) (by omega) (by decide))]
theorem C_keepAct (E : g_Env) {M M' : GH} (hM : WF M) (hM' : WF M') (hT : tc M ≤ tc M') (w : CS) (hr : Rel (w.2.1 2) M') (hs : Rel (w.2.1 3) M) (Q : CS → Prop) (hQ : ∀ (q q1 q2 N : Nat) (s2 : Nat → Int64) (f2 : Nat → Int32) (g2 : Nat → Int64), Rel s2 M' → RestP N f2 g2 M' M → Q (cK3 E q q1 q2 (nI N) w.2.2.2.1 (cI (cLat (cS w s2) (some q)) 1 (w.1 1 + 1), f2, g2))) : wC_S_keepAct E Q w := by
  have h60 := hM'.1.1
  refine ⟨nI (17 + tc M' * 23), C_inUse hM' w hr, fun q => ?_⟩
  have hcl := cntD_le (w.2.1 2) (w.2.1 3) (17 + tc M' * 23) 0
  have ecc : fC_S_countChanges (cN w (q, .inr (1, [.int 0, .null, .null, .null]))) (nI (17 + tc M' * 23)) = some (nI (cntD (w.2.1 2) (w.2.1 3) (17 + tc M' * 23) 0), cN w (q, .inr (1, [.int 0, .null, .null, .null]))) := by
    have := C_cc4 (cN w (q, .inr (1, [.int 0, .null, .null, .null]))) (U := 17 + tc M' * 23) (by omega) (17 + tc M' * 23) 0 0 g_fuel (by omega) (fuel_lt (by omega))
    rw [Nat.zero_add] at this
    exact this
  refine ⟨_, nI (cntD (w.2.1 2) (w.2.1 3) (17 + tc M' * 23) 0), ecc, ?_, nI_pos (by omega), by rw [nI_clamp (by omega)]; omega, fun q1 q2 => ?_⟩
  · unfold g_max
    rw [if_neg (nI_pos (by omega))]
  · obtain ⟨s2, f2, g2, e, b1, b2, b3, b4⟩ := C_ka27 w q (N := cntD (w.2.1 2) (w.2.1 3) (17 + tc M' * 23) 0) (U := 17 + tc M' * 23) (by omega) (by omega) (w.2.1 3) (17 + tc M' * 23) 0 0 g_fuel (w.2.1 3) (fun _ => 0) (fun _ => 0) (fun k hk => absurd hk (by omega)) (fun k _ => rfl) (fun i hi => absurd hi (by omega)) (fun k hk => absurd hk (by omega)) (by omega) (by omega) (fuel_lt (by omega))
    rw [cS_id] at e
    refine ⟨_, e, fun e0 he0 => ?_⟩
    subst he0
    have zf := hr.zero hM'
    have zs := hs.zero hM
    refine hQ q q1 q2 _ s2 f2 g2 (hr.congr (fun c hc => ?_)) ⟨by omega, fun i hi => ?_, fun f hf => hs.congr (fun c hc => ?_)⟩
    · by_cases hcU : c < 17 + tc M' * 23
      · exact b1 c hcU
      · rw [b2 c (by omega), zf c (by omega) hc, zs c (by omega) hc]
    · obtain ⟨k, k1, k2, -⟩ := b3 i hi
      exact ⟨k, by omega, k2⟩
    · refine resG_s (s := w.2.1 3) (N := cntD (w.2.1 2) (w.2.1 3) (17 + tc M' * 23) 0) (fun i hi => ?_) _ 0 f (by omega) c hc ?_
      · obtain ⟨k, k1, k2, k3⟩ := b3 i hi
        exact ⟨k, by omega, k2, k3⟩
      · have ef := hf.det hr c hc
        by_cases hcU : c < 17 + tc M' * 23
        · by_cases e2 : w.2.1 2 c = w.2.1 3 c
          · exact Or.inl (ef.trans e2)
          · obtain ⟨i, i1, i2⟩ := b4 c hcU e2
            exact Or.inr ⟨i, by omega, i1, i2⟩
        · exact Or.inl (by rw [ef, zf c (by omega) hc, zs c (by omega) hc])
def cT (w : CS) (f s : Nat → Int64) : CS := (w.1, va_up (va_up w.2.1 2 f) 3 s, w.2.2)
theorem cT_get2 (w : CS) (f s : Nat → Int64) : (cT w f s).2.1 2 = f := by show va_up (va_up w.2.1 2 f) 3 s 2 = _; rw [up_ne _ _ (by decide), up_same]
theorem cT_get3 (w : CS) (f s : Nat → Int64) : (cT w f s).2.1 3 = s := by show va_up (va_up w.2.1 2 f) 3 s 3 = _; rw [up_same]
theorem up_comm {α : Type} (f : Nat → α) {i j : Nat} (x y : α) (h : i ≠ j) : va_up (va_up f i x) j y = va_up (va_up f j y) i x := by
  funext k
  by_cases h1 : k = i
  · subst h1; rw [up_ne _ _ h, up_same, up_same]
  · by_cases h2 : k = j
    · subst h2; rw [up_same, up_ne _ _ h1, up_same]
    · rw [up_ne _ _ h2, up_ne _ _ h1, up_ne _ _ h1, up_ne _ _ h2]
theorem cT_set (w : CS) (f s : Nat → Int64) (k : Nat) (x : Int64) : cL (cL (cT w f s) 2 k x) 3 k x = cT w (vp_updL f k x) (vp_updL s k x) := by
  have e2 := cT_get2 w f s
  have e3 := cT_get3 w f s
  have e4 : (cL (cT w f s) 2 k x).2.1 3 = s := by show va_up (cT w f s).2.1 2 (vp_updL ((cT w f s).2.1 2) k x) 3 = _; rw [up_ne _ _ (by decide)]; exact e3
  show ((cT w f s).1, va_up (cL (cT w f s) 2 k x).2.1 3 (vp_updL ((cL (cT w f s) 2 k x).2.1 3) k x), (cT w f s).2.2) = _
  rw [e4]
  show (w.1, va_up (va_up (va_up (va_up w.2.1 2 f) 3 s) 2 (vp_updL ((cT w f s).2.1 2) k x)) 3 (vp_updL s k x), w.2.2) = _
  rw [e2, up_comm _ _ _ (show (3 : Nat) ≠ 2 by decide), bx_uu, bx_uu]
  rfl
theorem cT_id (w : CS) : cT w (w.2.1 2) (w.2.1 3) = w := by unfold cT; rw [up_self, up_self]
theorem C_tb10 (w : CS) (q : Nat) {N : Nat} (e0 : Option Nat) (f0 : Nat → Int32) (g0 : Nat → Int64) (hN : N ≤ 1397) (hq : w.2.2.2.1 = some q) (h : ∀ i, i < N → ∃ k, k < 1397 ∧ f0 i = nI k) : ∀ (d i fu : Nat) (f s : Nat → Int64), i + d = N → d < fu → fT_takeBack_10 q (nI N) e0 f0 g0 fu (cT w f s) (nI i) = some (cI (cLat (cT w (resG f0 g0 d i f) (resG f0 g0 d i s)) e0) 1 (w.1 1 - 1)) := by
  intro d
  induction d with
  | zero =>
    intro i fu f s hi hf
    obtain ⟨fu, rfl⟩ : ∃ m, fu = m + 1 := ⟨fu - 1, by omega⟩
    unfold fT_takeBack_10 g_lat
    rw [if_pos (show (cT w f s).2.2.2.1 = some q from hq), if_pos (nI_le (show N ≤ i by omega) (by omega)), if_pos (show (cT w f s).2.2.2.1 = some q from hq)]
    rfl
  | succ d ih =>
    intro i fu f s hi hf
    obtain ⟨fu, rfl⟩ : ∃ m, fu = m + 1 := ⟨fu - 1, by omega⟩
    obtain ⟨k, k1, k2⟩ := h i (by omega)
    unfold fT_takeBack_10 g_lat fT_takeBack_72
    rw [if_pos (show (cT w f s).2.2.2.1 = some q from hq), if_neg (nI_ge (show i < N by omega) (by omega)), if_pos (show (cT w f s).2.2.2.1 = some q from hq), nI_clamp (show N < 2 ^ 31 by omega), ck_nI (show i < N by omega) (by omega), g_let_eq, nI_clamp (show i < 2 ^ 31 by omega), k2, if_neg (nI_pos (by omega)), if_neg (show ¬ (1397 : Int32) ≤ nI k from nI_ge (a := k) (b := 1397) k1 (by decide)), if_pos (show (cT w f s).2.2.2.1 = some q from hq), ck_nI (show i < N by omega) (by omega), g_let_eq, ck_nI k1 (by decide), g_let_eq, nI_clamp (show k < 2 ^ 31 by omega), if_pos (show (cL (cT w f s) 2 k (g0 i)).2.2.2.1 = some q from hq), ck_nI (show i < N by omega) (by omega), g_let_eq, ck_nI k1 (by decide), g_let_eq, cT_set, nI_1, ih (i + 1) fu _ _ (by omega) (by omega)]
    show some (cI (cLat (cT w (resG f0 g0 d (i + 1) (vp_updL f k (g0 i))) (resG f0 g0 d (i + 1) (vp_updL s k (g0 i)))) e0) 1 (w.1 1 - 1)) = some (cI (cLat (cT w (resG f0 g0 d (i + 1) (vp_updL f (f0 i).toNatClampNeg (g0 i))) (resG f0 g0 d (i + 1) (vp_updL s (f0 i).toNatClampNeg (g0 i)))) e0) 1 (w.1 1 - 1))
    rw [k2, nI_clamp (show k < 2 ^ 31 by omega)]
theorem C_takeBack (E : g_Env) {M M' : GH} (w : CS) (hr : Rel (w.2.1 2) M') (hs : Rel (w.2.1 3) M') {q q1 q2 N : Nat} {e0 : Option Nat} {f0 : Nat → Int32} {g0 : Nat → Int64} (hq : w.2.2.2.1 = some q) (m0 : (q, .inr (1, [.int (nI N), .ref q1, .ref q2, va_rf e0])) ∈ w.2.2.2.2.2) (m1 : (q1, .inl (E.2.1, N, .inl f0)) ∈ w.2.2.2.2.2) (m2 : (q2, .inl (E.2.2.1, N, .inr (.inl g0))) ∈ w.2.2.2.2.2) (hP : RestP N f0 g0 M' M) (Q : CS → Prop) (hQ : ∀ f s, Rel f M → Rel s M → Q (tT w.2.2.2.2.2 (cI (cLat (cT w f s) e0) 1 (w.1 1 - 1)))) : wC_S_takeBackAct E Q w := by
  obtain ⟨k, hk⟩ := List.mem_iff_getElem?.mp m0
  obtain ⟨k1, hk1⟩ := List.mem_iff_getElem?.mp m1
  obtain ⟨k2, hk2⟩ := List.mem_iff_getElem?.mp m2
  obtain ⟨hN, h1, h2⟩ := hP
  have eN : (nI N).toNatClampNeg = N := nI_clamp (by omega)
  have e := C_tb10 w q e0 f0 g0 hN hq h1 N 0 g_fuel (w.2.1 2) (w.2.1 3) (by omega) (fuel_lt (by omega))
  rw [cT_id] at e
  refine ⟨q, k, q1, k1, q2, k2, nI N, e0, f0, g0, _, hk, by rw [eN]; exact hk1, by rw [eN]; exact hk2, ?_, hQ _ _ (h2 _ hr) (h2 _ hs)⟩
  unfold fT_takeBack g_lat
  rw [if_pos hq, show (0 : Int32) = nI 0 from rfl]
  exact e
theorem C_drop (w : CS) {M : GH} (hs : Rel (w.2.1 3) M) : ∃ f, fC_S_dropChanges w = some (cW w f) ∧ Rel f M := by
  refine ⟨va_cpy (w.2.1 3) (w.2.1 2) 0 0 1397, ?_, hs.congr (fun c hc => by rw [pk_cpy_in (by omega) (by omega), show 0 + (c - 0) = c by omega])⟩
  unfold fC_S_dropChanges g_cpk
  rw [if_neg (by decide)]
  rfl
