/-! PURE 24: carry and undo as steps -/
def sQ (v : RS) (B : Nat) (f : Nat → Int64) : RS := (v.1, v.2.1, va_up v.2.2 B f)
theorem sQ_same (v : RS) (B : Nat) (f : Nat → Int64) : (sQ v B f).2.2 B = f := by show va_up v.2.2 B f B = _; exact up_same _ _ _
theorem sQ_ne (v : RS) {B k : Nat} (f : Nat → Int64) (h : k ≠ B) : (sQ v B f).2.2 k = v.2.2 k := by show va_up v.2.2 B f k = _; exact up_ne _ _ h
theorem sQ_set (v : RS) (B : Nat) (f : Nat → Int64) (i : Nat) (x : Int64) : sL (sQ v B f) B i x = sQ v B (vp_updL f i x) := by
  unfold sL
  rw [sQ_same]
  show ((sQ v B f).1, (sQ v B f).2.1, va_up (va_up v.2.2 B f) B (vp_updL f i x)) = _
  rw [bx_uu]
  rfl
theorem sQ_id (v : RS) (B : Nat) : sQ v B (v.2.2 B) = v := by unfold sQ; rw [up_self]
theorem R_keepState_18 (v : RS) : ∀ (d i fu : Nat) (f : Nat → Int64), i + d = 720 → d < fu → ∃ f', fR_keepState_18 fu (sQ v 5 f) (nI i) = some (sQ v 5 f') ∧ (∀ k, i ≤ k → k < 720 → f' k = v.2.2 3 k) ∧ (∀ k, (k < i ∨ 720 ≤ k) → f' k = f k) := by
  intro d
  induction d with
  | zero =>
    intro i fu f hi hf
    obtain ⟨fu, rfl⟩ : ∃ m, fu = m + 1 := ⟨fu - 1, by omega⟩
    unfold fR_keepState_18
    rw [if_pos (show (720 : Int32) ≤ nI i from nI_le (a := 720) (b := i) (by omega) (by omega))]
    exact ⟨f, rfl, fun k h1 h2 => by omega, fun _ _ => rfl⟩
  | succ d ih =>
    intro i fu f hi hf
    obtain ⟨fu, rfl⟩ : ∃ m, fu = m + 1 := ⟨fu - 1, by omega⟩
    unfold fR_keepState_18
    rw [if_neg (show ¬ (720 : Int32) ≤ nI i from nI_ge (a := i) (b := 720) (by omega) (by decide)), ck_nI (show i < 720 by omega) (by decide), g_let_eq, ck_nI (show i < 720 by omega) (by decide), g_let_eq, nI_clamp (show i < 2 ^ 31 by omega), sQ_ne v f (show 3 ≠ 5 by decide), sQ_set, nI_1]
    obtain ⟨f', e, a1, a2⟩ := ih (i + 1) fu (vp_updL f i (v.2.2 3 i)) (by omega) (by omega)
    refine ⟨f', e, fun k h1 h2 => ?_, fun k hk => ?_⟩
    · by_cases hki : k = i
      · rw [hki, a2 _ (by omega), updL_same]
      · exact a1 k (by omega) h2
    · rw [a2 k (by omega), updL_ne _ _ (by omega)]
theorem R_putBack_18 (v : RS) : ∀ (d i fu : Nat) (f : Nat → Int64), i + d = 720 → d < fu → ∃ f', fR_putBack_18 fu (sQ v 3 f) (nI i) = some (sQ v 3 f') ∧ (∀ k, i ≤ k → k < 720 → f' k = v.2.2 5 k) ∧ (∀ k, (k < i ∨ 720 ≤ k) → f' k = f k) := by
  intro d
  induction d with
  | zero =>
    intro i fu f hi hf
    obtain ⟨fu, rfl⟩ : ∃ m, fu = m + 1 := ⟨fu - 1, by omega⟩
    unfold fR_putBack_18
    rw [if_pos (show (720 : Int32) ≤ nI i from nI_le (a := 720) (b := i) (by omega) (by omega))]
    exact ⟨f, rfl, fun k h1 h2 => by omega, fun _ _ => rfl⟩
  | succ d ih =>
    intro i fu f hi hf
    obtain ⟨fu, rfl⟩ : ∃ m, fu = m + 1 := ⟨fu - 1, by omega⟩
    unfold fR_putBack_18
    rw [if_neg (show ¬ (720 : Int32) ≤ nI i from nI_ge (a := i) (b := 720) (by omega) (by decide)), ck_nI (show i < 720 by omega) (by decide), g_let_eq, ck_nI (show i < 720 by omega) (by decide), g_let_eq, nI_clamp (show i < 2 ^ 31 by omega), sQ_ne v f (show 5 ≠ 3 by decide), sQ_set, nI_1]
    obtain ⟨f', e, a1, a2⟩ := ih (i + 1) fu (vp_updL f i (v.2.2 5 i)) (by omega) (by omega)
    refine ⟨f', e, fun k h1 h2 => ?_, fun k hk => ?_⟩
    · by_cases hki : k = i
      · rw [hki, a2 _ (by omega), updL_same]
      · exact a1 k (by omega) h2
    · rw [a2 k (by omega), updL_ne _ _ (by omega)]
theorem R_keepState (v : RS) : ∃ f4 g5, fR_keepState v = some (v.1, va_up v.2.1 4 f4, va_up v.2.2 5 g5) ∧ (∀ i, i < 557 → f4 i = v.2.1 2 i) ∧ (∀ i, i < 720 → g5 i = v.2.2 3 i) := by
  obtain ⟨f4, e, a1, -⟩ := R_ci_state_before v (o2 := 0) (n := 557) (by omega) (by omega) 557 0 g_fuel (v.2.1 4) (by omega) (fuel_lt (by omega))
  rw [sB_id] at e
  obtain ⟨g5, e2, b1, -⟩ := R_keepState_18 (sB v 4 f4) 720 0 g_fuel (v.2.2 5) (by omega) (fuel_lt (by omega))
  have e3 : sQ (sB v 4 f4) 5 (v.2.2 5) = sB v 4 f4 := sQ_id (sB v 4 f4) 5
  rw [e3] at e2
  refine ⟨f4, g5, ?_, fun i hi => by have := a1 i (by omega) hi; rw [Nat.zero_add] at this; exact this, fun i hi => b1 i (by omega) hi⟩
  unfold fR_keepState fR_copyInts_state_before
  rw [show fR_copyInts_state_before_3 g_fuel v 0 0 557 0 = some (sB v 4 f4) from e, Option.bind_some, show fR_keepState_18 g_fuel (sB v 4 f4) 0 = some (sQ (sB v 4 f4) 5 g5) from e2]
  rfl
theorem R_putBack (v : RS) : ∃ f2 g3, fR_putBack v = some (v.1, va_up v.2.1 2 f2, va_up v.2.2 3 g3) ∧ (∀ i, i < 557 → f2 i = v.2.1 4 i) ∧ (∀ i, 557 ≤ i → f2 i = v.2.1 2 i) ∧ (∀ i, i < 720 → g3 i = v.2.2 5 i) ∧ (∀ i, 720 ≤ i → g3 i = v.2.2 3 i) := by
  obtain ⟨f2, e, a1, a2⟩ := R_ci_before_state v (o2 := 0) (n := 557) (by omega) (by omega) 557 0 g_fuel (v.2.1 2) (by omega) (fuel_lt (by omega))
  rw [sB_id] at e
  obtain ⟨g3, e2, b1, b2⟩ := R_putBack_18 (sB v 2 f2) 720 0 g_fuel (v.2.2 3) (by omega) (fuel_lt (by omega))
  have e3 : sQ (sB v 2 f2) 3 (v.2.2 3) = sB v 2 f2 := sQ_id (sB v 2 f2) 3
  rw [e3] at e2
  refine ⟨f2, g3, ?_, fun i hi => by have := a1 i (by omega) hi; rw [Nat.zero_add] at this; exact this, fun i hi => a2 i (by omega), fun i hi => b1 i (by omega) hi, fun i hi => b2 i (by omega)⟩
  unfold fR_putBack fR_copyInts_before_state
  rw [show fR_copyInts_before_state_3 g_fuel v 0 0 557 0 = some (sB v 2 f2) from e, Option.bind_some, show fR_putBack_18 g_fuel (sB v 2 f2) 0 = some (sQ (sB v 2 f2) 3 g3) from e2]
  rfl
theorem Inv.g {E : g_Env} {n : Nat} {v : RS} {w : CS} (h : Inv E n v w) : WF (gM v) ∧ Rel (w.2.1 2) (gM v) ∧ v.1 14 = w.1 4 ∧ v.1 15 = w.1 0 := by
  obtain ⟨M, Ls, As, fr, sz, ⟨a1, a2, a3, a4, a5⟩, ⟨b1, -⟩, ⟨c1, -⟩, -⟩ := h
  subst a3
  exact ⟨a1, a4, c1, b1⟩
theorem Inv.ref {E : g_Env} {n : Nat} {v : RS} {w : CS} (h : Inv E n v w) (c : Int32) : Inv E (n + 1) (sI v 15 c) (cI w 0 c) :=
  h.same (RSt_ref v rfl c).rw (CSt_ref w h.g.2.1 c)
theorem four_cases (x : Int32) : x < 1 ∨ ¬ x ≤ 4 ∨ ∃ m : Nat, 1 ≤ m ∧ m ≤ 4 ∧ x = nI m := by
  rcases pk_ix x (n := 5) (by decide) with h | h | ⟨j, h1, h2⟩
  · exact Or.inl (Int32.lt_iff_toInt_lt.mpr (by
      have h1 := Int32.lt_iff_toInt_lt.mp h
      have z0 : (0 : Int32).toInt = 0 := by decide
      have z1 : (1 : Int32).toInt = 1 := by decide
      omega))
  · refine Or.inr (Or.inl (fun z => ?_))
    have h1 : (nI 5).toInt ≤ x.toInt := Int32.le_iff_toInt_le.mp h
    have h2 : (nI 5).toInt = 5 := by decide
    have h3 := Int32.le_iff_toInt_le.mp z
    have h4 : (4 : Int32).toInt = 4 := by decide
    omega
  · by_cases h0 : j = 0
    · subst h0; subst h2; exact Or.inl (by decide)
    · exact Or.inr (Or.inr ⟨j, by omega, by omega, h2⟩)
theorem step_carry {E : g_Env} {n : Nat} {v : RS} {w : CS} (hI : Inv E n v w) (hn : n < 512) (a : Int32) : stW (Inv E (n + 1)) (fR_carry v a) (fun Q => wC__carry E Q w a) := by
  have hg := hI.g
  by_cases h1 : a < 1
  · refine ⟨0, sI v 15 1, ?_, ?_⟩
    · unfold fR_carry; rw [if_pos h1]; rfl
    · dsimp only; unfold wC__carry; rw [if_pos h1]; exact ⟨_, rfl, rfl, hI.ref 1⟩
  by_cases h4 : ¬ a ≤ 4
  · refine ⟨0, sI v 15 1, ?_, ?_⟩
    · unfold fR_carry; rw [if_neg h1, if_neg h4]; rfl
    · dsimp only; unfold wC__carry; rw [if_neg h1, if_neg h4]; exact ⟨_, rfl, rfl, hI.ref 1⟩
  have h4 := Decidable.not_not.mp h4
  by_cases hrec : ¬ v.1 14 = 0
  · refine ⟨0, sI v 15 7, ?_, ?_⟩
    · unfold fR_carry; rw [if_neg h1, if_pos h4, if_neg hrec]; rfl
    · dsimp only; unfold wC__carry; rw [if_neg h1, if_pos h4, if_neg (by rw [← hg.2.2.1]; exact hrec)]; exact ⟨_, rfl, rfl, hI.ref 7⟩
  have hrec := Decidable.not_not.mp hrec
  obtain ⟨m, m1, m4, rfl⟩ := ((four_cases a).resolve_left h1).resolve_left (fun z => z h4)
  obtain ⟨M, Ls, As, fr, sz, hc⟩ := id hI
  obtain ⟨⟨a1, a2, a3, a4, a5⟩, ⟨b1, b2, b3, b4⟩, ⟨c1, c2⟩, ⟨d1, d2, d3, d4, d5, d6⟩, e1, e2, e3, e4, e5⟩ := id hc
  obtain ⟨res, y, M', w1, hE, y0, hR, hC⟩ := car6 e3 d6 (show Ls.length ≤ 512 by omega) d5 m4 m 0 g_fuel g_fuel M 0 (by omega) (fuel_lt (by omega)) (fuel_lt (by omega)) a1
  obtain ⟨f4, g5, k1, k2, k3⟩ := R_keepState v
  generalize hv1 : ((v.1, va_up v.2.1 4 f4, va_up v.2.2 5 g5) : RS) = v1 at k1
  have u1 : v1.1 = v.1 := by rw [← hv1]
  have u2 : ∀ k, k ≠ 4 → v1.2.1 k = v.2.1 k := fun k hk => by rw [← hv1]; show va_up v.2.1 4 f4 k = _; exact up_ne _ _ hk
  have u3 : ∀ k, k ≠ 5 → v1.2.2 k = v.2.2 k := fun k hk => by rw [← hv1]; show va_up v.2.2 5 g5 k = _; exact up_ne _ _ hk
  have u4 : v1.2.1 4 = f4 := by rw [← hv1]; show va_up v.2.1 4 f4 4 = _; exact up_same _ _ _
  have u5 : v1.2.2 5 = g5 := by rw [← hv1]; show va_up v.2.2 5 g5 5 = _; exact up_same _ _ _
  have g1 : gM (sI v1 15 0) = M := by
    rw [← a3]
    show (v1.2.1 2, v1.2.2 3) = (v.2.1 2, v.2.2 3)
    rw [u2 2 (by decide), u3 3 (by decide)]
  have en1 : EncL (sI v1 15 0) Ls := by
    intro i L hi
    show EncAt (v1.2.1 9) (6 * i) L ∧ v1.2.2 10 i = _
    rw [u2 9 (by decide), u3 10 (by decide)]
    exact e1 i L hi
  obtain ⟨v2, y', t1, t2, t3⟩ := hR (sI v1 15 0) g1 en1
  have hy' : y' = y := by
    rcases t3 with t3 | ⟨t3, t4⟩
    · exact t3
    · rw [t4, t3]; show va_up v1.1 15 0 15 = 0; exact up_same _ _ _
  subst hy'
  have t1 : fR_carried_6 g_fuel (sI v1 15 0) (nI m) (nI fr) (nI sz) 0 (nI 0) = some (res, v2) := t1
  have t2 := t2.s0
  have q1 : v2.1 = va_up v.1 15 y' := by rw [t2.1, u1]
  have q12 : v2.1 12 = nI fr := by rw [q1, up_ne _ _ (by decide)]; exact d3
  have q13 : v2.1 13 = nI sz := by rw [q1, up_ne _ _ (by decide)]; exact d4
  have car : ∀ v : RS, fR_carried v (nI m) (nI fr) (nI sz) = fR_carried_6 g_fuel v (nI m) (nI fr) (nI sz) 0 (nI 0) := fun v => rfl
  have hRc : fR_carry v (nI m) = (if v2.1 15 ≤ 0 then
          g_ck (0 : Int32) 6 <|
          g_let (sA v2 17 (0 : Int32).toNatClampNeg (13 : Int32)) fun w73 =>
          g_ck (1 : Int32) 6 <|
          g_let (sA w73 17 (1 : Int32).toNatClampNeg (nI m)) fun w80 =>
          g_ck (2 : Int32) 6 <|
          g_let (sA w80 17 (2 : Int32).toNatClampNeg (w80.1 12)) fun w90 =>
          g_ck (3 : Int32) 6 <|
          g_let (sA w90 17 (3 : Int32).toNatClampNeg (w90.1 13)) fun w100 =>
          Option.bind (fR_keepAct w100 (0 : Int64)) fun q103 =>
          some (res, q103)
        else
          Option.bind (fR_putBack v2) fun q61 =>
          some (res, q61)) := by
    unfold fR_carry
    rw [if_neg h1, if_pos h4, if_pos hrec, k1, Option.bind_some, g_let_eq]
    have z12 : (sI v1 15 0).1 12 = nI fr := by show va_up v1.1 15 0 12 = _; rw [up_ne _ _ (by decide), u1]; exact d3
    have z13 : (sI v1 15 0).1 13 = nI sz := by show va_up v1.1 15 0 13 = _; rw [up_ne _ _ (by decide), u1]; exact d4
    rw [z12, z13, car, t1, Option.bind_some]
  have hw35 : Rel ((cI w 0 0).2.1 2) M := a4
  have hCc : ∀ Q, (∀ w', CSt (cI w 0 0) w' y' M' → (y' = 0 → wC__keep E Q w' res) ∧ (y' ≠ 0 → ∃ q, fC_S_dropChanges w' = some q ∧ Q res q)) → wC__carry E Q w (nI m) := by
    intro Q hk
    unfold wC__carry
    rw [if_neg h1, if_pos h4, if_pos (by rw [← c1]; exact hrec)]
    exact hC E Q (cI w 0 0) hw35 (sheet_mono e4 (by show va_up w.1 0 0 3 = _; exact up_ne _ _ (by decide)) rfl (fun _ h => h)) (cI_same _ _ _) hk
  have hst : ∀ w', CSt (cI w 0 0) w' y' M' → CSt w w' y' M' := fun w' h => (CSt_ref w a4 0).tr h
  by_cases hy : y' = 0
  · generalize hv3 : sB v2 17 (upd (upd (upd (upd (v2.2.1 17) 0 13) 1 (nI m)) 2 (nI fr)) 3 (nI sz)) = v3
    have hx : fR_carry v (nI m) = Option.bind (fR_keepAct v3 0) fun q103 => some (res, q103) := by
      have c0 : ∀ {α : Type} (k : Option α), g_ck (0 : Int32) 6 k = k := fun k => ck_nI (j := 0) (by decide) (by decide) k
      have c1 : ∀ {α : Type} (k : Option α), g_ck (1 : Int32) 6 k = k := fun k => ck_nI (j := 1) (by decide) (by decide) k
      have c2 : ∀ {α : Type} (k : Option α), g_ck (2 : Int32) 6 k = k := fun k => ck_nI (j := 2) (by decide) (by decide) k
      have c3 : ∀ {α : Type} (k : Option α), g_ck (3 : Int32) 6 k = k := fun k => ck_nI (j := 3) (by decide) (by decide) k
      rw [hRc, t2.why, if_pos ((le0_iff y0).mpr hy), c0, g_let_eq, c1, g_let_eq, c2, g_let_eq, c3, g_let_eq, show (0 : Int32).toNatClampNeg = 0 by decide, show (1 : Int32).toNatClampNeg = 1 by decide, show (2 : Int32).toNatClampNeg = 2 by decide, show (3 : Int32).toNatClampNeg = 3 by decide, sA_sB v2, sB_set]
      have z12 : (sB v2 17 (upd (upd (v2.2.1 17) 0 13) 1 (nI m))).1 12 = nI fr := q12
      rw [z12, sB_set]
      have z13 : (sB v2 17 (upd (upd (upd (v2.2.1 17) 0 13) 1 (nI m)) 2 (nI fr))).1 13 = nI sz := q13
      rw [z13, sB_set, hv3]
    have r17 : v3.2.1 17 = upd (upd (upd (upd (v2.2.1 17) 0 13) 1 (nI m)) 2 (nI fr)) 3 (nI sz) := by rw [← hv3]; exact sB_same _ _ _
    have rk : ∀ k, k ≠ 2 → k ≠ 4 → k ≠ 17 → v3.2.1 k = v.2.1 k := fun k h h' h'' => by rw [← hv3, sB_ne _ _ h'', t2.ar h, u2 k h']
    have rl : ∀ k, k ≠ 3 → k ≠ 16 → k ≠ 5 → v3.2.2 k = v.2.2 k := fun k h h' h'' => by rw [← hv3]; show v2.2.2 k = _; rw [t2.2.2.2 k h h', u3 k h'']
    have g3 : gM v3 = M' := by rw [← hv3, sB17_g]; exact t2.g
    have key := fun (w' : CS) (hw' : CSt (cI w 0 0) w' y' M') => keep_core (v2 := v3) (x := 0) (.inr (m, fr, sz)) hc hn w1 hE (by rw [← hv3]; exact q1) g3 (rk 6 (by decide) (by decide) (by decide)) (rk 9 (by decide) (by decide) (by decide)) (rl 7 (by decide) (by decide) (by decide)) (rl 10 (by decide) (by decide) (by decide)) (hst w' hw') (fun v4 z1 _ => ⟨by rw [show 6 * As.length = 6 * As.length + 0 by omega, z1 0 (by decide), r17, upd_ne _ _ (by decide), upd_ne _ _ (by decide), upd_ne _ _ (by decide), upd_same], by rw [z1 1 (by decide), r17, upd_ne _ _ (by decide), upd_ne _ _ (by decide), upd_same], by rw [z1 2 (by decide), r17, upd_ne _ _ (by decide), upd_same], by rw [z1 3 (by decide), r17, upd_same]⟩) (fun v5 hv5 he5 => by
      obtain ⟨v6, y6, s1, s2, -⟩ := hR v5 hv5 he5
      exact ⟨res, v6, y6, by rw [car]; exact s1, s2⟩) res
    have hcs : ∃ w', CSt (cI w 0 0) w' y' M' → True := ⟨w, fun _ => trivial⟩
    obtain ⟨f', ka, -, -⟩ := R_keepAct v3 0 (k := As.length) (by rw [← hv3]; show v2.1 8 = _; rw [q1, up_ne _ _ (by decide)]; exact b2) (by omega)
    refine ⟨res, _, by rw [hx, ka, Option.bind_some], ?_⟩
    refine hCc _ (fun w' hw' => ⟨fun _ => ?_, fun z => absurd hy z⟩)
    obtain ⟨v4, s1, s2⟩ := key w' hw'
    have e4 := Option.some.inj (ka.symm.trans s1)
    exact s2 _ (fun w3 h3 => ⟨rfl, by rw [e4]; exact h3⟩)
  · obtain ⟨f2, g3, s1, s2, s3, s4, s5⟩ := R_putBack v2
    refine ⟨res, _, by rw [hRc, t2.why, if_neg (fun z => hy ((le0_iff y0).mp z)), s1, Option.bind_some], ?_⟩
    refine hCc _ (fun w' hw' => ⟨fun z => absurd z hy, fun _ => ?_⟩)
    have hw2 := hst w' hw'
    obtain ⟨f, p1, p2⟩ := C_drop w' (M := M) (by rw [hw2.2.2.2.1]; exact a5)
    refine ⟨_, p1, rfl, hI.same (y := y') ⟨q1, ?_, ?_, ?_, ?_, ?_⟩ ?_⟩
    · rw [a3]
      show (va_up v2.2.1 2 f2 2, va_up v2.2.2 3 g3 3) = M
      rw [up_same, up_same]
      have hm1 : M.1 = v.2.1 2 := by rw [← a3]; rfl
      have hm2 : M.2 = v.2.2 3 := by rw [← a3]; rfl
      have x1 : v2.2.1 2 = M'.1 := by rw [← t2.g]; rfl
      have x2 : v2.2.2 3 = M'.2 := by rw [← t2.g]; rfl
      have ef : f2 = M.1 := by
        funext i
        by_cases hi : i < 557
        · rw [s2 i hi, t2.ar (show 4 ≠ 2 by decide), u4, k2 i hi, hm1]
        · rw [s3 i (by omega), x1, hE.2.1 i (by omega)]
      have eg : g3 = M.2 := by
        funext i
        by_cases hi : i < 720
        · rw [s4 i hi, t2.2.2.2 5 (by decide) (by decide), u5, k3 i hi, hm2]
        · rw [s5 i (by omega), x2, hE.2.2 i (by omega)]
      rw [ef, eg]
    · show va_up v2.2.1 2 f2 6 = _
      rw [up_ne _ _ (by decide), t2.ar (by decide), u2 6 (by decide)]
    · show va_up v2.2.1 2 f2 9 = _
      rw [up_ne _ _ (by decide), t2.ar (by decide), u2 9 (by decide)]
    · show va_up v2.2.2 3 g3 7 = _
      rw [up_ne _ _ (by decide), t2.2.2.2 7 (by decide) (by decide), u3 7 (by decide)]
    · show va_up v2.2.2 3 g3 10 = _
      rw [up_ne _ _ (by decide), t2.2.2.2 10 (by decide) (by decide), u3 10 (by decide)]
    · rw [a3]
      exact ⟨hw2.1, hw2.2.1, by rw [cW_get]; exact p2, (cW_get3 _ _).trans hw2.2.2.2.1, hw2.2.2.2.2⟩
