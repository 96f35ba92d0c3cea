/-! PURE 25: undo as a step -/
theorem R_un55 (v : RS) : ∀ (d i fu : Nat) (f : Nat → Int64), i + d = 720 → d < fu → ∃ f', fR_undo_55 fu (sQ v 3 f) (nI i) = fR_undo_79 g_fuel (sQ v 3 f') (nI 0) ∧ (∀ k, i ≤ k → k < 720 → f' k = 0) ∧ (∀ k, (k < i ∨ 720 ≤ k) → f' k = f k) := by
  intro d
  induction d with
  | zero =>
    intro i fu f hi hf
    obtain ⟨fu, rfl⟩ : ∃ m, fu = m + 1 := ⟨fu - 1, by omega⟩
    unfold fR_undo_55
    rw [if_pos (show (720 : Int32) ≤ nI i from nI_le (a := 720) (b := i) (by omega) (by omega))]
    exact ⟨f, rfl, fun k h1 h2 => by omega, fun _ _ => rfl⟩
  | succ d ih =>
    intro i fu f hi hf
    obtain ⟨fu, rfl⟩ : ∃ m, fu = m + 1 := ⟨fu - 1, by omega⟩
    unfold fR_undo_55
    rw [if_neg (show ¬ (720 : Int32) ≤ nI i from nI_ge (a := i) (b := 720) (by omega) (by decide)), ck_nI (show i < 720 by omega) (by decide), g_let_eq, nI_clamp (show i < 2 ^ 31 by omega), sQ_set, nI_1]
    obtain ⟨f', e, a1, a2⟩ := ih (i + 1) fu (vp_updL f i 0) (by omega) (by omega)
    refine ⟨f', e, fun k h1 h2 => ?_, fun k hk => ?_⟩
    · by_cases hki : k = i
      · rw [hki, a2 _ (by omega), updL_same]
      · exact a1 k (by omega) h2
    · rw [a2 k (by omega), updL_ne _ _ (by omega)]
theorem R_un33 (v : RS) : ∀ (d i fu : Nat) (f : Nat → Int32), i + d = 557 → d < fu → ∃ f', fR_undo_33 fu (sB v 2 f) (nI i) = fR_undo_55 g_fuel (sB v 2 f') (nI 0) ∧ (∀ k, i ≤ k → k < 557 → f' k = 0) ∧ (∀ k, (k < i ∨ 557 ≤ k) → f' k = f k) := by
  intro d
  induction d with
  | zero =>
    intro i fu f hi hf
    obtain ⟨fu, rfl⟩ : ∃ m, fu = m + 1 := ⟨fu - 1, by omega⟩
    unfold fR_undo_33
    rw [if_pos (show (557 : Int32) ≤ nI i from nI_le (a := 557) (b := i) (by omega) (by omega))]
    exact ⟨f, rfl, fun k h1 h2 => by omega, fun _ _ => rfl⟩
  | succ d ih =>
    intro i fu f hi hf
    obtain ⟨fu, rfl⟩ : ∃ m, fu = m + 1 := ⟨fu - 1, by omega⟩
    unfold fR_undo_33
    rw [if_neg (show ¬ (557 : Int32) ≤ nI i from nI_ge (a := i) (b := 557) (by omega) (by decide)), ck_nI (show i < 557 by omega) (by decide), g_let_eq, nI_clamp (show i < 2 ^ 31 by omega), sB_set, nI_1]
    obtain ⟨f', e, a1, a2⟩ := ih (i + 1) fu (upd f i 0) (by omega) (by omega)
    refine ⟨f', e, fun k h1 h2 => ?_, fun k hk => ?_⟩
    · by_cases hki : k = i
      · rw [hki, a2 _ (by omega), upd_same]
      · exact a1 k (by omega) h2
    · rw [a2 k (by omega), upd_ne _ _ (by omega)]
theorem RSt.encA {v v' : RS} {y : Int32} {M : GH} (h : RSt v v' y M) {As : List AA} (he : EncA v As) : EncA v' As :=
  he.keep (fun j _ => by rw [h.ar (by decide)]) (fun j _ => by rw [h.2.2.2 7 (by decide) (by decide)])
theorem RSt.encA1 {v v' : RS} {y : Int32} {M : GH} (h : RSt v v' y M) {i : Nat} {A : AA} (he : EncA1 v i A) : EncA1 v' i A :=
  he.keep (fun j _ => by rw [h.ar (by decide)]) (by rw [h.2.2.2 7 (by decide) (by decide)])
theorem replay {E : g_Env} {Ls : List LL} {rs : va_W} {cnt : Nat} (hcnt : cnt ≤ 512) : ∀ (As : List AA) (lat : Option Nat) (M : GH), HC E Ls rs As lat M → ∀ (v : RS) (fu : Nat), gM v = M00 → EncL v Ls → EncA v As → v.1 8 = nI cnt → As.length ≤ cnt → ∃ v' y, fR_undo_79 (fu + As.length) v (nI 0) = fR_undo_79 fu v' (nI As.length) ∧ RSt v v' y M := by
  intro As
  induction As with
  | nil =>
    intro lat M hh v fu hv he ha h8 hl
    have hh : M = M00 := hh
    subst hh
    exact ⟨v, v.1 15, rfl, RSt.rf v hv⟩
  | cons A As ih =>
    intro lat M hh v fu hv he ha h8 hl
    simp only [List.length_cons] at hl
    obtain ⟨M1, q, q1, q2, N, e0, f0, g0, w1, -, -, -, -, -, -, hS, hH⟩ := hh
    obtain ⟨v1, y1, k1, k2⟩ := ih e0 M1 hH v (fu + 1) hv he ha.2 h8 (by omega)
    have ha1 := k2.encA1 ha.1
    have he1 := k2.encL he
    have h81 : v1.1 8 = nI cnt := (k2.sc (by decide)).trans h8
    have key : ∃ v2 y2, fR_undo_79 (fu + 1) v1 (nI As.length) = fR_undo_79 fu v2 (nI (As.length + 1)) ∧ RSt v1 v2 y2 M := by
      generalize hG : fR_undo_79 fu = G
      unfold fR_undo_79 fR_undo_149
      rw [h81, if_neg (nI_ge (show As.length < cnt by omega) (by omega)), show (6 : Int32) * nI As.length = nI (6 * As.length) by rw [show (6 : Int32) = nI 6 from rfl, pk_mul], ck_nI (show 6 * As.length < 3078 by omega) (by decide), g_let_eq, nI_clamp (show 6 * As.length < 2 ^ 31 by omega)]
      cases A with
      | inl L =>
        obtain ⟨p1, p2, p3, p4⟩ := ha1
        obtain ⟨r, y, hSR⟩ := hS
        obtain ⟨v2, s1, s2⟩ := hSR (sI v1 15 0) k2.g (by show va_up v1.1 15 0 15 = 0; exact up_same _ _ _)
        rw [p1.1, if_neg (show ¬ nI L.1 = (13 : Int32) from mt (eqk (k := L.1) (j := 13) (by omega) (by decide)).mp (show ¬ L.1 = 13 by omega)), ck_nI (show As.length < 513 by omega) (by decide), g_let_eq, nI_clamp (show As.length < 2 ^ 31 by omega), p2, R_done_acts v1 (6 * As.length) L p3 p4 (by omega) p1, s1, Option.bind_some, nI_1]
        exact ⟨v2, y, by rw [← hG], s2.s0⟩
      | inr c =>
        obtain ⟨p0, p1, p2, p3⟩ := ha1
        obtain ⟨r, v2, y2, s1, s2⟩ := hS v1 k2.g he1
        rw [p0, if_pos rfl, nIp1, nIp2, nIp3, ck_nI (show 6 * As.length + 1 < 3078 by omega) (by decide), g_let_eq, ck_nI (show 6 * As.length + 2 < 3078 by omega) (by decide), g_let_eq, ck_nI (show 6 * As.length + 3 < 3078 by omega) (by decide), g_let_eq, nI_clamp (show 6 * As.length + 1 < 2 ^ 31 by omega), nI_clamp (show 6 * As.length + 2 < 2 ^ 31 by omega), nI_clamp (show 6 * As.length + 3 < 2 ^ 31 by omega), p1, p2, p3, s1, Option.bind_some, nI_1]
        exact ⟨v2, y2, by rw [← hG], s2⟩
    obtain ⟨v2, y2, m1, m2⟩ := key
    refine ⟨v2, y2, ?_, k2.tr m2⟩
    rw [List.length_cons, show fu + (As.length + 1) = fu + 1 + As.length by omega, k1, m1]
theorem step_undo {E : g_Env} {n : Nat} {v : RS} {w : CS} (hI : Inv E n v w) (hn : n < 512) : stW (Inv E (n + 1)) (fR_undo v) (fun Q => wC__undo E Q w) := by
  obtain ⟨M, Ls, As, fr, sz, hc⟩ := id hI
  obtain ⟨⟨a1, a2, a3, a4, a5⟩, ⟨b1, b2, b3, b4⟩, ⟨c1, c2⟩, ⟨d1, d2, d3, d4, d5, d6⟩, e1, e2, e3, e4, e5⟩ := id hc
  by_cases hrec : ¬ v.1 14 = 0
  · refine ⟨0, sI v 15 7, ?_, ?_⟩
    · unfold fR_undo; rw [if_neg hrec]; rfl
    · dsimp only; unfold wC__undo; rw [if_neg (by rw [← c1]; exact hrec)]; exact ⟨_, rfl, rfl, hI.ref 7⟩
  have hrec := Decidable.not_not.mp hrec
  cases As with
  | nil =>
    refine ⟨0, sI v 15 7, ?_, ?_⟩
    · unfold fR_undo; rw [if_pos hrec, if_pos (show v.1 8 = 0 from b2)]; rfl
    · dsimp only; unfold wC__undo; rw [if_pos (by rw [← c1]; exact hrec), if_pos (show w.1 1 = 0 from b3)]; exact ⟨_, rfl, rfl, hI.ref 7⟩
  | cons A As =>
    simp only [List.length_cons] at b2 b3 b4
    obtain ⟨M1, q, q1, q2, N, e0, f0, g0, w1, z1, lat, m0, m1, m2, hP, hS, hH⟩ := e5
    have hne : ¬ nI (As.length + 1) = (0 : Int32) := fun z => absurd ((nI_eq (a := As.length + 1) (b := 0) (by omega) (by decide)).mp z) (by omega)
    obtain ⟨f', k1, k2, k3⟩ := R_un33 (sI v 8 (nI As.length)) 557 0 g_fuel (v.2.1 2) (by omega) (fuel_lt (by omega))
    have i1 : sB (sI v 8 (nI As.length)) 2 (v.2.1 2) = sI v 8 (nI As.length) := sB_id (sI v 8 (nI As.length)) 2
    rw [i1] at k1
    obtain ⟨g', l1, l2, l3⟩ := R_un55 (sB (sI v 8 (nI As.length)) 2 f') 720 0 g_fuel (v.2.2 3) (by omega) (fuel_lt (by omega))
    have i2 : sQ (sB (sI v 8 (nI As.length)) 2 f') 3 (v.2.2 3) = sB (sI v 8 (nI As.length)) 2 f' := sQ_id (sB (sI v 8 (nI As.length)) 2 f') 3
    rw [i2] at l1
    have hm1 : M.1 = v.2.1 2 := by rw [← a3]; rfl
    have hm2 : M.2 = v.2.2 3 := by rw [← a3]; rfl
    have ef : f' = fun _ => 0 := by
      funext i
      by_cases hi : i < 557
      · exact k2 i (by omega) hi
      · rw [k3 i (by omega), ← hm1]; exact a2.1 i (by omega)
    have eg : g' = fun _ => 0 := by
      funext i
      by_cases hi : i < 720
      · exact l2 i (by omega) hi
      · rw [l3 i (by omega), ← hm2]; exact a2.2 i (by omega)
    generalize hv0 : sQ (sB (sI v 8 (nI As.length)) 2 f') 3 g' = v0 at l1
    have u1 : v0.1 = va_up v.1 8 (nI As.length) := by rw [← hv0]; rfl
    have u2 : ∀ k, k ≠ 2 → v0.2.1 k = v.2.1 k := fun k hk => by rw [← hv0]; show va_up v.2.1 2 f' k = _; exact up_ne _ _ hk
    have u3 : ∀ k, k ≠ 3 → v0.2.2 k = v.2.2 k := fun k hk => by rw [← hv0]; show va_up v.2.2 3 g' k = _; exact up_ne _ _ hk
    have u4 : gM v0 = M00 := by
      rw [← hv0]
      show (va_up v.2.1 2 f' 2, va_up v.2.2 3 g' 3) = M00
      rw [up_same, up_same, ef, eg]
      rfl
    have en0 : EncL v0 Ls := by
      intro i L hi
      rw [u2 9 (by decide), u3 10 (by decide)]
      exact e1 i L hi
    have ea0 : EncA v0 As := e2.2.keep (fun j _ => by rw [u2 6 (by decide)]) (fun j _ => by rw [u3 7 (by decide)])
    obtain ⟨v1, y1, r1, r2⟩ := replay (cnt := As.length) (by omega) As e0 M1 hH v0 (5000 - As.length) u4 en0 ea0 (by rw [u1, up_same]) (Nat.le_refl _)
    have r8 : v1.1 8 = nI As.length := by rw [r2.sc (by decide), u1, up_same]
    have rend : fR_undo_79 (5000 - As.length) v1 (nI As.length) = some (nI As.length, sI v1 15 0) := by
      obtain ⟨fu, hfu⟩ : ∃ m, 5000 - As.length = m + 1 := ⟨5000 - As.length - 1, by omega⟩
      rw [hfu]
      unfold fR_undo_79
      rw [r8, if_pos (nI_le (Nat.le_refl _) (by omega)), g_let_eq]
      have : (sI v1 15 0).1 8 = nI As.length := by show va_up v1.1 15 0 8 = _; rw [up_ne _ _ (by decide)]; exact r8
      rw [this]
    have hR : fR_undo v = some (nI As.length, sI v1 15 0) := by
      unfold fR_undo
      rw [if_pos hrec, b2, if_neg hne, nI_pred, g_let_eq, show fR_undo_33 g_fuel (sI v 8 (nI As.length)) 0 = fR_undo_55 g_fuel (sB (sI v 8 (nI As.length)) 2 f') (nI 0) from k1, l1]
      have e5 : g_fuel = 5000 - As.length + As.length := by show 5000 = _; omega
      rw [e5, r1, rend]
    refine ⟨nI As.length, sI v1 15 0, hR, ?_⟩
    dsimp only
    unfold wC__undo
    rw [if_pos (by rw [← c1]; exact hrec), b3, if_neg hne]
    unfold g_letP g_cps0
    refine C_takeBack E (M := M1) (M' := M) (cI w 0 0) a4 a5 lat m0 m1 m2 hP _ (fun f s hf hs => ?_)
    generalize hw3 : tT (cI w 0 0).2.2.2.2.2 (cI (cLat (cT (cI w 0 0) f s) e0) 1 ((cI w 0 0).1 1 - 1)) = w3
    have e01 : (cI w 0 0).1 1 = nI (As.length + 1) := by show va_up w.1 0 0 1 = _; rw [up_ne _ _ (by decide)]; exact b3
    have p1 : w3.1 1 = nI As.length := by
      rw [← hw3]
      show va_up (va_up w.1 0 0) 1 ((cI w 0 0).1 1 - 1) 1 = _
      rw [up_same, e01, nI_pred]
    have p0 : w3.1 0 = 0 := by
      rw [← hw3]
      show va_up (va_up w.1 0 0) 1 ((cI w 0 0).1 1 - 1) 0 = _
      rw [up_ne _ _ (by decide), up_same]
    have pk : ∀ k, k ≠ 0 → k ≠ 1 → w3.1 k = w.1 k := fun k h0 h1 => by
      rw [← hw3]
      show va_up (va_up w.1 0 0) 1 ((cI w 0 0).1 1 - 1) k = _
      rw [up_ne _ _ h1, up_ne _ _ h0]
    have p2 : w3.2.1 2 = f := by rw [← hw3]; exact cT_get2 (cI w 0 0) f s
    have p3 : w3.2.1 3 = s := by rw [← hw3]; exact cT_get3 (cI w 0 0) f s
    have p4 : w3.2.2.2.1 = e0 := by rw [← hw3]; rfl
    have p5 : w3.2.2.2.2.1 = w.2.2.2.2.1 := by rw [← hw3]; rfl
    have p6 : w3.2.2.2.2.2 = w.2.2.2.2.2 := by rw [← hw3]; rfl
    have rs : ∀ k, k ≠ 15 → k ≠ 8 → (sI v1 15 0).1 k = v.1 k := fun k h15 h8 => by
      show va_up v1.1 15 0 k = _
      rw [up_ne _ _ h15, r2.sc h15, u1, up_ne _ _ h8]
    refine ⟨p1, M1, Ls, As, fr, sz, ⟨w1, z1, r2.g, by rw [p2]; exact hf, by rw [p3]; exact hs⟩, ⟨?_, ?_, p1, by omega⟩, ⟨?_, ?_⟩, ⟨(rs 11 (by decide) (by decide)).trans d1, by omega, (rs 12 (by decide) (by decide)).trans d3, (rs 13 (by decide) (by decide)).trans d4, d5, d6⟩, r2.encL en0, EncA.keep (v := v1) (v' := sI v1 15 0) (fun _ _ => rfl) (fun _ _ => rfl) (r2.encA ea0), e3, ?_, ?_⟩
    · show va_up v1.1 15 0 15 = _
      rw [up_same, p0]
    · show va_up v1.1 15 0 8 = _
      rw [up_ne _ _ (by decide)]
      exact r8
    · rw [rs 14 (by decide) (by decide), pk 4 (by decide) (by decide)]
      exact c1
    · rw [rs 14 (by decide) (by decide)]
      exact c2
    · exact sheet_mono e4 (pk 3 (by decide) (by decide)) p5 (fun x hx => by rw [p6]; exact hx)
    · rw [p4, p6]
      exact hH
