/-! PURE 14: make -/
def mkn (K N : Nat) : Nat := if K < 13 then 0 else N
def mkk (K : Nat) : Int32 := if under K 0 = true then 8 else 0
def mkM (M : GH) (T j K N : Nat) : GH := sg (sg (sg (sg (sg M T (nI K)) (60 + T) (nI (mkn K N))) (120 + T) (mkk K)) (540 + j) (nI (T + 1))) 556 (nI (T + 1))
theorem sg_ne (M : GH) {k i : Nat} (x : Int32) (h : i ≠ k) : (sg M k x).1 i = M.1 i := upd_ne _ _ h
theorem sg_same (M : GH) (k : Nat) (x : Int32) : (sg M k x).1 k = x := upd_same _ _ _
section MK
variable {M : GH} {T j K N : Nat}
theorem mk_556 : (mkM M T j K N).1 556 = nI (T + 1) := sg_same _ _ _
theorem mk_540 (hj : j < 16) : (mkM M T j K N).1 (540 + j) = nI (T + 1) := by unfold mkM; rw [sg_ne _ _ (by omega), sg_same]
theorem mk_120 (hT : T < 60) (hj : j < 16) : (mkM M T j K N).1 (120 + T) = mkk K := by unfold mkM; rw [sg_ne _ _ (by omega), sg_ne _ _ (by omega), sg_same]
theorem mk_60 (hT : T < 60) (hj : j < 16) : (mkM M T j K N).1 (60 + T) = nI (mkn K N) := by unfold mkM; rw [sg_ne _ _ (by omega), sg_ne _ _ (by omega), sg_ne _ _ (by omega), sg_same]
theorem mk_T (hT : T < 60) (hj : j < 16) : (mkM M T j K N).1 T = nI K := by unfold mkM; rw [sg_ne _ _ (by omega), sg_ne _ _ (by omega), sg_ne _ _ (by omega), sg_ne _ _ (by omega), sg_same]
theorem mk_ne {i : Nat} (h : i ≠ 556 ∧ i ≠ 540 + j ∧ i ≠ 120 + T ∧ i ≠ 60 + T ∧ i ≠ T) : (mkM M T j K N).1 i = M.1 i := by unfold mkM; rw [sg_ne _ _ h.1, sg_ne _ _ h.2.1, sg_ne _ _ h.2.2.1, sg_ne _ _ h.2.2.2.1, sg_ne _ _ h.2.2.2.2]
theorem mk_tc (hT : T < 60) : tc (mkM M T j K N) = T + 1 := by unfold tc; rw [mk_556]; exact nI_clamp (by omega)
theorem mk_kT (hT : T < 60) (hj : j < 16) (hK : K < 25) : kd (mkM M T j K N) T = K := by unfold kd; rw [mk_T hT hj]; exact nI_clamp (by omega)
theorem mk_lT (hT : T < 60) (hj : j < 16) (hN : N ≤ 12) : ln (mkM M T j K N) T = mkn K N := by unfold ln; rw [mk_60 hT hj]; exact nI_clamp (by unfold mkn; split <;> omega)
theorem mk_kn {u : Nat} (hT : T < 60) (hj : j < 16) (hu : u < 60) (h : u ≠ T) : kd (mkM M T j K N) u = kd M u := by unfold kd; rw [mk_ne (by omega)]
theorem mk_lnn {u : Nat} (hT : T < 60) (hj : j < 16) (hu : u < 60) (h : u ≠ T) : ln (mkM M T j K N) u = ln M u := by unfold ln; rw [mk_ne (by omega)]
end MK
theorem mkn_le {K N : Nat} (hN : N ≤ 12) : mkn K N ≤ 12 := by unfold mkn; split <;> omega
theorem WF.mk {M : GH} (h : WF M) {T j K N : Nat} (hT : T = tc M) (hT6 : T < 60) (hj : j < 16) (hK : K < 25) (hK12 : K ≠ 12) (hN : N ≤ 12) : WF (mkM M T j K N) := by
  obtain ⟨h1, h2, h3, h4, h5, h6, h7⟩ := h
  have e1 : tc (mkM M T j K N) = T + 1 := mk_tc hT6
  have z2 : ∀ i, i < 12 → M.2 (12 * T + i) = 0 := fun i hi => h7 T i (by omega) hT6 hi
  refine ⟨⟨by omega, by rw [e1]; exact mk_556⟩, fun s hs => ?_, fun u hu => ?_, fun u hu hk i hi => ?_, fun u hu i hi hi2 => ?_, fun u q hu hu2 hq => ?_, fun u i hu hu2 hi => ?_⟩
  · by_cases he : s = j
    · subst he
      have e2 : sl (mkM M T s K N) s = T + 1 := by unfold sl; rw [mk_540 hj]; exact nI_clamp (by omega)
      rw [e2, e1, mk_540 hj]
      exact ⟨Nat.le_refl _, rfl⟩
    · have e0 : (mkM M T j K N).1 (540 + s) = M.1 (540 + s) := mk_ne (by omega)
      have e2 : sl (mkM M T j K N) s = sl M s := by unfold sl; rw [e0]
      rw [e2, e1, e0]
      exact ⟨by have := (h2 s hs).1; omega, (h2 s hs).2⟩
  · rw [e1] at hu
    by_cases he : u = T
    · subst he
      rw [mk_kT hT6 hj hK, mk_lT hT6 hj hN, mk_T hT6 hj, mk_60 hT6 hj]
      exact ⟨hK, hK12, rfl, mkn_le hN, rfl, fun z => by unfold mkn; rw [if_pos z]⟩
    · rw [mk_kn hT6 hj (by omega) he, mk_lnn hT6 hj (by omega) he, mk_ne (by omega), mk_ne (by omega)]
      exact h3 u (by omega)
  · rw [e1] at hu ⊢
    have ep : pn (mkM M T j K N) u i = pn M u i := rfl
    rw [ep]
    show pn M u i ≤ T + 1 ∧ M.2 (12 * u + i) = lN (pn M u i) ∧ _
    by_cases he : u = T
    · subst he
      rw [mk_lT hT6 hj hN] at hi
      have hz : M.2 (12 * u + i) = 0 := z2 i (by have := mkn_le (K := K) hN; omega)
      have ez : pn M u i = 0 := by unfold pn; rw [hz]; rfl
      rw [ez, hz]
      exact ⟨by omega, rfl, fun z => absurd rfl z⟩
    · rw [mk_kn hT6 hj (by omega) he] at hk
      rw [mk_lnn hT6 hj (by omega) he] at hi
      obtain ⟨a1, a2, a3⟩ := h4 u (by omega) hk i hi
      refine ⟨by omega, a2, fun hz => ?_⟩
      rw [mk_kn hT6 hj (by omega) he, mk_kn hT6 hj (by omega) (by omega)]
      exact a3 hz
  · rw [e1] at hu
    show M.2 (12 * u + i) = 0
    by_cases he : u = T
    · subst he; exact z2 i hi2
    · rw [mk_lnn hT6 hj (by omega) he] at hi
      exact h5 u (by omega) i hi hi2
  · rw [e1] at hu
    rw [mk_ne (by omega)]
    exact h6 u q (by omega) hu2 hq
  · rw [e1] at hu
    exact h7 u i (by omega) hu2 hi
/-! the reference makes -/
theorem kb556 {α : Type} (k : Option α) : g_ck (556 : Int32) 557 k = k := ck_nI (j := 556) (by decide) (by decide) k
theorem lb556 : (556 : Int32).toNatClampNeg = 556 := by decide
theorem sA_self (v : RS) {i : Nat} {x : Int32} (h : v.2.1 2 i = x) : sA v 2 i x = v := by
  unfold sA
  rw [upd_self2 _ h.symm, up_self]
theorem vpL_self (f : Nat → Int64) (i : Nat) : vp_updL f i (f i) = f := by
  funext k
  by_cases h : k = i
  · rw [h, updL_same]
  · rw [updL_ne _ _ h]
theorem sL_self (v : RS) {i : Nat} {x : Int64} (h : v.2.2 3 i = x) : sL v 3 i x = v := by
  subst h
  unfold sL
  rw [vpL_self, up_self]
theorem sA_rM (v : RS) (A : GH) (i : Nat) (x : Int32) : sA (rM v A) 2 i x = rM v (sg A i x) := by
  rw [rM_a _ (gM_rM v A), rM_rM]
theorem rM_get (v : RS) (A : GH) (i : Nat) : (rM v A).2.1 2 i = A.1 i := R_g _ (gM_rM v A) i
theorem R_mk181 (v : RS) {M : GH} (hM : WF M) (hT6 : tc M < 60) {j K N : Nat} (hj : j < 16) (x : Int32) (hx : x = mkk K) : fR_makeNew_181 (rM v (sg (sg M (tc M) (nI K)) (60 + tc M) (nI (mkn K N)))) (nI j) (nI (tc M)) x ((120 : Int32) + nI (tc M)) = some (nI (tc M), rM v (mkM M (tc M) j K N)) := by
  subst hx
  unfold fR_makeNew_181
  simp only [kb120 hT6, lb120 hT6, g_let_eq, kb540 hj, lb540 hj, kb556, lb556, sA_rM, rM_get, nI_1]
  rw [sg_ne _ _ (show 556 ≠ 540 + j by omega), sg_ne _ _ (show 556 ≠ 120 + tc M by omega), sg_ne _ _ (show 556 ≠ 60 + tc M by omega), sg_ne _ _ (show 556 ≠ tc M by omega), hM.1.2, nI_1]
  rfl
theorem R_mk157 (v : RS) {M : GH} (hM : WF M) (hT6 : tc M < 60) {j K N : Nat} (hj : j < 16) (hK : K < 25) (y : Int32) (hy : y = nI (mkn K N)) : fR_makeNew_157 (rM v (sg M (tc M) (nI K))) (nI j) (nI K) (nI (tc M)) y ((60 : Int32) + nI (tc M)) = some (nI (tc M), rM v (mkM M (tc M) j K N)) := by
  subst hy
  unfold fR_makeNew_157
  simp only [kb60 hT6, lb60 hT6, g_let_eq, sA_rM]
  rw [R_isPart _ hK, Option.bind_some]
  cases hu : under K 0
  · simp only [if_pos ((b2_0 false).mpr rfl)]
    exact R_mk181 v hM hT6 hj 0 (by unfold mkk; rw [hu]; rfl)
  · simp only [if_neg (mt (b2_0 true).mp (by decide))]
    exact R_mk181 v hM hT6 hj 8 (by unfold mkk; rw [hu]; rfl)
theorem R_mk100 (v : RS) {M : GH} (hM : WF M) (hv : gM v = M) (hT6 : tc M < 60) {j K N : Nat} (hj : j < 16) (hK : K < 25) (hN : N ≤ 12) : ∀ (d i fu : Nat), i + d = 12 → d < fu → fR_makeNew_100 fu v (nI j) (nI K) (nI N) (nI (tc M)) (nI i) = some (nI (tc M), rM v (mkM M (tc M) j K N)) := by
  intro d
  induction d with
  | zero =>
    intro i fu hi hf
    obtain ⟨fu, rfl⟩ : ∃ m, fu = m + 1 := ⟨fu - 1, by omega⟩
    unfold fR_makeNew_100
    rw [if_pos (show (12 : Int32) ≤ nI i from nI_le (a := 12) (b := i) (by omega) (by omega)), show (0 : Int32) + nI (tc M) = nI (tc M) by rw [show (0 : Int32) = nI 0 from rfl, nI_add, Nat.zero_add], ck_nI (by omega) (by decide), g_let_eq, nI_clamp (by omega), rM_a v hv]
    by_cases h13 : K < 13
    · rw [if_pos (show nI K < 13 from nI_lt h13 (by decide))]
      exact R_mk157 v hM hT6 hj hK 0 (by unfold mkn; rw [if_pos h13]; rfl)
    · rw [if_neg (show ¬ nI K < 13 from nI_nlt (a := K) (b := 13) (by omega) (by omega))]
      exact R_mk157 v hM hT6 hj hK (nI N) (by unfold mkn; rw [if_neg h13])
  | succ d ih =>
    intro i fu hi hf
    obtain ⟨fu, rfl⟩ : ∃ m, fu = m + 1 := ⟨fu - 1, by omega⟩
    unfold fR_makeNew_100
    rw [if_neg (show ¬ (12 : Int32) ≤ nI i from nI_ge (a := i) (b := 12) (by omega) (by decide)), kb12 hT6 (by omega), lb12 hT6 (by omega), g_let_eq, sL_self v (by rw [R_h v hv]; exact hM.2.2.2.2.2.2 (tc M) i (by omega) hT6 (by omega)), nI_1]
    exact ih (i + 1) fu (by omega) (by omega)
theorem R_mk72 (v : RS) {M : GH} (hM : WF M) (hv : gM v = M) (hT6 : tc M < 60) {j K N : Nat} (hj : j < 16) (hK : K < 25) (hN : N ≤ 12) : ∀ (d q fu : Nat), q + d = 9 → d < fu → fR_makeNew_72 fu v (nI j) (nI K) (nI N) (nI (tc M)) (nI (60 * q)) = some (nI (tc M), rM v (mkM M (tc M) j K N)) := by
  intro d
  induction d with
  | zero =>
    intro q fu hi hf
    obtain ⟨fu, rfl⟩ : ∃ m, fu = m + 1 := ⟨fu - 1, by omega⟩
    unfold fR_makeNew_72
    rw [if_pos (show (540 : Int32) ≤ nI (60 * q) from nI_le (a := 540) (b := 60 * q) (by omega) (by omega))]
    exact R_mk100 v hM hv hT6 hj hK hN 12 0 g_fuel (by omega) (fuel_lt (by omega))
  | succ d ih =>
    intro q fu hi hf
    obtain ⟨fu, rfl⟩ : ∃ m, fu = m + 1 := ⟨fu - 1, by omega⟩
    unfold fR_makeNew_72
    rw [if_neg (show ¬ (540 : Int32) ≤ nI (60 * q) from nI_ge (a := 60 * q) (b := 540) (by omega) (by decide)), nI_add, ck_nI (by omega) (by decide), g_let_eq, nI_clamp (by omega), sA_self v (by rw [R_g v hv]; exact hM.2.2.2.2.2.1 (tc M) q (by omega) hT6 (by omega)), show (60 : Int32) = nI 60 from rfl, nI_add, show 60 * q + 60 = 60 * (q + 1) by omega]
    exact ih (q + 1) fu (by omega) (by omega)
/-! the class makes -/
theorem kb16 {α : Type} (k : Option α) : g_ck (16 : Int32) 1397 k = k := ck_nI (j := 16) (by decide) (by decide) k
theorem C_tm {M : GH} (hM : WF M) (w : CS) (hr : Rel (w.2.1 2) M) : fC_S_thingsMade w = some (nI (tc M), w) := by
  unfold fC_S_thingsMade
  rw [kb16, g_let_eq, show (16 : Int32).toNatClampNeg = 16 by decide, hr.tcn, hM.1.2]
theorem C_add75 (w : CS) {T N : Nat} (hT : T < 60) (hN : N ≤ 12) : ∀ (d i fu : Nat) (f : Nat → Int64), (f (17 + T * 23 + 10)).toInt32 = nI N → i + d = N → d < fu → ∃ f', fC_S_add_75 fu (cW w f) (nI N) (nI T) (nI i) = some (nI T, cW w f') ∧ (∀ c, (17 + T * 23 + 11 + i ≤ c ∧ c < 17 + T * 23 + 11 + N) → f' c = -1) ∧ (∀ c, ¬ (17 + T * 23 + 11 + i ≤ c ∧ c < 17 + T * 23 + 11 + N) → f' c = f c) := by
  intro d
  induction d with
  | zero =>
    intro i fu f hl hi hf
    obtain ⟨fu, rfl⟩ : ∃ m, fu = m + 1 := ⟨fu - 1, by omega⟩
    unfold fC_S_add_75
    rw [if_pos (nI_le (show N ≤ i by omega) (by omega))]
    exact ⟨f, rfl, fun c hc => by omega, fun c _ => rfl⟩
  | succ d ih =>
    intro i fu f hl hi hf
    obtain ⟨fu, rfl⟩ : ∃ m, fu = m + 1 := ⟨fu - 1, by omega⟩
    unfold fC_S_add_75
    rw [if_neg (nI_ge (show i < N by omega) (by omega)), C_setP _ _ hT (by rw [cW_get]; exact hl) hN (show i < N by omega), Option.bind_some, cW_set, nI_1]
    obtain ⟨f', e1, a1, a2⟩ := ih (i + 1) fu (vp_updL f (17 + T * 23 + 11 + i) (-1)) (by rw [updL_ne _ _ (by omega)]; exact hl) (by omega) (by omega)
    refine ⟨f', e1, fun c hc => ?_, fun c hc => ?_⟩
    · by_cases h : c = 17 + T * 23 + 11 + i
      · rw [a2 c (by omega), h, updL_same]
      · exact a1 c (by omega)
    · rw [a2 c (by omega), updL_ne _ _ (by omega)]
def f5 (f : Nat → Int64) (T K N : Nat) : Nat → Int64 :=
  let f3 := vp_updL (vp_updL (vp_updL f 16 (nI (T + 1)).toInt64) (17 + T * 23 + 0) (nI K).toInt64) (17 + T * 23 + 1) (nI T).toInt64
  let f4 := if under K 0 = true then vp_updL f3 (17 + T * 23 + 2) (8 : Int32).toInt64 else f3
  if 13 ≤ K then vp_updL f4 (17 + T * 23 + 10) (nI N).toInt64 else f4
theorem C_mk46 (w : CS) {f4 : Nat → Int64} {T K N : Nat} (hT : T < 60) (hK : K < 25) (hN : N ≤ 12) : ∃ f', fC_S_add_46 (cW w f4) (nI K) (nI N) (nI T) = some (nI T, cW w f') ∧ (∀ c, (16 ≤ K ∧ 17 + T * 23 + 11 ≤ c ∧ c < 17 + T * 23 + 11 + N) → f' c = -1) ∧ (∀ c, ¬ (16 ≤ K ∧ 17 + T * 23 + 11 ≤ c ∧ c < 17 + T * 23 + 11 + N) → f' c = (if 13 ≤ K then vp_updL f4 (17 + T * 23 + 10) (nI N).toInt64 else f4) c) := by
  unfold fC_S_add_46
  rw [C_under _ _ hK, Option.bind_some]
  by_cases h13 : 13 ≤ K
  · simp only [if_neg (mt (mkRows ⟨K, hK⟩).mp (fun z => z h13)), i10, if_false, if_pos h13]
    have e : fC_S_setTrait (cW w f4) (nI T) 10 (nI N) = some (cW w (vp_updL f4 (17 + T * 23 + 10) (nI N).toInt64)) := by
      show fC_S_setTrait (cW w f4) (nI T) (nI 10) (nI N) = _
      rw [C_set _ _ hT (by decide), cW_set]
    rw [e, Option.bind_some]
    unfold fC_S_add_63
    rw [C_under _ _ hK, Option.bind_some]
    by_cases h16 : 16 ≤ K
    · simp only [if_neg (mt (mkRT ⟨K, hK⟩).mp (fun z => z h16)), i10, if_false]
      obtain ⟨f', e1, a1, a2⟩ := C_add75 w hT hN N 0 g_fuel (vp_updL f4 (17 + T * 23 + 10) (nI N).toInt64) (by rw [updL_same, i64_back]) (by omega) (fuel_lt (by omega))
      refine ⟨f', ?_, fun c hc => a1 c (by omega), fun c hc => a2 c (by omega)⟩
      rw [show (0 : Int32) = nI 0 from rfl]
      exact e1
    · simp only [if_pos ((mkRT ⟨K, hK⟩).mpr h16), if_true]
      exact ⟨_, rfl, fun c hc => absurd hc.1 h16, fun c _ => rfl⟩
  · simp only [if_pos ((mkRows ⟨K, hK⟩).mpr h13), if_true, if_neg h13]
    unfold fC_S_add_63
    rw [C_under _ _ hK, Option.bind_some]
    simp only [if_pos ((mkRT ⟨K, hK⟩).mpr (show ¬ 16 ≤ K by omega)), if_true]
    exact ⟨_, rfl, fun c hc => by omega, fun c _ => rfl⟩
theorem C_mkadd {M : GH} (hM : WF M) (w : CS) (hr : Rel (w.2.1 2) M) {T K N : Nat} (hT : T = tc M) (hT6 : T < 60) (hK : K < 25) (hN : N ≤ 12) : ∃ f', fC_S_add w (nI K) (nI N) = some (nI T, cW w f') ∧ (∀ c, (16 ≤ K ∧ 17 + T * 23 + 11 ≤ c ∧ c < 17 + T * 23 + 11 + N) → f' c = -1) ∧ (∀ c, ¬ (16 ≤ K ∧ 17 + T * 23 + 11 ≤ c ∧ c < 17 + T * 23 + 11 + N) → f' c = f5 (w.2.1 2) T K N c) := by
  subst hT
  unfold fC_S_add f5
  rw [C_tm hM w hr, Option.bind_some, kb16, g_let_eq, show (16 : Int32).toNatClampNeg = 16 by decide, cL_cW]
  show ∃ f', Option.bind (fC_S_setTrait (cW w (vp_updL (w.2.1 2) 16 (nI (tc M) + 1).toInt64)) (nI (tc M)) (nI 0) (nI K)) _ = _ ∧ _
  rw [C_set _ _ hT6 (by decide), Option.bind_some, cW_set, nI_1]
  show ∃ f', Option.bind (fC_S_setTrait (cW w _) (nI (tc M)) (nI 1) (nI (tc M))) _ = _ ∧ _
  rw [C_set _ _ hT6 (by decide), Option.bind_some, cW_set, C_under _ _ hK, Option.bind_some]
  cases hu : under K 0
  · simp only [if_pos ((mk1 ⟨K, hK⟩).mpr hu), if_true]
    exact C_mk46 w hT6 hK hN
  · simp only [if_neg (mt (mk1 ⟨K, hK⟩).mp (by rw [hu]; decide)), i10, if_false]
    have e : ∀ f, fC_S_setTrait (cW w f) (nI (tc M)) 2 8 = some (cW w (vp_updL f (17 + tc M * 23 + 2) (8 : Int32).toInt64)) := by
      intro f
      show fC_S_setTrait (cW w f) (nI (tc M)) (nI 2) 8 = _
      rw [C_set _ _ hT6 (by decide), cW_set]
    rw [e, Option.bind_some]
    exact C_mk46 w hT6 hK hN
