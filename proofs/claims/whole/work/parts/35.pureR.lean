/-! PURE 17: copy, the loops -/
def cpM (M : GH) (p i q j m : Nat) : GH := (M.1, va_cpy M.2 M.2 (12 * p + i) (12 * q + j) m)
def okc (M : GH) (p i q y : Nat) : Prop := kd M q ≤ 15 ∨ pn M p (i + y) = 0 ∨ fitk (kd M q) (kd M (pn M p (i + y) - 1)) = true
theorem okc_em (M : GH) (p i q y : Nat) : okc M p i q y ∨ ¬ okc M p i q y := Classical.em _
def cpn (M : GH) (p i q : Nat) : Nat → Nat → Nat
  | 0, x => x
  | d + 1, x => if kd M q ≤ 15 ∨ pn M p (i + x) = 0 ∨ fitk (kd M q) (kd M (pn M p (i + x) - 1)) = true then cpn M p i q d (x + 1) else x
theorem cpn_t {M : GH} {p i q d x : Nat} (h : okc M p i q x) : cpn M p i q (d + 1) x = cpn M p i q d (x + 1) := by
  show (if _ then _ else _) = _
  exact if_pos h
theorem cpn_f {M : GH} {p i q d x : Nat} (h : ¬ okc M p i q x) : cpn M p i q (d + 1) x = x := by
  show (if _ then _ else _) = _
  exact if_neg h
theorem cpn_le {M : GH} {p i q : Nat} : ∀ (d x : Nat), x ≤ cpn M p i q d x ∧ cpn M p i q d x ≤ x + d ∧ (∀ y, x ≤ y → y < cpn M p i q d x → okc M p i q y) := by
  intro d
  induction d with
  | zero => intro x; exact ⟨Nat.le_refl x, Nat.le_refl x, fun y h1 h2 => absurd h2 (by show ¬ y < x; omega)⟩
  | succ d ih =>
    intro x
    rcases okc_em M p i q x with h | h
    · rw [cpn_t h]
      obtain ⟨a1, a2, a3⟩ := ih (x + 1)
      refine ⟨by omega, by omega, fun y h1 h2 => ?_⟩
      by_cases e : y = x
      · subst e; exact h
      · exact a3 y (by omega) h2
    · rw [cpn_f h]
      exact ⟨Nat.le_refl x, by omega, fun y h1 h2 => by omega⟩
theorem cpM_0 (M : GH) (p i q j : Nat) : cpM M p i q j 0 = M := by
  show (M.1, va_cpy M.2 M.2 (12 * p + i) (12 * q + j) 0) = M
  have : va_cpy M.2 M.2 (12 * p + i) (12 * q + j) 0 = M.2 := by
    funext c
    exact pk_cpy_out (by omega)
  rw [this]
theorem cpM_s (M : GH) (p i q j m : Nat) : sh (cpM M p i q j m) (12 * q + (j + m)) (M.2 (12 * p + (i + m))) = cpM M p i q j (m + 1) := by
  show (M.1, vp_updL (va_cpy M.2 M.2 (12 * p + i) (12 * q + j) m) (12 * q + (j + m)) (M.2 (12 * p + (i + m)))) = (M.1, va_cpy M.2 M.2 (12 * p + i) (12 * q + j) (m + 1))
  have : vp_updL (va_cpy M.2 M.2 (12 * p + i) (12 * q + j) m) (12 * q + (j + m)) (M.2 (12 * p + (i + m))) = va_cpy M.2 M.2 (12 * p + i) (12 * q + j) (m + 1) := by
    funext c
    by_cases h : c = 12 * q + (j + m)
    · rw [h, updL_same, pk_cpy_in (by omega) (by omega), show 12 * p + i + (12 * q + (j + m) - (12 * q + j)) = 12 * p + (i + m) by omega]
    · rw [updL_ne _ _ h]
      by_cases h2 : 12 * q + j ≤ c ∧ c < 12 * q + j + m
      · rw [pk_cpy_in h2.1 h2.2, pk_cpy_in h2.1 (by omega)]
      · rw [pk_cpy_out (by omega), pk_cpy_out (by omega)]
  rw [this]
theorem WF.cp {M : GH} (hM : WF M) {p i q j n : Nat} (hpt : p < tc M) (hqt : q < tc M) (hk : cpOK (kd M p) (kd M q)) (h1 : i + n ≤ ln M p) (h2 : j + n ≤ ln M q) : ∀ m, m ≤ n → (∀ y, y < m → okc M p i q y) → WF (cpM M p i q j m) := by
  intro m
  induction m with
  | zero => intro _ _; rw [cpM_0]; exact hM
  | succ m ih =>
    intro hm ho
    have hw := ih (by omega) (fun y hy => ho y (by omega))
    rw [← cpM_s]
    refine hw.setP (t := q) (i := j + m) _ hqt (show j + m < ln M q by omega) (fun z => ?_)
    have z : 16 ≤ kd M q := z
    have hp16 : 16 ≤ kd M p := by unfold cpOK at hk; omega
    obtain ⟨b1, b2, b3⟩ := hM.2.2.2.1 p hpt hp16 (i + m) (by omega)
    refine ⟨pn M p (i + m), b2, b1, fun hz => ?_⟩
    rcases ho m (by omega) with h | h | h
    · omega
    · exact absurd h hz
    · exact h
theorem Rel.cp {f : Nat → Int64} {M : GH} (h : Rel f M) (hM : WF M) {p i q j n m : Nat} (hpt : p < tc M) (hqt : q < tc M) (hk : cpOK (kd M p) (kd M q)) (h1 : i + n ≤ ln M p) (h2 : j + n ≤ ln M q) (hm : m ≤ n) : Rel (va_cpy f f (17 + p * 23 + 11 + i) (17 + q * 23 + 11 + j) m) (cpM M p i q j m) := by
  have h60 := hM.1.1
  have hp12 := (hM.2.2.1 p hpt).2.2.2.1
  have hq12 := (hM.2.2.1 q hqt).2.2.2.1
  refine ⟨fun s hs => ?_, ?_, fun u c hu hc => ?_, fun u c hu hc => ?_⟩
  · rw [pk_cpy_out (by omega)]; exact h.1 s hs
  · rw [pk_cpy_out (by omega)]; exact h.2.1
  · rw [pk_cpy_out (by omega)]; exact h.2.2.1 u c hu hc
  · show _ = if 16 ≤ kd M u ∧ c < ln M u then va_cpy M.2 M.2 (12 * p + i) (12 * q + j) m (12 * u + c) - 1 else va_cpy M.2 M.2 (12 * p + i) (12 * q + j) m (12 * u + c)
    by_cases hs : u = q ∧ j ≤ c ∧ c < j + m
    · obtain ⟨rfl, c1, c2⟩ := hs
      rw [pk_cpy_in (by omega) (by omega), pk_cpy_in (by omega) (by omega), show 17 + p * 23 + 11 + i + (17 + u * 23 + 11 + c - (17 + u * 23 + 11 + j)) = 17 + p * 23 + 11 + (i + (c - j)) by omega, show 12 * p + i + (12 * u + c - (12 * u + j)) = 12 * p + (i + (c - j)) by omega, h.2.2.2 p (i + (c - j)) (by omega) (by omega)]
      unfold plc
      by_cases h16 : 16 ≤ kd M u
      · rw [if_pos ⟨by unfold cpOK at hk; omega, by omega⟩, if_pos ⟨h16, by omega⟩]
      · rw [if_neg (fun z => by unfold cpOK at hk; omega), if_neg (fun z => h16 z.1)]
    · rw [pk_cpy_out (by omega), pk_cpy_out (by omega)]
      exact h.2.2.2 u c hu hc
/-! the reference copies -/
def St16 (v v1 : RS) : Prop := v1.1 = v.1 ∧ v1.2.1 = v.2.1 ∧ ∀ k, k ≠ 16 → v1.2.2 k = v.2.2 k
theorem sL16_g (v : RS) (x : Nat) (y : Int64) : gM (sL v 16 x y) = gM v := by
  show (v.2.1 2, va_up v.2.2 16 (vp_updL (v.2.2 16) x y) 3) = _
  rw [up_ne _ _ (by decide)]
  rfl
theorem R_cp55 {M : GH} (hM : WF M) {a p i j q n : Nat} (ha : a < 16) (hp : sl M a = p + 1) (hpt : p < tc M) (h1 : i + n ≤ ln M p) : ∀ (d x fu : Nat) (v : RS), gM v = M → (∀ y, y < x → v.2.2 16 y = M.2 (12 * p + (i + y))) → x + d = n → d < fu → ∃ v1, fR_copyOver_55 fu v (nI a) (nI i) (nI j) (nI n) (nI q) (nI x) = fR_copyOver_96 g_fuel v1 (nI j) (nI n) (nI q) (nI 0) ∧ St16 v v1 ∧ (∀ y, y < n → v1.2.2 16 y = M.2 (12 * p + (i + y))) := by
  have h60 := hM.1.1
  have hp12 := (hM.2.2.1 p hpt).2.2.2.1
  intro d
  induction d with
  | zero =>
    intro x fu v hv hy hx hf
    obtain ⟨fu, rfl⟩ : ∃ m, fu = m + 1 := ⟨fu - 1, by omega⟩
    unfold fR_copyOver_55
    rw [if_pos (nI_le (show n ≤ x by omega) (by omega))]
    exact ⟨v, rfl, ⟨rfl, rfl, fun _ _ => rfl⟩, fun y hyn => hy y (by omega)⟩
  | succ d ih =>
    intro x fu v hv hy hx hf
    obtain ⟨fu, rfl⟩ : ∃ m, fu = m + 1 := ⟨fu - 1, by omega⟩
    unfold fR_copyOver_55
    rw [if_neg (nI_ge (show x < n by omega) (by omega)), R_on1 hM v hv ha hp, Option.bind_some]
    show ∃ v1, g_ck (((12 : Int32) * nI p + nI i) + nI x) 720 (g_let (v.2.2 3 (((12 : Int32) * nI p + nI i) + nI x).toNatClampNeg) _) = _ ∧ _
    rw [ix12, nI_add, ck_nI (by omega) (by decide), g_let_eq, nI_clamp (by omega), R_h v hv, ck_nI (by omega) (by decide), g_let_eq, nI_clamp (by omega), nI_1]
    obtain ⟨v1, e1, s1, y1⟩ := ih (x + 1) fu (sL v 16 x (M.2 (12 * p + i + x))) (by rw [sL16_g]; exact hv) (fun y hyx => by
      show va_up v.2.2 16 (vp_updL (v.2.2 16) x _) 16 y = _
      rw [up_same]
      by_cases e : y = x
      · rw [e, updL_same, Nat.add_assoc]
      · rw [updL_ne _ _ e]; exact hy y (by omega)) (by omega) (by omega)
    refine ⟨v1, e1, ⟨s1.1, s1.2.1, fun k hk => (s1.2.2 k hk).trans (up_ne _ _ hk)⟩, y1⟩
theorem cp_fit {M : GH} (hM : WF M) {p i q j n m : Nat} (v : RS) (hv : gM v = cpM M p i q j m) (hw : WF (cpM M p i q j m)) (hqt : q < tc M) (hk16 : 16 ≤ kd M q) {r : Nat} (hr : r ≤ tc M) : fR_fits v (nI (kd M q)) (lN r) = some (if r = 0 then 1 else b2 (fitk (kd M q) (kd M (r - 1))), v) :=
  R_fitM hw v hv hk16 (hM.2.2.1 q hqt).1 hr
theorem R_cp96 {M : GH} (hM : WF M) {p i j q n : Nat} (hpt : p < tc M) (hqt : q < tc M) (hk : cpOK (kd M p) (kd M q)) (h1 : i + n ≤ ln M p) (h2 : j + n ≤ ln M q) : ∀ (d x fu : Nat) (v : RS), gM v = cpM M p i q j x → (∀ y, y < x → okc M p i q y) → (∀ y, y < n → v.2.2 16 y = M.2 (12 * p + (i + y))) → x + d = n → d < fu → fR_copyOver_96 fu v (nI j) (nI n) (nI q) (nI x) = some (nI (cpn M p i q d x), if cpn M p i q d x = n then rM v (cpM M p i q j n) else sI (rM v (cpM M p i q j (cpn M p i q d x))) 15 5) := by
  have h60 := hM.1.1
  have hp12 := (hM.2.2.1 p hpt).2.2.2.1
  have hq12 := (hM.2.2.1 q hqt).2.2.2.1
  have q1 := (hM.2.2.1 q hqt).1
  intro d
  induction d with
  | zero =>
    intro x fu v hv ho hy hx hf
    obtain ⟨fu, rfl⟩ : ∃ m, fu = m + 1 := ⟨fu - 1, by omega⟩
    unfold fR_copyOver_96
    have e : cpn M p i q 0 x = n := by show x = n; omega
    have e2 : x = n := by omega
    subst e2
    rw [if_pos (nI_le (Nat.le_refl x) (by omega)), e, if_pos rfl, rM_self v hv]
  | succ d ih =>
    intro x fu v hv ho hy hx hf
    obtain ⟨fu, rfl⟩ : ∃ m, fu = m + 1 := ⟨fu - 1, by omega⟩
    have hw := hM.cp hpt hqt hk h1 h2 x (by omega) ho
    have ekd : fR_kindOf v (nI q) = some (nI (kd M q), v) := R_kd hw v hv hqt
    have hstep : okc M p i q x → fR_copyOver_143 (fR_copyOver_96 fu) v (nI j) (nI n) (nI q) (nI x) = some (nI (cpn M p i q (d + 1) x), if cpn M p i q (d + 1) x = n then rM v (cpM M p i q j n) else sI (rM v (cpM M p i q j (cpn M p i q (d + 1) x))) 15 5) := by
      intro hok
      unfold fR_copyOver_143
      rw [ck_nI (by omega) (by decide), g_let_eq, nI_clamp (by omega), hy x (by omega), ix12, nI_add, ck_nI (by omega) (by decide), g_let_eq, nI_clamp (by omega), rM_p v hv, Nat.add_assoc, cpM_s, nI_1, cpn_t hok]
      have e9 := ih (x + 1) fu (rM v (cpM M p i q j (x + 1))) (gM_rM _ _) (fun y hyx => by
        by_cases e : y = x
        · subst e; exact hok
        · exact ho y (by omega)) (fun y hyn => by
        show va_up v.2.2 3 (cpM M p i q j (x + 1)).2 16 y = _
        rw [up_ne _ _ (by decide)]
        exact hy y hyn) (by omega) (by omega)
      rw [rM_rM, rM_rM] at e9
      exact e9
    unfold fR_copyOver_96
    rw [if_neg (nI_ge (show x < n by omega) (by omega)), ekd, Option.bind_some]
    show Option.bind (fR_isNumberRow v (nI (kd M q))) _ = _
    rw [R_num v q1, Option.bind_some]
    by_cases h16 : 16 ≤ kd M q
    · have hp16 : 16 ≤ kd M p := by unfold cpOK at hk; omega
      obtain ⟨b1, b2', -⟩ := hM.2.2.2.1 p hpt hp16 (i + x) (by omega)
      rw [if_neg (show ¬ (13 ≤ kd M q ∧ kd M q ≤ 15) by omega), if_pos (show ((0 : Int32), v).1 = 0 from rfl)]
      show Option.bind (fR_kindOf v (nI q)) _ = _
      rw [ekd, Option.bind_some, ck_nI (by omega) (by decide), g_let_eq, nI_clamp (by omega)]
      show Option.bind (fR_fits v (nI (kd M q)) (v.2.2 16 x)) _ = _
      rw [hy x (by omega), b2', cp_fit hM (n := n) v hv hw hqt h16 b1, Option.bind_some]
      by_cases hz : (if pn M p (i + x) = 0 then 1 else b2 (fitk (kd M q) (kd M (pn M p (i + x) - 1)))) = (0 : Int32)
      · rw [if_pos (show ((if pn M p (i + x) = 0 then 1 else b2 (fitk (kd M q) (kd M (pn M p (i + x) - 1)))), v).1 = (0 : Int32) from hz)]
        have hz2 := (fit01 _ _).mp hz
        have hno : ¬ okc M p i q x := by
          rintro (z | z | z)
          · omega
          · exact hz2.1 z
          · rw [hz2.2] at z; cases z
        rw [cpn_f hno, if_neg (show ¬ x = n by omega), rM_self v hv]
        rfl
      · rw [if_neg (show ¬ ((if pn M p (i + x) = 0 then 1 else b2 (fitk (kd M q) (kd M (pn M p (i + x) - 1)))), v).1 = (0 : Int32) from hz)]
        refine hstep (Or.inr ?_)
        by_cases z : pn M p (i + x) = 0
        · exact Or.inl z
        · refine Or.inr ?_
          cases hb : fitk (kd M q) (kd M (pn M p (i + x) - 1))
          · exact absurd ((fit01 _ _).mpr ⟨z, hb⟩) hz
          · rfl
    · rw [if_pos (show 13 ≤ kd M q ∧ kd M q ≤ 15 by unfold cpOK at hk; omega), if_neg (show ¬ ((1 : Int32), v).1 = 0 from by show ¬ (1 : Int32) = 0; decide)]
      exact hstep (Or.inl (by omega))
/-! the class copies -/
theorem C_hmf16 {M : GH} (hM : WF M) {p i q n : Nat} (hpt : p < tc M) (hqt : q < tc M) (hp16 : 16 ≤ kd M p) (hq16 : 16 ≤ kd M q) (h1 : i + n ≤ ln M p) (w : CS) (hr : Rel (w.2.1 2) M) : ∀ (d x fu : Nat), x + d = n → d < fu → fC_S_howManyFit_16 fu w (nI p) (nI i) (nI q) (nI n) (nI x) = some (nI (cpn M p i q d x), w) := by
  have h60 := hM.1.1
  have hp12 := (hM.2.2.1 p hpt).2.2.2.1
  intro d
  induction d with
  | zero =>
    intro x fu hx hf
    obtain ⟨fu, rfl⟩ : ∃ m, fu = m + 1 := ⟨fu - 1, by omega⟩
    unfold fC_S_howManyFit_16
    rw [if_pos (nI_le (show n ≤ x by omega) (by omega))]
    rfl
  | succ d ih =>
    intro x fu hx hf
    obtain ⟨fu, rfl⟩ : ∃ m, fu = m + 1 := ⟨fu - 1, by omega⟩
    unfold fC_S_howManyFit_16
    obtain ⟨b1, -, -⟩ := hM.2.2.2.1 p hpt hp16 (i + x) (by omega)
    rw [if_neg (nI_ge (show x < n by omega) (by omega)), nI_add, C_atT w hr hM hpt hp16 (by omega), Option.bind_some]
    show Option.bind (fC_S_fits w (lN (pn M p (i + x)) - 1).toInt32 (nI q)) _ = _
    rw [lNm1, C_fitM hM w hr hqt hq16 b1, Option.bind_some]
    by_cases hz : (if pn M p (i + x) = 0 then 1 else b2 (fitk (kd M q) (kd M (pn M p (i + x) - 1)))) = (0 : Int32)
    · rw [if_pos (show ((if pn M p (i + x) = 0 then 1 else b2 (fitk (kd M q) (kd M (pn M p (i + x) - 1)))), w).1 = (0 : Int32) from hz)]
      have hz2 := (fit01 _ _).mp hz
      have hno : ¬ okc M p i q x := by
        rintro (z | z | z)
        · omega
        · exact hz2.1 z
        · rw [hz2.2] at z; cases z
      rw [cpn_f hno]
    · rw [if_neg (show ¬ ((if pn M p (i + x) = 0 then 1 else b2 (fitk (kd M q) (kd M (pn M p (i + x) - 1)))), w).1 = (0 : Int32) from hz), nI_1]
      have hok : okc M p i q x := by
        refine Or.inr ?_
        by_cases z : pn M p (i + x) = 0
        · exact Or.inl z
        · refine Or.inr ?_
          cases hb : fitk (kd M q) (kd M (pn M p (i + x) - 1))
          · exact absurd ((fit01 _ _).mpr ⟨z, hb⟩) hz
          · rfl
      rw [cpn_t hok]
      exact ih (x + 1) fu (by omega) (by omega)
theorem cpn_all {M : GH} {p i q : Nat} (h : kd M q ≤ 15) : ∀ (d x : Nat), cpn M p i q d x = x + d := by
  intro d
  induction d with
  | zero => intro x; rfl
  | succ d ih => intro x; rw [cpn_t (Or.inl h), ih]; omega
theorem C_hmf {M : GH} (hM : WF M) {p i q n : Nat} (hpt : p < tc M) (hqt : q < tc M) (hk : cpOK (kd M p) (kd M q)) (h1 : i + n ≤ ln M p) (w : CS) (hr : Rel (w.2.1 2) M) : fC_S_howManyFit w (nI p) (nI i) (nI q) (nI n) = some (nI (cpn M p i q n 0), w) := by
  have hp12 := (hM.2.2.1 p hpt).2.2.2.1
  have k1 := (hM.2.2.1 p hpt).1
  unfold fC_S_howManyFit
  rw [C_isInM w hr hM _ hpt, Option.bind_some]
  by_cases n1 : 13 ≤ kd M p ∧ kd M p ≤ 15
  · simp only [if_neg (mt (mkNR ⟨_, k1⟩).mp (fun z => z n1)), i10, if_false]
    rw [cpn_all (by unfold cpOK at hk; omega), Nat.zero_add]
  · simp only [if_pos ((mkNR ⟨_, k1⟩).mpr n1), if_true]
    rw [show (0 : Int32) = nI 0 from rfl]
    exact C_hmf16 hM hpt hqt (by unfold cpOK at hk; omega) (by unfold cpOK at hk; omega) h1 w hr n 0 g_fuel (by omega) (fuel_lt (by omega))
theorem C_move {M : GH} (hM : WF M) {p i q j m : Nat} (hpt : p < tc M) (hqt : q < tc M) (h1 : i + m ≤ ln M p) (h2 : j + m ≤ ln M q) (w : CS) (hr : Rel (w.2.1 2) M) : fC_S_movePlaces w (nI p) (nI i) (nI q) (nI j) (nI m) = some (cW w (va_cpy (w.2.1 2) (w.2.1 2) (17 + p * 23 + 11 + i) (17 + q * 23 + 11 + j) m)) := by
  have h60 := hM.1.1
  have hp12 := (hM.2.2.1 p hpt).2.2.2.1
  have hq12 := (hM.2.2.1 q hqt).2.2.2.1
  unfold fC_S_movePlaces fC_S_placeCell
  rw [C_hpsT hM w hr hpt (nat_PL hp12 h1), Option.bind_some]
  simp only [i10, if_false]
  rw [C_hpsT hM w hr hqt (nat_PL hq12 h2), Option.bind_some]
  simp only [i10, if_false, Option.bind_some, ix_P]
  unfold g_cpk
  rw [if_neg, g_let_eq, nI_clamp (by omega), nI_clamp (by omega), nI_clamp (by omega)]
  · rfl
  · rw [nI_clamp (by omega), nI_clamp (by omega), nI_clamp (by omega)]
    rintro (z | z | z | z | z)
    · exact nI_pos (by omega) z
    · exact nI_pos (by omega) z
    · exact nI_pos (by omega) z
    · omega
    · omega
def Act2c (F : RS → Option (Int32 × RS)) (G : CS → Option (Int32 × CS)) (M : GH) : Prop := ∃ r y M', WF M' ∧ Ext M M' ∧ 0 ≤ y ∧ (y ≠ 0 → y ≠ 5 → M' = M) ∧ SR F M r y M' ∧ SC G M r y M'
theorem Act2.c {F : RS → Option (Int32 × RS)} {G : CS → Option (Int32 × CS)} {M : GH} (h : Act2 F G M) : Act2c F G M := by
  obtain ⟨r, y, M', h1, e1, y1, h2, h3, h4⟩ := h
  exact ⟨r, y, M', h1, e1, y1, fun z _ => h2 z, h3, h4⟩
theorem act_copy {M : GH} (hM : WF M) (s i t j n : Int32) : Act2c (fun v => fR_copyOver v s i t j n) (fun w => fC__copyPlaces w s i t j n) M := by
  have h60 := hM.1.1
  rcases shelf_cases s with hs | ⟨a, ha, rfl⟩
  · refine (Act2.ref hM 1 (fun v hv => ?_) (fun w hr => Or.inr ?_)).c
    · simp only [fR_copyOver, R_sh_f v hs, Option.bind_some, if_true, R_ref]
    · simp only [fC__copyPlaces, C_ee1 w (Or.inl hs), Option.bind_some, i10, if_false]
  rcases shelf_cases t with ht | ⟨b, hb, rfl⟩
  · refine (Act2.ref hM 1 (fun v hv => ?_) (fun w hr => Or.inr ?_)).c
    · simp only [fR_copyOver, R_sh_t v ha, R_sh_f v ht, Option.bind_some, i10, if_false, if_true, R_ref]
    · simp only [fC__copyPlaces, C_ee1 w (Or.inr ht), Option.bind_some, i10, if_false]
  by_cases h0 : sl M a = 0 ∨ sl M b = 0
  · refine (Act2.ref hM 2 (fun v hv => ?_) (fun w hr => Or.inr ?_)).c
    · simp only [fR_copyOver, R_sh_t v ha, R_sh_t v hb, Option.bind_some, i10, if_false, R_rc2 hM v hv i j n ha hb h0, l20, R_ref]
    · simp only [fC__copyPlaces, C_ee2 hM w hr ha hb h0, Option.bind_some, i10, if_false]
  obtain ⟨p, hp, hpt⟩ := (shelfM hM ha).resolve_left (fun z => h0 (Or.inl z))
  obtain ⟨q, hq, hqt⟩ := (shelfM hM hb).resolve_left (fun z => h0 (Or.inr z))
  have k1 := (hM.2.2.1 p hpt).1
  have q1 := (hM.2.2.1 q hqt).1
  have hp12 := (hM.2.2.1 p hpt).2.2.2.1
  have hq12 := (hM.2.2.1 q hqt).2.2.2.1
  have eC : ∀ w, Rel (w.2.1 2) M → fC__copyPlaces w (nI a) i (nI b) j n = Option.bind (fC_K_isCopied (cI w 0 0) (nI (kd M p)) (nI (kd M q))) fun q51 =>
    if q51.1 = 0 then
      Option.bind (fC__refuse q51.2 (3 : Int32)) fun q59 =>
      some (q59.1, q59.2)
    else
      Option.bind (fC_S_hasPlaces q51.2 (nI p) i n) fun q72 =>
      if q72.1 = 0 then
        Option.bind (fC__refuse q72.2 (4 : Int32)) fun q96 =>
        some (q96.1, q96.2)
      else
        Option.bind (fC_S_hasPlaces q72.2 (nI q) j n) fun q88 =>
        if q88.1 = 0 then
          Option.bind (fC__refuse q88.2 (4 : Int32)) fun q96 =>
          some (q96.1, q96.2)
        else
          Option.bind (fC_S_howManyFit q88.2 (nI p) i (nI q) n) fun q111 =>
          Option.bind (fC_S_movePlaces q111.2 (nI p) i (nI q) j q111.1) fun q129 =>
          if n ≤ q111.1 then
            some (q111.1, q129)
          else
            g_let (cI q129 0 (5 : Int32)) fun w141 =>
            some (q111.1, w141) := by
    intro w hr
    unfold fC__copyPlaces
    rw [C_ee0 hM w hr ha hb hp hq hpt hqt, Option.bind_some, if_pos (show ((0 : Int32), cI w 0 0).1 = 0 from rfl)]
    show Option.bind (fC_S_onShelf (cI w 0 0) (nI a)) _ = _
    rw [C_on1 hM (cI w 0 0) hr ha hp, Option.bind_some]
    show Option.bind (fC_S_onShelf (cI w 0 0) (nI b)) _ = _
    rw [C_on1 hM (cI w 0 0) hr hb hq, Option.bind_some]
    show Option.bind (fC_S_trait (cI w 0 0) (nI p) 0) _ = _
    rw [C_kd hM (cI w 0 0) hr hpt, Option.bind_some]
    show Option.bind (fC_S_trait (cI w 0 0) (nI q) 0) _ = _
    rw [C_kd hM (cI w 0 0) hr hqt, Option.bind_some]
  have eR : ∀ v, fR_copyOver v (nI a) i (nI b) j n = Option.bind (fR_reasonOfCopy v (nI a) i (nI b) j n) fun q28 =>
      if q28.1 ≤ 0 then
        Option.bind (fR_on q28.2 (nI b)) fun q47 =>
        fR_copyOver_55 g_fuel q47.2 (nI a) i j n q47.1 (0 : Int32)
      else
        Option.bind (fR_refuse q28.2 q28.1) fun q41 =>
        some (q41.1, q41.2) := by
    intro v
    unfold fR_copyOver
    rw [R_sh_t v ha, Option.bind_some, if_neg (show ¬ ((1 : Int32), v).1 = 0 from by show ¬ (1 : Int32) = 0; decide)]
    show Option.bind (fR_isShelf v (nI b)) _ = _
    rw [R_sh_t v hb, Option.bind_some, if_neg (show ¬ ((1 : Int32), v).1 = 0 from by show ¬ (1 : Int32) = 0; decide)]
  by_cases hk : ¬ cpOK (kd M p) (kd M q)
  · refine (Act2.ref hM 3 (fun v hv => ?_) (fun w hr => Or.inr ?_)).c
    · rw [eR, (R_rcK hM v hv i j n ha hb hp hq hpt hqt).1 hk, Option.bind_some]
      rfl
    · rw [eC w hr, (C_copied (cI w 0 0) k1 q1).1 hk, Option.bind_some]
      rfl
  have hk := Classical.not_not.mp hk
  by_cases hP : ¬ (PL (ln M p) i n ∧ PL (ln M q) j n)
  · refine (Act2.ref hM 4 (fun v hv => ?_) (fun w hr => Or.inr ?_)).c
    · rw [eR, (R_rcK hM v hv i j n ha hb hp hq hpt hqt).2 hk, R_81F hM v hv ha hb hp hq hpt hqt hP, Option.bind_some]
      rfl
    · rw [eC w hr, (C_copied (cI w 0 0) k1 q1).2 hk, Option.bind_some, if_neg (show ¬ ((1 : Int32), cI w 0 0).1 = 0 from by show ¬ (1 : Int32) = 0; decide)]
      show Option.bind (fC_S_hasPlaces (cI w 0 0) (nI p) i n) _ = _
      by_cases h1 : PL (ln M p) i n
      · rw [C_hpsT hM (cI w 0 0) hr hpt h1, Option.bind_some, if_neg (show ¬ ((1 : Int32), cI w 0 0).1 = 0 from by show ¬ (1 : Int32) = 0; decide)]
        show Option.bind (fC_S_hasPlaces (cI w 0 0) (nI q) j n) _ = _
        rw [C_hpsF hM (cI w 0 0) hr hqt (fun z => hP ⟨h1, z⟩), Option.bind_some]
        rfl
      · rw [C_hpsF hM (cI w 0 0) hr hpt h1, Option.bind_some]
        rfl
  obtain ⟨hP1, hP2⟩ := Classical.not_not.mp hP
  obtain ⟨i, n, rfl, rfl, h1⟩ := PL_nat hp12 hP1
  obtain ⟨j, n', rfl, en, h2⟩ := PL_nat hq12 hP2
  have en' : n = n' := (nI_eq (by omega) (by omega)).mp en
  subst en'
  obtain ⟨c1, c2, c3⟩ := cpn_le (M := M) (p := p) (i := i) (q := q) n 0
  have hw := hM.cp hpt hqt hk h1 h2 (cpn M p i q n 0) (by omega) (fun y hy => c3 y (by omega) hy)
  refine ⟨nI (cpn M p i q n 0), if cpn M p i q n 0 = n then 0 else 5, cpM M p i q j (cpn M p i q n 0), hw, ⟨Nat.le_refl _, fun _ _ => rfl, fun k hk7 => pk_cpy_out (by omega)⟩, by split <;> decide, fun y0 y5 => ?_, fun v hv h15 => ?_, fun w hr => ?_⟩
  · by_cases e : cpn M p i q n 0 = n
    · rw [if_pos e] at y0; exact absurd rfl y0
    · rw [if_neg e] at y5; exact absurd rfl y5
  · obtain ⟨v1, e1, s1, y1⟩ := R_cp55 hM (j := j) (q := q) ha hp hpt h1 n 0 g_fuel v hv (fun y hy => absurd hy (by omega)) (by omega) (fuel_lt (by omega))
    have hv1 : gM v1 = M := by
      rw [← hv]
      show (v1.2.1 2, v1.2.2 3) = (v.2.1 2, v.2.2 3)
      rw [s1.2.1, s1.2.2 3 (by decide)]
    have e2 := R_cp96 hM hpt hqt hk h1 h2 n 0 g_fuel v1 (by rw [cpM_0]; exact hv1) (fun y hy => absurd hy (by omega)) y1 (by omega) (fuel_lt (by omega))
    have e3 : fR_copyOver v (nI a) (nI i) (nI b) (nI j) (nI n) = some (nI (cpn M p i q n 0), if cpn M p i q n 0 = n then rM v1 (cpM M p i q j n) else sI (rM v1 (cpM M p i q j (cpn M p i q n 0))) 15 5) := by
      rw [eR, (R_rcK hM v hv _ _ _ ha hb hp hq hpt hqt).2 hk, R_81T hM v hv ha hb hp hq hpt hqt hP1 hP2, Option.bind_some, if_pos (show ((0 : Int32), v).1 ≤ 0 from by show (0 : Int32) ≤ 0; decide)]
      show Option.bind (fR_on v (nI b)) _ = _
      rw [R_on1 hM v hv hb hq, Option.bind_some]
      show fR_copyOver_55 g_fuel v (nI a) (nI i) (nI j) (nI n) (nI q) (nI 0) = _
      rw [e1, e2]
    refine ⟨_, e3, ?_⟩
    by_cases e : cpn M p i q n 0 = n
    · rw [if_pos e, if_pos e, e]
      have hr0 := RSt_ok v1 (cpM M p i q j n) (by rw [s1.1]; exact h15)
      exact ⟨by rw [hr0.1, s1.1], by rw [hr0.2.1, s1.2.1], hr0.2.2.1, fun k hk3 hk16 => (hr0.2.2.2 k hk3 hk16).trans (s1.2.2 k hk16)⟩
    · rw [if_neg e, if_neg e]
      have hr0 := RSt_ok v1 (cpM M p i q j (cpn M p i q n 0)) (by rw [s1.1]; exact h15)
      exact ⟨by show va_up v1.1 15 5 = _; rw [s1.1], by show (rM v1 _).2.1 = _; rw [hr0.2.1, s1.2.1], hr0.2.2.1, fun k hk3 hk16 => (hr0.2.2.2 k hk3 hk16).trans (s1.2.2 k hk16)⟩
  · have hrel := hr.cp hM hpt hqt hk h1 h2 (show cpn M p i q n 0 ≤ n by omega)
    have e3 : fC__copyPlaces w (nI a) (nI i) (nI b) (nI j) (nI n) = some (nI (cpn M p i q n 0), if cpn M p i q n 0 = n then cW (cI w 0 0) (va_cpy (w.2.1 2) (w.2.1 2) (17 + p * 23 + 11 + i) (17 + q * 23 + 11 + j) (cpn M p i q n 0)) else cI (cW (cI w 0 0) (va_cpy (w.2.1 2) (w.2.1 2) (17 + p * 23 + 11 + i) (17 + q * 23 + 11 + j) (cpn M p i q n 0))) 0 5) := by
      rw [eC w hr, (C_copied (cI w 0 0) k1 q1).2 hk, Option.bind_some, if_neg (show ¬ ((1 : Int32), cI w 0 0).1 = 0 from by show ¬ (1 : Int32) = 0; decide)]
      show Option.bind (fC_S_hasPlaces (cI w 0 0) (nI p) (nI i) (nI n)) _ = _
      rw [C_hpsT hM (cI w 0 0) hr hpt hP1, Option.bind_some, if_neg (show ¬ ((1 : Int32), cI w 0 0).1 = 0 from by show ¬ (1 : Int32) = 0; decide)]
      show Option.bind (fC_S_hasPlaces (cI w 0 0) (nI q) (nI j) (nI n)) _ = _
      rw [C_hpsT hM (cI w 0 0) hr hqt hP2, Option.bind_some, if_neg (show ¬ ((1 : Int32), cI w 0 0).1 = 0 from by show ¬ (1 : Int32) = 0; decide)]
      show Option.bind (fC_S_howManyFit (cI w 0 0) (nI p) (nI i) (nI q) (nI n)) _ = _
      rw [C_hmf hM hpt hqt hk h1 (cI w 0 0) hr, Option.bind_some]
      show Option.bind (fC_S_movePlaces (cI w 0 0) (nI p) (nI i) (nI q) (nI j) (nI (cpn M p i q n 0))) _ = _
      rw [C_move hM hpt hqt (by omega) (by omega) (cI w 0 0) hr, Option.bind_some]
      by_cases e : cpn M p i q n 0 = n
      · rw [if_pos e, if_pos (show nI n ≤ (nI (cpn M p i q n 0), cI w 0 0).1 from nI_le (a := n) (b := cpn M p i q n 0) (by omega) (by omega))]
        rfl
      · rw [if_neg e, if_neg (show ¬ nI n ≤ (nI (cpn M p i q n 0), cI w 0 0).1 from nI_ge (a := cpn M p i q n 0) (b := n) (by omega) (by omega))]
        rfl
    refine ⟨_, e3, ?_⟩
    have h0 := CSt_ok w hrel
    by_cases e : cpn M p i q n 0 = n
    · rw [if_pos e, if_pos e]
      exact h0
    · rw [if_neg e, if_neg e]
      exact ⟨cI_same _ _ _, fun k hk0 hk2 => (cI_ne _ _ hk0).trans (h0.2.1 k hk0 hk2), h0.2.2.1, h0.2.2.2.1, h0.2.2.2.2⟩
