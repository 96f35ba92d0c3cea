/-! PURE 16: copy -/
def PL (n : Nat) (i k : Int32) : Prop := ¬ i < 0 ∧ ¬ k < 0 ∧ ¬ 0 < lg_cmp (i.toInt64 + k.toInt64) (nI n).toInt64
theorem lgpos (x y : Int64) : (0 < lg_cmp x y) ↔ y < x := by
  unfold lg_cmp
  by_cases h1 : y < x
  · rw [if_pos h1]; exact ⟨fun _ => h1, fun _ => by decide⟩
  · rw [if_neg h1]
    by_cases h2 : x = y
    · rw [if_pos h2]; exact ⟨fun z => absurd z (by decide), fun z => absurd z h1⟩
    · rw [if_neg h2]; exact ⟨fun z => absurd z (by decide), fun z => absurd z h1⟩
theorem i32_le0 (x : Int32) : (x ≤ 0) ↔ ¬ 0 < x := by
  constructor
  · intro h z
    have h1 := Int32.le_iff_toInt_le.mp h
    have h2 := Int32.lt_iff_toInt_lt.mp z
    omega
  · intro h
    have h2 := mt Int32.lt_iff_toInt_lt.mpr h
    exact Int32.le_iff_toInt_le.mpr (by omega)
theorem i32_ge0 (x : Int32) : (0 ≤ x) ↔ ¬ x < 0 := by
  constructor
  · intro h z
    have h1 := Int32.le_iff_toInt_le.mp h
    have h2 := Int32.lt_iff_toInt_lt.mp z
    omega
  · intro h
    have h2 := mt Int32.lt_iff_toInt_lt.mpr h
    exact Int32.le_iff_toInt_le.mpr (by omega)
theorem PL_nat {n : Nat} (hn : n ≤ 12) {i k : Int32} (h : PL n i k) : ∃ a b : Nat, i = nI a ∧ k = nI b ∧ a + b ≤ n := by
  obtain ⟨h1, h2, h3⟩ := h
  have z0 : (0 : Int32).toInt = 0 := by decide
  have a1 := mt Int32.lt_iff_toInt_lt.mpr h1
  have a2 := mt Int32.lt_iff_toInt_lt.mpr h2
  have a3 := mt (lgpos _ _).mpr h3
  have b1 := Int32.toInt_lt i
  have b2 := Int32.toInt_lt k
  have a4 := mt Int64.lt_iff_toInt_lt.mpr a3
  rw [Int64.toInt_add, Int32.toInt_toInt64, Int32.toInt_toInt64, Int32.toInt_toInt64, nI_toInt (by omega)] at a4
  have e : Int.bmod (i.toInt + k.toInt) (2 ^ 64) = i.toInt + k.toInt := by apply Int.bmod_eq_of_le <;> omega
  rw [e] at a4
  refine ⟨i.toInt.toNat, k.toInt.toNat, ?_, ?_, by omega⟩
  · apply Int32.toInt_inj.mp
    rw [nI_toInt (by omega)]
    omega
  · apply Int32.toInt_inj.mp
    rw [nI_toInt (by omega)]
    omega
theorem nat_PL {n a b : Nat} (hn : n ≤ 12) (h : a + b ≤ n) : PL n (nI a) (nI b) := by
  refine ⟨nI_pos (by omega), nI_pos (by omega), fun z => ?_⟩
  have z1 := (lgpos _ _).mp z
  rw [nI_l (by omega), nI_l (by omega), nI_l (by omega)] at z1
  have z2 := Int64.lt_iff_toInt_lt.mp z1
  rw [Int64.toInt_add, lN_toInt (by omega), lN_toInt (by omega), lN_toInt (by omega)] at z2
  have e : Int.bmod ((a : Int) + (b : Int)) (2 ^ 64) = (a : Int) + (b : Int) := by apply Int.bmod_eq_of_le <;> omega
  rw [e] at z2
  omega
theorem C_hpsT {M : GH} (hM : WF M) (w : CS) (hr : Rel (w.2.1 2) M) {p : Nat} {i k : Int32} (hp : p < tc M) (h : PL (ln M p) i k) : fC_S_hasPlaces w (nI p) i k = some (1, w) := by
  have := hM.1.1
  unfold fC_S_hasPlaces
  rw [if_neg h.1, if_neg h.2.1]
  show Option.bind (fC_S_trait w (nI p) (nI 10)) _ = _
  rw [C_trait w (by omega) (by decide), Option.bind_some, hr.len (by omega), (hM.2.2.1 p hp).2.2.2.2.1]
  exact if_neg h.2.2
theorem C_hpsF {M : GH} (hM : WF M) (w : CS) (hr : Rel (w.2.1 2) M) {p : Nat} {i k : Int32} (hp : p < tc M) (h : ¬ PL (ln M p) i k) : fC_S_hasPlaces w (nI p) i k = some (0, w) := by
  have := hM.1.1
  unfold fC_S_hasPlaces
  by_cases h1 : i < 0
  · rw [if_pos h1]
  · rw [if_neg h1]
    by_cases h2 : k < 0
    · rw [if_pos h2]
    · rw [if_neg h2]
      show Option.bind (fC_S_trait w (nI p) (nI 10)) _ = _
      rw [C_trait w (by omega) (by decide), Option.bind_some, hr.len (by omega), (hM.2.2.1 p hp).2.2.2.2.1]
      exact if_pos (Decidable.not_not.mp (fun z => h ⟨h1, h2, z⟩))
theorem R_81T {M : GH} (hM : WF M) (v : RS) (hv : gM v = M) {a b p q : Nat} {i j k : Int32} (ha : a < 16) (hb : b < 16) (hp : sl M a = p + 1) (hq : sl M b = q + 1) (hpt : p < tc M) (hqt : q < tc M) (h1 : PL (ln M p) i k) (h2 : PL (ln M q) j k) : fR_reasonOfCopy_81 v (nI a) i (nI b) j k = some (0, v) := by
  unfold fR_reasonOfCopy_81
  rw [if_neg h1.1, if_neg h2.1, if_pos ((i32_ge0 _).mpr h1.2.1), R_on1 hM v hv ha hp, Option.bind_some, R_ln hM v hv hpt, Option.bind_some, if_neg h1.2.2, R_on1 hM v hv hb hq, Option.bind_some, R_ln hM v hv hqt, Option.bind_some, if_pos ((i32_le0 _).mpr h2.2.2)]
theorem R_81F {M : GH} (hM : WF M) (v : RS) (hv : gM v = M) {a b p q : Nat} {i j k : Int32} (ha : a < 16) (hb : b < 16) (hp : sl M a = p + 1) (hq : sl M b = q + 1) (hpt : p < tc M) (hqt : q < tc M) (h : ¬ (PL (ln M p) i k ∧ PL (ln M q) j k)) : fR_reasonOfCopy_81 v (nI a) i (nI b) j k = some (4, v) := by
  unfold fR_reasonOfCopy_81
  by_cases h1 : i < 0
  · rw [if_pos h1]
  rw [if_neg h1]
  by_cases h2 : j < 0
  · rw [if_pos h2]
  rw [if_neg h2]
  by_cases h3 : k < 0
  · rw [if_neg (fun z => (i32_ge0 _).mp z h3)]
  rw [if_pos ((i32_ge0 _).mpr h3), R_on1 hM v hv ha hp, Option.bind_some, R_ln hM v hv hpt, Option.bind_some]
  by_cases h4 : 0 < lg_cmp (i.toInt64 + k.toInt64) (nI (ln M p)).toInt64
  · rw [if_pos h4]
  rw [if_neg h4, R_on1 hM v hv hb hq, Option.bind_some, R_ln hM v hv hqt, Option.bind_some, if_neg (fun z => h ⟨⟨h1, h3, h4⟩, ⟨h2, h3, (i32_le0 _).mp z⟩⟩)]
def cpOK (ks kt : Nat) : Prop := (13 ≤ ks ∧ ks ≤ 15 ∧ ks = kt) ∨ (16 ≤ ks ∧ 16 ≤ kt)
theorem R_rc2 {M : GH} (hM : WF M) (v : RS) (hv : gM v = M) {a b : Nat} (i j k : Int32) (ha : a < 16) (hb : b < 16) (h : sl M a = 0 ∨ sl M b = 0) : fR_reasonOfCopy v (nI a) i (nI b) j k = some (2, v) := by
  have h60 := hM.1.1
  unfold fR_reasonOfCopy
  rcases shelfM hM ha with h0 | ⟨p, hp, hpt⟩
  · rw [R_on0 hM v hv ha h0, Option.bind_some]
    simp only [m1neg, if_true]
  · rw [R_on1 hM v hv ha hp, Option.bind_some]
    simp only [nIneg (show p < 2 ^ 31 by omega), if_false]
    rw [R_on0 hM v hv hb (h.resolve_left (by omega)), Option.bind_some]
    simp only [m1le, if_false]
theorem R_rcK {M : GH} (hM : WF M) (v : RS) (hv : gM v = M) {a b p q : Nat} (i j k : Int32) (ha : a < 16) (hb : b < 16) (hp : sl M a = p + 1) (hq : sl M b = q + 1) (hpt : p < tc M) (hqt : q < tc M) : (¬ cpOK (kd M p) (kd M q) → fR_reasonOfCopy v (nI a) i (nI b) j k = some (3, v)) ∧ (cpOK (kd M p) (kd M q) → fR_reasonOfCopy v (nI a) i (nI b) j k = fR_reasonOfCopy_81 v (nI a) i (nI b) j k) := by
  have h60 := hM.1.1
  have k1 := (hM.2.2.1 p hpt).1
  have q1 := (hM.2.2.1 q hqt).1
  unfold fR_reasonOfCopy
  rw [R_on1 hM v hv ha hp, Option.bind_some]
  simp only [nIneg (show p < 2 ^ 31 by omega), if_false]
  rw [R_on1 hM v hv hb hq, Option.bind_some]
  simp only [nIge0 (show q < 2 ^ 31 by omega), if_true]
  rw [R_on1 hM v hv ha hp, Option.bind_some]
  show ((_ → Option.bind (fR_kindOf v (nI p)) _ = _) ∧ (_ → Option.bind (fR_kindOf v (nI p)) _ = _))
  rw [R_kd hM v hv hpt, Option.bind_some]
  show ((_ → Option.bind (fR_on v (nI b)) _ = _) ∧ (_ → Option.bind (fR_on v (nI b)) _ = _))
  rw [R_on1 hM v hv hb hq, Option.bind_some]
  show ((_ → Option.bind (fR_kindOf v (nI q)) _ = _) ∧ (_ → Option.bind (fR_kindOf v (nI q)) _ = _))
  rw [R_kd hM v hv hqt, Option.bind_some]
  unfold cpOK fR_reasonOfCopy_72
  by_cases h13 : kd M p < 13
  · rw [if_pos (show (nI (kd M p), v).1 < 13 from nI_lt (a := kd M p) (b := 13) h13 (by decide))]
    exact ⟨fun _ => rfl, fun z => by omega⟩
  rw [if_neg (show ¬ (nI (kd M p), v).1 < 13 from nI_nlt (a := kd M p) (b := 13) (by omega) (by omega))]
  by_cases q13 : kd M q < 13
  · rw [if_neg (show ¬ 13 ≤ (nI (kd M q), v).1 from nI_ge (a := kd M q) (b := 13) q13 (by decide))]
    exact ⟨fun _ => rfl, fun z => by omega⟩
  rw [if_pos (show 13 ≤ (nI (kd M q), v).1 from nI_le (a := 13) (b := kd M q) (by omega) (by omega))]
  show ((_ → Option.bind (fR_isNumberRow v (nI (kd M p))) _ = _) ∧ (_ → Option.bind (fR_isNumberRow v (nI (kd M p))) _ = _))
  rw [R_num v k1, Option.bind_some]
  by_cases e : kd M p = kd M q
  · have e' : nI (kd M p) = nI (kd M q) := by rw [e]
    by_cases n1 : 13 ≤ kd M p ∧ kd M p ≤ 15
    · rw [if_pos n1, if_neg (show ¬ ((1 : Int32), v).1 = 0 from by show ¬ (1 : Int32) = 0; decide), if_pos e']
      exact ⟨fun z => absurd (Or.inl ⟨n1.1, n1.2, e⟩) z, fun _ => rfl⟩
    · rw [if_neg n1, if_pos (show ((0 : Int32), v).1 = 0 from rfl)]
      show ((_ → Option.bind (fR_isNumberRow v (nI (kd M q))) _ = _) ∧ (_ → Option.bind (fR_isNumberRow v (nI (kd M q))) _ = _))
      rw [R_num v q1, Option.bind_some, if_neg (show ¬ (13 ≤ kd M q ∧ kd M q ≤ 15) by omega), if_pos (show ((0 : Int32), v).1 = 0 from rfl)]
      exact ⟨fun z => absurd (Or.inr ⟨by omega, by omega⟩) z, fun _ => rfl⟩
  · have e' : ¬ nI (kd M p) = nI (kd M q) := fun z => e ((nI_eq (by omega) (by omega)).mp z)
    by_cases n1 : 13 ≤ kd M p ∧ kd M p ≤ 15
    · rw [if_pos n1, if_neg (show ¬ ((1 : Int32), v).1 = 0 from by show ¬ (1 : Int32) = 0; decide), if_neg e']
      exact ⟨fun _ => rfl, fun z => by omega⟩
    · rw [if_neg n1, if_pos (show ((0 : Int32), v).1 = 0 from rfl)]
      show ((_ → Option.bind (fR_isNumberRow v (nI (kd M q))) _ = _) ∧ (_ → Option.bind (fR_isNumberRow v (nI (kd M q))) _ = _))
      rw [R_num v q1, Option.bind_some]
      by_cases n2 : 13 ≤ kd M q ∧ kd M q ≤ 15
      · rw [if_pos n2, if_neg (show ¬ ((1 : Int32), v).1 = 0 from by show ¬ (1 : Int32) = 0; decide), if_neg e']
        exact ⟨fun _ => rfl, fun z => by omega⟩
      · rw [if_neg n2, if_pos (show ((0 : Int32), v).1 = 0 from rfl)]
        exact ⟨fun z => absurd (Or.inr ⟨by omega, by omega⟩) z, fun _ => rfl⟩
theorem C_copied (w : CS) {k q : Nat} (hk : k < 25) (hq : q < 25) : (¬ cpOK k q → fC_K_isCopied w (nI k) (nI q) = some (0, w)) ∧ (cpOK k q → fC_K_isCopied w (nI k) (nI q) = some (1, w)) := by
  unfold fC_K_isCopied cpOK
  rw [C_under w _ hk, Option.bind_some]
  by_cases n1 : 13 ≤ k ∧ k ≤ 15
  · simp only [if_neg (mt (mkNR ⟨k, hk⟩).mp (fun z => z n1)), i10, if_false]
    by_cases e : k = q
    · rw [if_pos (by rw [e])]
      exact ⟨fun z => absurd (Or.inl ⟨n1.1, n1.2, e⟩) z, fun _ => rfl⟩
    · rw [if_neg (fun z => e ((nI_eq (by omega) (by omega)).mp z))]
      exact ⟨fun _ => rfl, fun z => by omega⟩
  · simp only [if_pos ((mkNR ⟨k, hk⟩).mpr n1), if_true]
    rw [C_under w _ hk, Option.bind_some]
    by_cases h16 : 16 ≤ k
    · simp only [if_neg (mt (mkRT ⟨k, hk⟩).mp (fun z => z h16)), i10, if_false]
      rw [C_under w _ hq, Option.bind_some]
      by_cases q16 : 16 ≤ q
      · simp only [if_neg (mt (mkRT ⟨q, hq⟩).mp (fun z => z q16)), i10, if_false]
        exact ⟨fun z => absurd (Or.inr ⟨h16, q16⟩) z, fun _ => trivial⟩
      · simp only [if_pos ((mkRT ⟨q, hq⟩).mpr q16), if_true]
        exact ⟨fun _ => trivial, fun z => by omega⟩
    · simp only [if_pos ((mkRT ⟨k, hk⟩).mpr h16), if_true]
      exact ⟨fun _ => trivial, fun z => by omega⟩
