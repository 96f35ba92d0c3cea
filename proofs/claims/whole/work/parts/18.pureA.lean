/-! PURE 1: numbers, kinds -/
theorem lit32 (n : Nat) : (OfNat.ofNat n : Int32) = nI n := rfl
theorem ck_nI {α : Type} {j n : Nat} (h : j < n) (hn : n < 2 ^ 31) (k : Option α) : g_ck (nI j) n k = k := by
  unfold g_ck
  rw [if_neg (vp_in_nI h hn)]
theorem g_let_eq {α β : Type} (v : α) (k : α → Option β) : g_let v k = k v := rfl
theorem up_same {α : Type} (f : Nat → α) (k : Nat) (x : α) : va_up f k x k = x := by unfold va_up; rw [if_pos rfl]
theorem up_ne {α : Type} (f : Nat → α) {k j : Nat} (x : α) (h : j ≠ k) : va_up f k x j = f j := by unfold va_up; rw [if_neg h]
theorem upd_same (f : Nat → Int32) (k : Nat) (x : Int32) : upd f k x k = x := pk_us
theorem upd_ne (f : Nat → Int32) {k j : Nat} (x : Int32) (h : j ≠ k) : upd f k x j = f j := pk_un h
theorem updL_same (f : Nat → Int64) (k : Nat) (x : Int64) : vp_updL f k x k = x := pk_uLs
theorem updL_ne (f : Nat → Int64) {k j : Nat} (x : Int64) (h : j ≠ k) : vp_updL f k x j = f j := pk_uLn h
/-- a shelf's number, or none -/
theorem shelf_cases (s : Int32) : (s < 0 ∨ 15 < s) ∨ ∃ j : Nat, j < 16 ∧ s = nI j := by
  rcases pk_ix s (n := 16) (by decide) with h | h | h
  · exact Or.inl (Or.inl h)
  · refine Or.inl (Or.inr ?_)
    have h1 : (nI 16).toInt ≤ s.toInt := Int32.le_iff_toInt_le.mp h
    have h2 : (nI 16).toInt = 16 := by decide
    refine Int32.lt_iff_toInt_lt.mpr ?_
    have h3 : (15 : Int32).toInt = 15 := by decide
    omega
  · exact Or.inr h
def maskL : List Nat := [1, 3, 7, 15, 31, 33, 97, 225, 481, 513, 5633, 6144, 4096, 8192, 16384, 32768, 65536, 131072, 393216, 917504, 1179648, 2097152, 6422528, 8388608, 25165824]
/-- a kind under a kind -/
def under (k o : Nat) : Bool := (maskL.getD k 0 / 2 ^ o) % 2 == 1
def b2 (b : Bool) : Int32 := if b then 1 else 0
def fst? {α β : Type} (x : Option (α × β)) : Option α := x.map (fun q => q.1)
theorem ind_ck {v : RS} {i : Int32} {n : Nat} {x y : Option (Int32 × RS)} (h : x = (fst? y).map (fun r => (r, v))) : g_ck i n x = (fst? (g_ck i n y)).map (fun r => (r, v)) := by
  unfold g_ck
  by_cases hc : i < 0 ∨ n ≤ i.toNatClampNeg
  · rw [if_pos hc, if_pos hc]; rfl
  · rw [if_neg hc, if_neg hc]; exact h
theorem ind_ite {v : RS} {c : Prop} {d : Decidable c} {x y x' y' : Option (Int32 × RS)} (h1 : x = (fst? x').map (fun r => (r, v))) (h2 : y = (fst? y').map (fun r => (r, v))) : @ite _ c d x y = (fst? (@ite _ c d x' y')).map (fun r => (r, v)) := by
  by_cases hc : c
  · rw [if_pos hc, if_pos hc]; exact h1
  · rw [if_neg hc, if_neg hc]; exact h2
theorem ind_bind {v : RS} {x y : Option (Int32 × RS)} {k k' : Int32 × RS → Option (Int32 × RS)} (h : x = (fst? y).map (fun r => (r, v))) (hk : ∀ r (u : RS), k (r, v) = (fst? (k' (r, u))).map (fun r => (r, v))) : x.bind k = (fst? (y.bind k')).map (fun r => (r, v)) := by
  subst h
  cases y with
  | none => rfl
  | some q => obtain ⟨r, u⟩ := q; exact hk r u
theorem ind_some {v u : RS} (r : Int32) : some (r, v) = (fst? (some (r, u))).map (fun r => (r, v)) := rfl
theorem ind_bool {v : RS} {b : Int32} {x y : Option (Int32 × RS)} (h : x = (fst? y).map (fun r => (r, v))) : g_bool b x = (fst? (g_bool b y)).map (fun r => (r, v)) := ind_ite h rfl
theorem ind_let {v : RS} {α : Type} {a : α} {k k' : α → Option (Int32 × RS)} (h : k a = (fst? (k' a)).map (fun r => (r, v))) : g_let a k = (fst? (g_let a k')).map (fun r => (r, v)) := h
theorem ind_pu19 (n : Nat) (v u : RS) (x2 x3 x4 : Int32) : fR_isPartUnder_19 n v x2 x3 x4 = (fst? (fR_isPartUnder_19 n u x2 x3 x4)).map (fun r => (r, v)) := by
  induction n generalizing x3 x4 with
  | zero => rfl
  | succ n ih =>
    unfold fR_isPartUnder_19
    exact ind_ite (ind_some _) (ind_ite (ind_some _) (ind_ite (ind_some _) (ind_ck (ind_let (ih _ _)))))
theorem ind_pu14 (v u : RS) (x1 x2 : Int32) : fR_isPartUnder_14 v x1 x2 = (fst? (fR_isPartUnder_14 u x1 x2)).map (fun r => (r, v)) := ind_pu19 _ v u _ _ _
theorem ind_pu (v u : RS) (x1 x2 : Int32) : fR_isPartUnder v x1 x2 = (fst? (fR_isPartUnder u x1 x2)).map (fun r => (r, v)) := by
  unfold fR_isPartUnder
  exact ind_ite (ind_ite (ind_some _) (ind_pu14 v u _ _)) (ind_pu14 v u _ _)
theorem ind_rowOf (v u : RS) (x : Int32) : fR_isRowOf v x = (fst? (fR_isRowOf u x)).map (fun r => (r, v)) := ind_ite (ind_some _) (ind_ite (ind_some _) (ind_some _))
theorem ind_board (v u : RS) (x : Int32) : fR_isBoard v x = (fst? (fR_isBoard u x)).map (fun r => (r, v)) := ind_ite (ind_some _) (ind_ite (ind_some _) (ind_some _))
theorem ind_mem (v u : RS) (x : Int32) : fR_memberOf v x = (fst? (fR_memberOf u x)).map (fun r => (r, v)) := ind_ck (ind_let (ind_some _))
theorem ind_un54 (v u : RS) (x1 x2 : Int32) : fR_isUnder_54 v x1 x2 = (fst? (fR_isUnder_54 u x1 x2)).map (fun r => (r, v)) :=
  ind_bind (ind_mem v u _) (fun _ u1 => ind_bind (ind_mem v u1 _) (fun _ u2 => ind_bind (ind_pu v u2 _ _) (fun _ _ => ind_bool (ind_some _))))
theorem ind_un40 (v u : RS) (x1 x2 : Int32) : fR_isUnder_40 v x1 x2 = (fst? (fR_isUnder_40 u x1 x2)).map (fun r => (r, v)) :=
  ind_bind (ind_board v u _) (fun _ u1 => ind_ite (ind_some _) (ind_bind (ind_board v u1 _) (fun _ u2 => ind_ite (ind_some _) (ind_un54 v u2 _ _))))
theorem ind_un26 (v u : RS) (x1 x2 : Int32) : fR_isUnder_26 v x1 x2 = (fst? (fR_isUnder_26 u x1 x2)).map (fun r => (r, v)) :=
  ind_bind (ind_rowOf v u _) (fun _ u1 => ind_ite (ind_un40 v u1 _ _) (ind_bind (ind_rowOf v u1 _) (fun _ u2 => ind_ite (ind_un40 v u2 _ _) (ind_un54 v u2 _ _))))
theorem ind_under (v u : RS) (x1 x2 : Int32) : fR_isUnder v x1 x2 = (fst? (fR_isUnder u x1 x2)).map (fun r => (r, v)) :=
  ind_ite (ind_some _) (ind_ite (ind_un26 v u _ _) (ind_ite (ind_un26 v u _ _) (ind_bind (ind_pu v u _ _) (fun _ _ => ind_bool (ind_some _)))))
theorem under_tab : ∀ k : Fin 25, ∀ o : Fin 25, fst? (fR_isUnder rs0 (nI k.val) (nI o.val)) = some (b2 (under k.val o.val)) := by decide +kernel
theorem R_isUnder (v : RS) {k o : Nat} (hk : k < 25) (ho : o < 25) : fR_isUnder v (nI k) (nI o) = some (b2 (under k o), v) := by
  rw [ind_under v rs0, under_tab ⟨k, hk⟩ ⟨o, ho⟩]
  rfl
theorem memb_tab : ∀ k : Fin 8, fst? (fR_memberOf rs0 (nI (k.val + 17))) = some (rMembers k.val) := by decide +kernel
theorem R_isPart (v : RS) {k : Nat} (hk : k < 25) : fR_isPart v (nI k) = some (b2 (under k 0), v) := by
  unfold fR_isPart
  rw [show (0 : Int32) = nI 0 from rfl, R_isUnder v hk (by decide)]
  cases under k 0 <;> rfl
def played (k : Nat) : Bool := under k 0 || under k 17 || under k 23
theorem R_isPlayed (v : RS) {k : Nat} (hk : k < 25) : fR_isPlayed v (nI k) = some (b2 (played k), v) := by
  unfold fR_isPlayed
  rw [R_isPart v hk]
  show Option.bind (some (b2 (under k 0), v)) _ = _
  unfold played
  cases h0 : under k 0
  · show (Option.bind (fR_isUnder v (nI k) (nI 17)) _) = _
    rw [R_isUnder v hk (by decide)]
    cases h1 : under k 17
    · show (Option.bind (fR_isUnder v (nI k) (nI 23)) _) = _
      rw [R_isUnder v hk (by decide)]
      cases h2 : under k 23 <;> rfl
    · rfl
  · rfl
