/-! PURE 6: playing and resting, both sides -/
theorem fuel_lt {d : Nat} (h : d < 5000) : d < g_fuel := h
theorem R_board (v : RS) {k : Nat} (hk : k < 25) : fR_isBoard v (nI k) = some (if k = 23 ∨ k = 24 then 1 else 0, v) := by
  unfold fR_isBoard
  by_cases h : k = 23
  · rw [if_pos ((eqk hk (by decide)).mpr h), if_pos (Or.inl h)]
  · rw [if_neg (mt (eqk hk (by decide)).mp h)]
    by_cases h2 : k = 24
    · rw [if_pos ((eqk hk (by decide)).mpr h2), if_pos (Or.inr h2)]
    · rw [if_neg (mt (eqk hk (by decide)).mp h2), if_neg (fun z => z.elim h h2)]
theorem fit_tab : ∀ K : Fin 25, ∀ k : Fin 25, 17 ≤ K.val → fitk K.val k.val = true → (K.val ≤ 22 → K.val ≠ 21 → under k.val 0 = true) ∧ (K.val = 21 → k.val = 10 ∨ k.val = 11 ∨ k.val = 12) ∧ (23 ≤ K.val → 17 ≤ k.val ∧ k.val ≤ 22 ∧ k.val ≠ 21) := by decide +kernel
theorem played_tab : ∀ k : Fin 25, played k.val = true ↔ (k.val ≤ 10 ∨ (17 ≤ k.val ∧ k.val ≠ 21)) := by decide +kernel
theorem R_playRow (v : RS) {M : GH} (hM : WF M) {g : Nat → Int32} (hs : SkE M.1 g) (h2 : v.2.2 3 = M.2) {u : Nat} (hu : u < tc M) (hk : 16 ≤ kd M u) (x : Int32) : fR_playRow (rS v g) (nI u) x = some ((foldT (rowFrom M u (ln M u) 0) g x).1, rS v (foldT (rowFrom M u (ln M u) 0) g x).2) := by
  have h60 := hM.1.1
  obtain ⟨-, -, -, a4, a5, -⟩ := hM.2.2.1 u hu
  unfold fR_playRow
  exact R_row5 v (by omega) M (ln M u) a4 h2 (fun i hi => by obtain ⟨b1, b2, -⟩ := hM.2.2.2.1 u hu hk i hi; exact ⟨by omega, b2⟩) (ln M u) 0 g_fuel g x (by rw [hs _ (by omega)]; exact a5) (by omega) (fuel_lt (by omega))
theorem foldT_sk (l : List Nat) (hl : ∀ p ∈ l, p < 60) (g : Nat → Int32) (x : Int32) : SkE g (foldT l g x).2 := by
  induction l generalizing g x with
  | nil => exact SkE.rf g
  | cons p l ih => exact (spT_sk g x (hl p (List.mem_cons_self))).tr (ih (fun q hq => hl q (List.mem_cons_of_mem _ hq)) _ _)
theorem row_mem {M : GH} (hM : WF M) {u : Nat} (hu : u < tc M) (hk : 16 ≤ kd M u) : ∀ (d i : Nat), i + d ≤ ln M u → ∀ p ∈ rowFrom M u d i, p < tc M ∧ fitk (kd M u) (kd M p) = true := by
  intro d
  induction d with
  | zero => intro i _ p hp; cases hp
  | succ d ih =>
    intro i hi p hp
    unfold rowFrom at hp
    obtain ⟨b1, -, b3⟩ := hM.2.2.2.1 u hu hk i (by omega)
    by_cases hz : pn M u i = 0
    · rw [if_pos hz] at hp
      exact ih (i + 1) (by omega) p hp
    · rw [if_neg hz] at hp
      rcases List.mem_cons.mp hp with rfl | hp
      · exact ⟨by omega, b3 hz⟩
      · exact ih (i + 1) (by omega) p hp
theorem row_len {M : GH} {u : Nat} : ∀ (d i : Nat), (rowFrom M u d i).length ≤ d := by
  intro d
  induction d with
  | zero => intro i; exact Nat.le_refl _
  | succ d ih =>
    intro i
    unfold rowFrom
    have := ih (i + 1)
    split
    · omega
    · simp only [List.length_cons]; omega
/-- of a board: the rows at its places -/
theorem board_row {M : GH} (hM : WF M) {t : Nat} (ht : t < tc M) (hk : kd M t = 23 ∨ kd M t = 24) {i : Nat} (hi : i < ln M t) (hz : pn M t i ≠ 0) : pn M t i - 1 < tc M ∧ 17 ≤ kd M (pn M t i - 1) ∧ kd M (pn M t i - 1) ≤ 22 ∧ kd M (pn M t i - 1) ≠ 21 := by
  obtain ⟨b1, -, b3⟩ := hM.2.2.2.1 t ht (by omega) i hi
  obtain ⟨c1, -⟩ := hM.2.2.1 (pn M t i - 1) (by omega)
  obtain ⟨c2, -⟩ := hM.2.2.1 t ht
  have := (fit_tab ⟨kd M t, c2⟩ ⟨_, c1⟩ (show 17 ≤ kd M t by omega) (b3 hz)).2.2 (show 23 ≤ kd M t by omega)
  exact ⟨by omega, this⟩
theorem plist_mem {M : GH} (hM : WF M) {t : Nat} (ht : t < tc M) (hp : played (kd M t) = true) : ∀ p ∈ plist M t, p < tc M ∧ under (kd M p) 0 = true := by
  intro p hm
  obtain ⟨c2, -⟩ := hM.2.2.1 t ht
  have rowp : ∀ u, u < tc M → 17 ≤ kd M u → kd M u ≤ 22 → kd M u ≠ 21 → ∀ q ∈ rowFrom M u (ln M u) 0, q < tc M ∧ under (kd M q) 0 = true := by
    intro u hu h1 h2 h3 q hq
    obtain ⟨d1, d2⟩ := row_mem hM hu (by omega) (ln M u) 0 (by omega) q hq
    obtain ⟨c1, -⟩ := hM.2.2.1 q d1
    obtain ⟨c3, -⟩ := hM.2.2.1 u hu
    exact ⟨d1, (fit_tab ⟨kd M u, c3⟩ ⟨kd M q, c1⟩ h1 d2).1 h2 h3⟩
  unfold plist at hm
  have hpl := (played_tab ⟨kd M t, c2⟩).mp hp
  have hpl : kd M t ≤ 10 ∨ (17 ≤ kd M t ∧ kd M t ≠ 21) := hpl
  by_cases h0 : under (kd M t) 0 = true
  · rw [if_pos h0] at hm
    cases List.mem_singleton.mp hm
    exact ⟨ht, h0⟩
  · have h10 : ¬ kd M t ≤ 10 := fun z => h0 ((part_kind ⟨kd M t, c2⟩).mpr z)
    rw [if_neg h0] at hm
    by_cases hb : kd M t = 23 ∨ kd M t = 24
    · rw [if_pos hb] at hm
      have key : ∀ (d i : Nat), i + d ≤ ln M t → p ∈ boardFrom M t d i → p < tc M ∧ under (kd M p) 0 = true := by
        intro d
        induction d with
        | zero => intro i _ hh; cases hh
        | succ d ih =>
          intro i hi hh
          unfold boardFrom at hh
          by_cases hz : pn M t i = 0
          · rw [if_pos hz] at hh
            exact ih (i + 1) (by omega) hh
          · rw [if_neg hz] at hh
            obtain ⟨e1, e2, e3, e4⟩ := board_row hM ht hb (by omega : i < ln M t) hz
            rcases List.mem_append.mp hh with hh | hh
            · exact rowp _ e1 e2 e3 e4 p hh
            · exact ih (i + 1) (by omega) hh
      exact key _ _ (by omega) hm
    · rw [if_neg hb] at hm
      exact rowp t ht (by omega) (by omega) (by omega) p hm
theorem R_board42 (v : RS) {M : GH} (hM : WF M) (h2 : v.2.2 3 = M.2) {t : Nat} (ht : t < tc M) (hk : kd M t = 23 ∨ kd M t = 24) : ∀ (d i fu : Nat) (g : Nat → Int32) (x : Int32), SkE M.1 g → i + d = ln M t → d < fu → fR_playThing_42 fu (rS v g) (nI t) x (nI i) = some ((foldT (boardFrom M t d i) g x).1, rS v (foldT (boardFrom M t d i) g x).2) := by
  have h60 := hM.1.1
  obtain ⟨-, -, -, a4, a5, -⟩ := hM.2.2.1 t ht
  intro d
  induction d with
  | zero =>
    intro i fu g x hs hi hf
    obtain ⟨fu, rfl⟩ : ∃ m, fu = m + 1 := ⟨fu - 1, by omega⟩
    unfold fR_playThing_42
    rw [R_len _ (by omega), Option.bind_some, rS_get, hs _ (by omega), a5]
    simp only [if_pos (nI_le (show ln M t ≤ i by omega) (by omega))]
    rfl
  | succ d ih =>
    intro i fu g x hs hi hf
    obtain ⟨fu, rfl⟩ : ∃ m, fu = m + 1 := ⟨fu - 1, by omega⟩
    unfold fR_playThing_42 fR_playThing_74
    rw [R_len _ (by omega), Option.bind_some, rS_get, hs _ (by omega), a5]
    simp only [if_neg (nI_ge (show i < ln M t by omega) (by omega))]
    rw [R_thing _ (by omega) (by omega), Option.bind_some]
    have e1 : (rS v g).2.2 3 = M.2 := h2
    obtain ⟨p1, p2, -⟩ := hM.2.2.2.1 t ht (by omega) i (by omega)
    simp only [e1]
    rw [p2, lN_i]
    unfold boardFrom
    by_cases hz : pn M t i = 0
    · rw [hz, if_pos rfl]
      simp only [if_pos nI_m1_lt]
      rw [nI_1]
      exact ih (i + 1) fu g x hs (by omega) (by omega)
    · obtain ⟨e3, e4, -⟩ := board_row hM ht hk (by omega : i < ln M t) hz
      obtain ⟨q, hq⟩ : ∃ q, pn M t i = q + 1 := ⟨pn M t i - 1, by omega⟩
      rw [hq] at e3 e4 ⊢
      rw [nI_pred]
      simp only [Nat.add_sub_cancel] at e3 e4
      simp only [if_neg (nI_pos (show q < 2 ^ 31 by omega)), if_neg (show ¬ q + 1 = 0 by omega), Nat.add_sub_cancel]
      rw [R_playRow v hM hs h2 e3 (by omega), Option.bind_some, nI_1, foldT_app]
      exact ih (i + 1) fu _ _ (hs.tr (foldT_sk _ (fun p hp => by have := (row_mem hM e3 (by omega) (ln M q) 0 (by omega) p hp).1; omega) _ _)) (by omega) (by omega)
theorem R_playThing (v : RS) {M : GH} (hM : WF M) {g : Nat → Int32} (hs : SkE M.1 g) (h2 : v.2.2 3 = M.2) {t : Nat} (ht : t < tc M) (hp : played (kd M t) = true) (x : Int32) : fR_playThing (rS v g) (nI t) x = some ((foldT (plist M t) g x).1, rS v (foldT (plist M t) g x).2) := by
  have h60 := hM.1.1
  obtain ⟨c2, -, c3, -, -, -⟩ := hM.2.2.1 t ht
  have hg : g t = nI (kd M t) := (hs _ (by omega)).trans c3
  have hpl := (played_tab ⟨kd M t, c2⟩).mp hp
  have hpl : kd M t ≤ 10 ∨ (17 ≤ kd M t ∧ kd M t ≠ 21) := hpl
  unfold fR_playThing plist
  rw [R_kindS v g (by omega), Option.bind_some, hg]
  simp only [R_isPart _ c2, Option.bind_some]
  by_cases h0 : under (kd M t) 0 = true
  · rw [if_pos h0]
    simp only [if_neg (mt (b2_0 (under (kd M t) 0)).mp (by rw [h0]; decide))]
    rw [R_turn v g x (by omega), Option.bind_some]
    rfl
  · have h0' : under (kd M t) 0 = false := by simpa using h0
    rw [if_neg h0]
    simp only [if_pos ((b2_0 _).mpr h0')]
    rw [R_kindS v g (by omega), Option.bind_some, hg]
    simp only [R_board _ c2, Option.bind_some]
    have h10 : ¬ kd M t ≤ 10 := fun z => h0 ((part_kind ⟨kd M t, c2⟩).mpr z)
    by_cases hb : kd M t = 23 ∨ kd M t = 24
    · simp only [if_pos hb, if_neg (show ¬ (1 : Int32) = 0 by decide)]
      exact R_board42 v hM h2 ht hb (ln M t) 0 g_fuel g x hs (by omega) (fuel_lt (by have := (hM.2.2.1 t ht).2.2.2.1; omega))
    · simp only [if_neg hb, if_true]
      rw [R_playRow v hM hs h2 ht (by omega), Option.bind_some]
