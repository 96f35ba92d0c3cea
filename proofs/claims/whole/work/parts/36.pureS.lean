/-! PURE 18: a line, both sides -/
abbrev LL : Type := Nat × Int32 × Int32 × Int32 × Int32 × Int32 × Int64
def doR (L : LL) (v : RS) : Option (Int32 × RS) :=
  if L.1 = 1 then fR_makeNew v L.2.1 L.2.2.1 L.2.2.2.1 else
  if L.1 = 2 then fR_layOn v L.2.1 L.2.2.1 else
  if L.1 = 3 then fR_plugIn v L.2.1 L.2.2.1 L.2.2.2.1 else
  if L.1 = 4 then fR_pullOut v L.2.1 L.2.2.1 L.2.2.2.1 else
  if L.1 = 5 then fR_copyOver v L.2.1 L.2.2.1 L.2.2.2.1 L.2.2.2.2.1 L.2.2.2.2.2.1 else
  if L.1 = 6 then fR_writeIn v L.2.1 L.2.2.1 L.2.2.2.2.2.2 else
  if L.1 = 7 then fR_knobTo v L.2.1 L.2.2.1 else
  if L.1 = 8 then fR_playBy v L.2.1 L.2.2.1 else
  if L.1 = 9 then fR_runOver v L.2.1 L.2.2.1 else
  if L.1 = 10 then fR_ticksBy v L.2.1 L.2.2.1 else
  if L.1 = 11 then fR_restOf v L.2.1 else
  fR_whenUnder v L.2.1 L.2.2.1
def doG (L : LL) (w : CS) : Option (Int32 × CS) :=
  if L.1 = 1 then fC__makeThing w L.2.1 L.2.2.1 L.2.2.2.1 else
  if L.1 = 2 then fC__layOver w L.2.1 L.2.2.1 else
  if L.1 = 3 then fC__plugIn w L.2.1 L.2.2.1 L.2.2.2.1 else
  if L.1 = 4 then fC__pullOut w L.2.1 L.2.2.1 L.2.2.2.1 else
  if L.1 = 5 then fC__copyPlaces w L.2.1 L.2.2.1 L.2.2.2.1 L.2.2.2.2.1 L.2.2.2.2.2.1 else
  if L.1 = 6 then fC__writeNumber w L.2.1 L.2.2.1 L.2.2.2.2.2.2 else
  if L.1 = 7 then fC__setKnob w L.2.1 L.2.2.1 else
  if L.1 = 8 then fC__playOnce w L.2.1 L.2.2.1 else
  if L.1 = 9 then fC__runOver w L.2.1 L.2.2.1 else
  if L.1 = 10 then fC__tickOn w L.2.1 L.2.2.1 else
  if L.1 = 11 then fC__restAll w L.2.1 else
  fC__askWhether w L.2.1 L.2.2.1
def lC (L : LL) : Int64 := if L.1 = 6 then L.2.2.2.2.2.2 else L.2.2.2.1.toInt64
def doC (L : LL) (w : CS) : Option (Int32 × CS) := fC__perform w (nI (L.1 - 1)) L.2.1 L.2.2.1 (lC L) L.2.2.2.2.1 L.2.2.2.2.2.1
theorem bind_eta {α β : Type} (x : Option (α × β)) : (Option.bind x fun q => some (q.1, q.2)) = x := by cases x <;> rfl
theorem ite_k {α : Type} {o j : Nat} (ho : o < 25) (hj : j < 25) (A B : α) : (if nI o = (OfNat.ofNat j : Int32) then A else B) = if o = j then A else B := by
  by_cases h : o = j
  · rw [if_pos ((eqk ho hj).mpr h), if_pos h]
  · rw [if_neg (mt (eqk ho hj).mp h), if_neg h]
theorem ite_s {α : Type} {o j : Nat} (ho : 1 ≤ o) (A B : α) : (if o - 1 = j then A else B) = if o = j + 1 then A else B := by
  by_cases h : o = j + 1
  · rw [if_pos (by omega), if_pos h]
  · rw [if_neg (by omega), if_neg h]
theorem doC_eq (L : LL) (w : CS) (h1 : 1 ≤ L.1) (h2 : L.1 ≤ 12) : doC L w = doG L w := by
  unfold doC fC__perform doG
  have ho : L.1 - 1 < 25 := by omega
  rw [ite_k (j := 0) ho (by decide), ite_s (j := 0) h1, ite_k (j := 1) ho (by decide), ite_s (j := 1) h1, ite_k (j := 2) ho (by decide), ite_s (j := 2) h1, ite_k (j := 3) ho (by decide), ite_s (j := 3) h1, ite_k (j := 4) ho (by decide), ite_s (j := 4) h1, ite_k (j := 5) ho (by decide), ite_s (j := 5) h1, ite_k (j := 6) ho (by decide), ite_s (j := 6) h1, ite_k (j := 7) ho (by decide), ite_s (j := 7) h1, ite_k (j := 8) ho (by decide), ite_s (j := 8) h1, ite_k (j := 9) ho (by decide), ite_s (j := 9) h1, ite_k (j := 10) ho (by decide), ite_s (j := 10) h1]
  simp only [bind_eta]
  by_cases h1k : L.1 = 1
  · rw [if_pos h1k, if_pos h1k]
    unfold lC; rw [if_neg (by omega), i64_back]
  rw [if_neg h1k, if_neg h1k]
  by_cases h2k : L.1 = 2
  · rw [if_pos h2k, if_pos h2k]
  rw [if_neg h2k, if_neg h2k]
  by_cases h3k : L.1 = 3
  · rw [if_pos h3k, if_pos h3k]
    unfold lC; rw [if_neg (by omega), i64_back]
  rw [if_neg h3k, if_neg h3k]
  by_cases h4k : L.1 = 4
  · rw [if_pos h4k, if_pos h4k]
    unfold lC; rw [if_neg (by omega), i64_back]
  rw [if_neg h4k, if_neg h4k]
  by_cases h5k : L.1 = 5
  · rw [if_pos h5k, if_pos h5k]
    unfold lC; rw [if_neg (by omega), i64_back]
  rw [if_neg h5k, if_neg h5k]
  by_cases h6k : L.1 = 6
  · rw [if_pos h6k, if_pos h6k]
    unfold lC; rw [if_pos h6k]
  rw [if_neg h6k, if_neg h6k]
def ActL (L : LL) (M : GH) : Prop := ∃ r y M', WF M' ∧ Ext M M' ∧ 0 ≤ y ∧ (y ≠ 0 → ¬ (L.1 = 5 ∧ y = 5) → M' = M) ∧ SR (doR L) M r y M' ∧ SC (doG L) M r y M'
theorem ActL.of {L : LL} {M : GH} {F : RS → Option (Int32 × RS)} {G : CS → Option (Int32 × CS)} (h : Act2 F G M) (hF : doR L = F) (hG : doG L = G) : ActL L M := by
  subst hF; subst hG
  obtain ⟨r, y, M', h1, e1, y1, h2, h3, h4⟩ := h
  exact ⟨r, y, M', h1, e1, y1, fun z _ => h2 z, h3, h4⟩
theorem act_line {M : GH} (hM : WF M) (L : LL) (h1 : 1 ≤ L.1) (h2 : L.1 ≤ 12) : ActL L M := by
  by_cases k1 : L.1 = 1
  · exact ActL.of (act_make hM L.2.1 L.2.2.1 L.2.2.2.1) (by funext v; unfold doR; rw [if_pos k1]) (by funext w; unfold doG; rw [if_pos k1])
  by_cases k2 : L.1 = 2
  · exact ActL.of (act_lay hM L.2.1 L.2.2.1) (by funext v; unfold doR; rw [if_neg k1, if_pos k2]) (by funext w; unfold doG; rw [if_neg k1, if_pos k2])
  by_cases k3 : L.1 = 3
  · exact ActL.of (act_plug hM L.2.1 L.2.2.1 L.2.2.2.1) (by funext v; unfold doR; rw [if_neg k1, if_neg k2, if_pos k3]) (by funext w; unfold doG; rw [if_neg k1, if_neg k2, if_pos k3])
  by_cases k4 : L.1 = 4
  · exact ActL.of (act_pull hM L.2.1 L.2.2.1 L.2.2.2.1) (by funext v; unfold doR; rw [if_neg k1, if_neg k2, if_neg k3, if_pos k4]) (by funext w; unfold doG; rw [if_neg k1, if_neg k2, if_neg k3, if_pos k4])
  by_cases k5 : L.1 = 5
  · obtain ⟨r, y, M', w1, e1, y1, w2, w3, w4⟩ := act_copy hM L.2.1 L.2.2.1 L.2.2.2.1 L.2.2.2.2.1 L.2.2.2.2.2.1
    refine ⟨r, y, M', w1, e1, y1, fun z z5 => w2 z (fun y5 => z5 ⟨k5, y5⟩), fun v hv h0 => ?_, fun w hr => ?_⟩
    · unfold doR; rw [if_neg k1, if_neg k2, if_neg k3, if_neg k4, if_pos k5]; exact w3 v hv h0
    · unfold doG; rw [if_neg k1, if_neg k2, if_neg k3, if_neg k4, if_pos k5]; exact w4 w hr
  by_cases k6 : L.1 = 6
  · exact ActL.of (act_write hM L.2.1 L.2.2.1 L.2.2.2.2.2.2) (by funext v; unfold doR; rw [if_neg k1, if_neg k2, if_neg k3, if_neg k4, if_neg k5, if_pos k6]) (by funext w; unfold doG; rw [if_neg k1, if_neg k2, if_neg k3, if_neg k4, if_neg k5, if_pos k6])
  by_cases k7 : L.1 = 7
  · exact ActL.of (act_knob hM L.2.1 L.2.2.1) (by funext v; unfold doR; rw [if_neg k1, if_neg k2, if_neg k3, if_neg k4, if_neg k5, if_neg k6, if_pos k7]) (by funext w; unfold doG; rw [if_neg k1, if_neg k2, if_neg k3, if_neg k4, if_neg k5, if_neg k6, if_pos k7])
  by_cases k8 : L.1 = 8
  · exact ActL.of (act_play hM L.2.1 L.2.2.1) (by funext v; unfold doR; rw [if_neg k1, if_neg k2, if_neg k3, if_neg k4, if_neg k5, if_neg k6, if_neg k7, if_pos k8]) (by funext w; unfold doG; rw [if_neg k1, if_neg k2, if_neg k3, if_neg k4, if_neg k5, if_neg k6, if_neg k7, if_pos k8])
  by_cases k9 : L.1 = 9
  · exact ActL.of (act_run hM L.2.1 L.2.2.1) (by funext v; unfold doR; rw [if_neg k1, if_neg k2, if_neg k3, if_neg k4, if_neg k5, if_neg k6, if_neg k7, if_neg k8, if_pos k9]) (by funext w; unfold doG; rw [if_neg k1, if_neg k2, if_neg k3, if_neg k4, if_neg k5, if_neg k6, if_neg k7, if_neg k8, if_pos k9])
  by_cases k10 : L.1 = 10
  · exact ActL.of (act_ticks hM L.2.1 L.2.2.1) (by funext v; unfold doR; rw [if_neg k1, if_neg k2, if_neg k3, if_neg k4, if_neg k5, if_neg k6, if_neg k7, if_neg k8, if_neg k9, if_pos k10]) (by funext w; unfold doG; rw [if_neg k1, if_neg k2, if_neg k3, if_neg k4, if_neg k5, if_neg k6, if_neg k7, if_neg k8, if_neg k9, if_pos k10])
  by_cases k11 : L.1 = 11
  · exact ActL.of (act_rest hM L.2.1) (by funext v; unfold doR; rw [if_neg k1, if_neg k2, if_neg k3, if_neg k4, if_neg k5, if_neg k6, if_neg k7, if_neg k8, if_neg k9, if_neg k10, if_pos k11]) (by funext w; unfold doG; rw [if_neg k1, if_neg k2, if_neg k3, if_neg k4, if_neg k5, if_neg k6, if_neg k7, if_neg k8, if_neg k9, if_neg k10, if_pos k11])
  exact ActL.of (act_when hM L.2.1 L.2.2.1) (by funext v; unfold doR; rw [if_neg k1, if_neg k2, if_neg k3, if_neg k4, if_neg k5, if_neg k6, if_neg k7, if_neg k8, if_neg k9, if_neg k10, if_neg k11]) (by funext w; unfold doG; rw [if_neg k1, if_neg k2, if_neg k3, if_neg k4, if_neg k5, if_neg k6, if_neg k7, if_neg k8, if_neg k9, if_neg k10, if_neg k11])
def EncAt (f : Nat → Int32) (i : Nat) (L : LL) : Prop := f i = nI L.1 ∧ f (i + 1) = L.2.1 ∧ f (i + 2) = L.2.2.1 ∧ f (i + 3) = L.2.2.2.1 ∧ f (i + 4) = L.2.2.2.2.1 ∧ f (i + 5) = L.2.2.2.2.2.1
theorem nIp1 (a : Nat) : nI a + (1 : Int32) = nI (a + 1) := by rw [show (1 : Int32) = nI 1 from rfl, nI_add]
theorem nIp2 (a : Nat) : nI a + (2 : Int32) = nI (a + 2) := by rw [show (2 : Int32) = nI 2 from rfl, nI_add]
theorem nIp3 (a : Nat) : nI a + (3 : Int32) = nI (a + 3) := by rw [show (3 : Int32) = nI 3 from rfl, nI_add]
theorem nIp4 (a : Nat) : nI a + (4 : Int32) = nI (a + 4) := by rw [show (4 : Int32) = nI 4 from rfl, nI_add]
theorem nIp5 (a : Nat) : nI a + (5 : Int32) = nI (a + 5) := by rw [show (5 : Int32) = nI 5 from rfl, nI_add]
theorem R_done_call (w : RS) (i : Nat) (L : LL) (h1 : 1 ≤ L.1) (h2 : L.1 ≤ 12) (hi : i + 5 < 6) (he : EncAt (w.2.1 17) i L) : fR_done_call w (nI i) L.2.2.2.2.2.2 = doR L (sI w 15 0) := by
  obtain ⟨e0, e1, e2, e3, e4, e5⟩ := he
  have hd : 6 < 2 ^ 31 := by decide
  have s17 : (sI w 15 0).2.1 17 = w.2.1 17 := rfl
  have ho : L.1 < 25 := by omega
  unfold fR_done_call doR
  simp only [nIp1, nIp2, nIp3, nIp4, nIp5, ck_nI (show i + 1 < 6 by omega) hd, ck_nI (show i + 2 < 6 by omega) hd, ck_nI (show i + 3 < 6 by omega) hd, ck_nI (show i + 4 < 6 by omega) hd, ck_nI (show i + 5 < 6 by omega) hd, ck_nI (show i < 6 by omega) hd, g_let_eq, nI_clamp (show i + 1 < 2 ^ 31 by omega), nI_clamp (show i + 2 < 2 ^ 31 by omega), nI_clamp (show i + 3 < 2 ^ 31 by omega), nI_clamp (show i + 4 < 2 ^ 31 by omega), nI_clamp (show i + 5 < 2 ^ 31 by omega), nI_clamp (show i < 2 ^ 31 by omega), s17, e0, e1, e2, e3, e4, e5, bind_eta]
  rw [ite_k (j := 1) ho (by decide), ite_k (j := 2) ho (by decide), ite_k (j := 3) ho (by decide), ite_k (j := 4) ho (by decide), ite_k (j := 5) ho (by decide), ite_k (j := 6) ho (by decide), ite_k (j := 7) ho (by decide), ite_k (j := 8) ho (by decide), ite_k (j := 9) ho (by decide), ite_k (j := 10) ho (by decide), ite_k (j := 11) ho (by decide)]
theorem R_done_lines (w : RS) (i : Nat) (L : LL) (h1 : 1 ≤ L.1) (h2 : L.1 ≤ 12) (hi : i + 5 < 3078) (he : EncAt (w.2.1 9) i L) : fR_done_lines w (nI i) L.2.2.2.2.2.2 = doR L (sI w 15 0) := by
  obtain ⟨e0, e1, e2, e3, e4, e5⟩ := he
  have hd : 3078 < 2 ^ 31 := by decide
  have s17 : (sI w 15 0).2.1 9 = w.2.1 9 := rfl
  have ho : L.1 < 25 := by omega
  unfold fR_done_lines doR
  simp only [nIp1, nIp2, nIp3, nIp4, nIp5, ck_nI (show i + 1 < 3078 by omega) hd, ck_nI (show i + 2 < 3078 by omega) hd, ck_nI (show i + 3 < 3078 by omega) hd, ck_nI (show i + 4 < 3078 by omega) hd, ck_nI (show i + 5 < 3078 by omega) hd, ck_nI (show i < 3078 by omega) hd, g_let_eq, nI_clamp (show i + 1 < 2 ^ 31 by omega), nI_clamp (show i + 2 < 2 ^ 31 by omega), nI_clamp (show i + 3 < 2 ^ 31 by omega), nI_clamp (show i + 4 < 2 ^ 31 by omega), nI_clamp (show i + 5 < 2 ^ 31 by omega), nI_clamp (show i < 2 ^ 31 by omega), s17, e0, e1, e2, e3, e4, e5, bind_eta]
  rw [ite_k (j := 1) ho (by decide), ite_k (j := 2) ho (by decide), ite_k (j := 3) ho (by decide), ite_k (j := 4) ho (by decide), ite_k (j := 5) ho (by decide), ite_k (j := 6) ho (by decide), ite_k (j := 7) ho (by decide), ite_k (j := 8) ho (by decide), ite_k (j := 9) ho (by decide), ite_k (j := 10) ho (by decide), ite_k (j := 11) ho (by decide)]
theorem R_done_acts (w : RS) (i : Nat) (L : LL) (h1 : 1 ≤ L.1) (h2 : L.1 ≤ 12) (hi : i + 5 < 3078) (he : EncAt (w.2.1 6) i L) : fR_done_acts w (nI i) L.2.2.2.2.2.2 = doR L (sI w 15 0) := by
  obtain ⟨e0, e1, e2, e3, e4, e5⟩ := he
  have hd : 3078 < 2 ^ 31 := by decide
  have s17 : (sI w 15 0).2.1 6 = w.2.1 6 := rfl
  have ho : L.1 < 25 := by omega
  unfold fR_done_acts doR
  simp only [nIp1, nIp2, nIp3, nIp4, nIp5, ck_nI (show i + 1 < 3078 by omega) hd, ck_nI (show i + 2 < 3078 by omega) hd, ck_nI (show i + 3 < 3078 by omega) hd, ck_nI (show i + 4 < 3078 by omega) hd, ck_nI (show i + 5 < 3078 by omega) hd, ck_nI (show i < 3078 by omega) hd, g_let_eq, nI_clamp (show i + 1 < 2 ^ 31 by omega), nI_clamp (show i + 2 < 2 ^ 31 by omega), nI_clamp (show i + 3 < 2 ^ 31 by omega), nI_clamp (show i + 4 < 2 ^ 31 by omega), nI_clamp (show i + 5 < 2 ^ 31 by omega), nI_clamp (show i < 2 ^ 31 by omega), s17, e0, e1, e2, e3, e4, e5, bind_eta]
  rw [ite_k (j := 1) ho (by decide), ite_k (j := 2) ho (by decide), ite_k (j := 3) ho (by decide), ite_k (j := 4) ho (by decide), ite_k (j := 5) ho (by decide), ite_k (j := 6) ho (by decide), ite_k (j := 7) ho (by decide), ite_k (j := 8) ho (by decide), ite_k (j := 9) ho (by decide), ite_k (j := 10) ho (by decide), ite_k (j := 11) ho (by decide)]
