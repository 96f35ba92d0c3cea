/-! PURE 20: a sheet carried out, both sides -/
def EncL (v : RS) (Ls : List LL) : Prop := ∀ i L, Ls[i]? = some L → EncAt (v.2.1 9) (6 * i) L ∧ v.2.2 10 i = L.2.2.2.2.2.2
def okLs (Ls : List LL) : Prop := ∀ (i : Nat) (L : LL), Ls[i]? = some L → 1 ≤ L.1 ∧ L.1 ≤ 12
def lineE (L : LL) : va_E := .inr (2, [.int (nI (L.1 - 1)), .int L.2.1, .int L.2.2.1, .long (lC L), .int L.2.2.2.2.1, .int L.2.2.2.2.2.1])
def SheetC (w : CS) (Ls : List LL) (fr sz : Nat) : Prop := w.1 3 = nI sz ∧ ∀ i L, i < sz → Ls[fr + i]? = some L → ∃ q, w.2.2.2.2.1 i = some q ∧ (q, lineE L) ∈ w.2.2.2.2.2
theorem RSt.g {v v' : RS} {y : Int32} {M : GH} (h : RSt v v' y M) : gM v' = M := by
  show (v'.2.1 2, v'.2.2 3) = M
  rw [h.2.1, h.2.2.1, up_same]
theorem RSt.ar {v v' : RS} {y : Int32} {M : GH} (h : RSt v v' y M) {k : Nat} (hk : k ≠ 2) : v'.2.1 k = v.2.1 k := by rw [h.2.1, up_ne _ _ hk]
theorem RSt.sc {v v' : RS} {y : Int32} {M : GH} (h : RSt v v' y M) {k : Nat} (hk : k ≠ 15) : v'.1 k = v.1 k := by rw [h.1, up_ne _ _ hk]
theorem RSt.why {v v' : RS} {y : Int32} {M : GH} (h : RSt v v' y M) : v'.1 15 = y := by rw [h.1, up_same]
theorem RSt.tr {v v1 v2 : RS} {y1 y2 : Int32} {M1 M2 : GH} (h1 : RSt v v1 y1 M1) (h2 : RSt v1 v2 y2 M2) : RSt v v2 y2 M2 :=
  ⟨by rw [h2.1, h1.1, bx_uu], by rw [h2.2.1, h1.2.1, bx_uu], h2.2.2.1, fun k a b => (h2.2.2.2 k a b).trans (h1.2.2.2 k a b)⟩
theorem RSt.rf (v : RS) {M : GH} (hv : gM v = M) : RSt v v (v.1 15) M := by
  subst hv
  exact ⟨(up_self _ _).symm, (up_self _ _).symm, rfl, fun _ _ _ => rfl⟩
theorem RSt.encL {v v' : RS} {y : Int32} {M : GH} (h : RSt v v' y M) {Ls : List LL} (he : EncL v Ls) : EncL v' Ls := by
  intro i L hi
  rw [h.ar (show 9 ≠ 2 by decide), h.2.2.2 10 (by decide) (by decide)]
  exact he i L hi
theorem RSt.s0 {v v' : RS} {y c : Int32} {M : GH} (h : RSt (sI v 15 c) v' y M) : RSt v v' y M :=
  ⟨by rw [h.1]; show va_up (va_up v.1 15 c) 15 y = _; rw [bx_uu], h.2.1, h.2.2.1, h.2.2.2⟩
theorem CSt.tr {w w1 w2 : CS} {y1 y2 : Int32} {M1 M2 : GH} (h1 : CSt w w1 y1 M1) (h2 : CSt w1 w2 y2 M2) : CSt w w2 y2 M2 :=
  ⟨h2.1, fun k a b => (h2.2.1 k a b).trans (h1.2.1 k a b), h2.2.2.1, h2.2.2.2.1.trans h1.2.2.2.1, h2.2.2.2.2.trans h1.2.2.2.2⟩
theorem CSt.rf (w : CS) {M : GH} (hr : Rel (w.2.1 2) M) : CSt w w (w.1 0) M := ⟨rfl, fun _ _ _ => rfl, hr, rfl, rfl⟩
theorem CSt.sheet {w w' : CS} {y : Int32} {M : GH} (h : CSt w w' y M) {Ls : List LL} {fr sz : Nat} (hs : SheetC w Ls fr sz) : SheetC w' Ls fr sz := by
  refine ⟨(h.2.1 3 (by decide) (by decide)).trans hs.1, fun i L hi hL => ?_⟩
  rw [h.2.2.2.2]
  exact hs.2 i L hi hL
theorem le0_iff {y : Int32} (h : 0 ≤ y) : (y ≤ 0) ↔ y = 0 := by
  constructor
  · intro z
    have h1 := Int32.le_iff_toInt_le.mp h
    have h2 := Int32.le_iff_toInt_le.mp z
    exact Int32.toInt_inj.mp (by omega)
  · intro z; rw [z]; decide
theorem R_line {v : RS} {M M' : GH} {Ls : List LL} {i : Nat} {L : LL} {r y : Int32} (hv : gM v = M) (he : EncL v Ls) (hL : Ls[i]? = some L) (ho : 1 ≤ L.1 ∧ L.1 ≤ 12) (hi : i ≤ 512) (hS : SR (doR L) M r y M') : ∃ v1, fR_done_lines v ((6 : Int32) * nI i) (v.2.2 10 i) = some (r, v1) ∧ RSt v v1 y M' := by
  obtain ⟨e1, e2⟩ := he i L hL
  obtain ⟨v1, a1, a2⟩ := hS (sI v 15 0) hv (by show va_up v.1 15 0 15 = 0; exact up_same _ _ _)
  refine ⟨v1, ?_, a2.s0⟩
  rw [show (6 : Int32) = nI 6 from rfl, pk_mul, e2, R_done_lines v (6 * i) L ho.1 ho.2 (by omega) e1, a1]
def CarP (Ls : List LL) (fr sz : Nat) (M : GH) (FR : RS → Option (Int32 × RS)) (FC : g_Env → (Int32 → CS → Prop) → CS → Prop) : Prop :=
  ∃ res y M', WF M' ∧ Ext M M' ∧ 0 ≤ y ∧
   (∀ v, gM v = M → EncL v Ls → ∃ v' y', FR v = some (res, v') ∧ RSt v v' y' M' ∧ (y' = y ∨ (y = 0 ∧ y' = v.1 15))) ∧
   (∀ E Q w, Rel (w.2.1 2) M → SheetC w Ls fr sz → w.1 0 = 0 → (∀ w', CSt w w' y M' → (y = 0 → wC__keep E Q w' res) ∧ (y ≠ 0 → ∃ q, fC_S_dropChanges w' = some q ∧ Q res q)) → FC E Q w)
theorem car18 {Ls : List LL} {fr sz m x5 nR nC : Nat} (hLs : okLs Ls) (hfs : fr + sz ≤ Ls.length) (hl : Ls.length ≤ 512) (hsz : sz ≤ 16) (hm : m ≤ 4) (hx5 : x5 < m)
    (h6 : ∀ M sum, WF M → CarP Ls fr sz M (fun v => fR_carried_6 nR v (nI m) (nI fr) (nI sz) sum (nI (x5 + 1))) (fun E Q w => wC__carry_42 E Q nC w (nI m) sum (nI (x5 + 2)))) :
    ∀ (d x fuR fuC : Nat) (M : GH) (sum sk : Int32), (sk = 0 ∨ sk = 1) → WF M → x + d = sz → d < fuR → d < fuC → CarP Ls fr sz M (fun v => fR_carried_18 (fR_carried_6 nR) fuR v (nI m) (nI fr) (nI sz) sum (nI x5) sk (nI x)) (fun E Q w => wC__carry_53 E Q (wC__carry_42 E Q nC) fuC w (nI m) sum (nI (x5 + 1)) sk (nI (x + 1))) := by
  intro d
  induction d with
  | zero =>
    intro x fuR fuC M sum sk hsk hM hx hfR hfC
    obtain ⟨fuR, rfl⟩ : ∃ k, fuR = k + 1 := ⟨fuR - 1, by omega⟩
    obtain ⟨fuC, rfl⟩ : ∃ k, fuC = k + 1 := ⟨fuC - 1, by omega⟩
    obtain ⟨res, y, M', a1, a2, a3, a4, a5⟩ := h6 M sum hM
    refine ⟨res, y, M', a1, a2, a3, fun v hv he => ?_, fun E Q w hr hs h0 hk => ?_⟩
    · dsimp only
      unfold fR_carried_18
      rw [if_pos (nI_le (show sz ≤ x by omega) (by omega)), nI_1]
      exact a4 v hv he
    · dsimp only
      unfold wC__carry_53
      rw [hs.1, if_pos (nI_lt (show sz < x + 1 by omega) (by omega)), nI_1]
      exact a5 E Q w hr hs h0 hk
  | succ d ih =>
    intro x fuR fuC M sum sk hsk hM hx hfR hfC
    obtain ⟨fuR, rfl⟩ : ∃ k, fuR = k + 1 := ⟨fuR - 1, by omega⟩
    obtain ⟨fuC, rfl⟩ : ∃ k, fuC = k + 1 := ⟨fuC - 1, by omega⟩
    have hxR : ¬ nI sz ≤ nI x := nI_ge (show x < sz by omega) (by omega)
    have hxC : ¬ nI sz < nI (x + 1) := nI_nlt (a := sz) (b := x + 1) (by omega) (by omega)
    rcases hsk with rfl | rfl
    · have hlt : fr + x < Ls.length := by omega
      have hL : Ls[fr + x]? = some Ls[fr + x] := List.getElem?_eq_getElem hlt
      generalize Ls[fr + x] = L at hL
      have ho := hLs _ _ hL
      obtain ⟨r, y, M1, w1, w2, w3, -, w5, w6⟩ := act_line hM L ho.1 ho.2
      have hcall : ∀ w, Rel (w.2.1 2) M → ∃ w', fC__perform w (nI (L.1 - 1)) L.2.1 L.2.2.1 (lC L) L.2.2.2.2.1 L.2.2.2.2.2.1 = some (r, w') ∧ CSt w w' y M1 := by
        intro w hr
        obtain ⟨w', b1, b2⟩ := w6 w hr
        refine ⟨w', ?_, b2⟩
        have := doC_eq L w ho.1 ho.2
        unfold doC at this
        rw [this, b1]
      have hin : vp_in (nI (x + 1) - 1) 16 := by rw [nI_pred]; exact vp_in_nI (show x < 16 by omega) (by decide)
      by_cases hy : y = 0
      · subst hy
        have key : ∀ sk' : Int32, (sk' = 0 ∨ sk' = 1) → (∀ v1 : RS, EncL v1 Ls → v1.1 15 = 0 → (if (v1.1 15) ≤ 0 then
          g_ck ((6 : Int32) * (nI fr + nI x)) 3078 <|
          g_let (v1.2.1 9 ((6 : Int32) * (nI fr + nI x)).toNatClampNeg) fun v84 =>
          if v84 = (12 : Int32) then
            if r = 0 then
              fR_carried_100 (fR_carried_6 nR) (fR_carried_18 (fR_carried_6 nR) fuR) v1 (nI m) (nI fr) (nI sz) sum (nI x5) (nI x) r (1 : Int32)
            else
              fR_carried_99 (fR_carried_6 nR) (fR_carried_18 (fR_carried_6 nR) fuR) v1 (nI m) (nI fr) (nI sz) sum (nI x5) (nI x) r
          else
            fR_carried_99 (fR_carried_6 nR) (fR_carried_18 (fR_carried_6 nR) fuR) v1 (nI m) (nI fr) (nI sz) sum (nI x5) (nI x) r
        else
          some (nI x + (1 : Int32), v1)) = fR_carried_18 (fR_carried_6 nR) fuR v1 (nI m) (nI fr) (nI sz) (sum + r) (nI x5) sk' (nI (x + 1))) →
          (∀ E Q (w' : CS) (q82 : Nat), (q82, lineE L) ∈ w'.2.2.2.2.2 → wC__carry_53 E Q (wC__carry_42 E Q nC) fuC w' (nI m) (sum + r) (nI (x5 + 1)) sk' (nI (x + 2)) → (if r = 0 then
            ∃ (k124 : Nat) (b0_124 b1_124 b2_124 : Int32) (b3_124 : Int64) (b4_124 b5_124 : Int32), w'.2.2.2.2.2[k124]? = some (q82, .inr (2, [.int b0_124, .int b1_124, .int b2_124, .long b3_124, .int b4_124, .int b5_124])) ∧
            ∃ q124, fC__isWhen w' b0_124 b1_124 b2_124 b3_124 b4_124 b5_124 = some q124 ∧
            if q124.1 = 0 then
              wC__carry_134 E Q (wC__carry_42 E Q nC) (wC__carry_53 E Q (wC__carry_42 E Q nC) fuC) q124.2 (nI m) (sum + r) (nI (x5 + 1)) (nI (x + 1))
            else
              wC__carry_135 E Q (wC__carry_42 E Q nC) (wC__carry_53 E Q (wC__carry_42 E Q nC) fuC) q124.2 (nI m) (sum + r) (nI (x5 + 1)) (nI (x + 1)) (1 : Int32)
          else
            wC__carry_134 E Q (wC__carry_42 E Q nC) (wC__carry_53 E Q (wC__carry_42 E Q nC) fuC) w' (nI m) (sum + r) (nI (x5 + 1)) (nI (x + 1)))) →
          CarP Ls fr sz M (fun v => fR_carried_18 (fR_carried_6 nR) (fuR + 1) v (nI m) (nI fr) (nI sz) sum (nI x5) 0 (nI x)) (fun E Q w => wC__carry_53 E Q (wC__carry_42 E Q nC) (fuC + 1) w (nI m) sum (nI (x5 + 1)) 0 (nI (x + 1))) := by
          intro sk' hsk' kR kC
          obtain ⟨res, y2, M2, a1, a2, a3, a4, a5⟩ := ih (x + 1) fuR fuC M1 (sum + r) sk' hsk' w1 (by omega) (by omega) (by omega)
          refine ⟨res, y2, M2, a1, w2.tr a2, a3, fun v hv he => ?_, fun E Q w hr hs h0 hk => ?_⟩
          · obtain ⟨v1, b1, b2⟩ := R_line hv he hL ho (by omega) w5
            obtain ⟨v', y', c1, c2, c3⟩ := a4 v1 b2.g (b2.encL he)
            refine ⟨v', y', ?_, b2.tr c2, ?_⟩
            · dsimp only
              unfold fR_carried_18
              rw [if_neg hxR, if_pos rfl, nI_add, ck_nI (show fr + x < 513 by omega) (by decide), g_let_eq, nI_clamp (by omega), b1, Option.bind_some]
              have := kR v1 (b2.encL he) b2.why
              rw [nI_add] at this
              exact this.trans c1
            · rcases c3 with c3 | ⟨c3, c4⟩
              · exact Or.inl c3
              · exact Or.inl (by rw [c4, b2.why, c3])
          · obtain ⟨q, hq, hmem⟩ := hs.2 x L (by omega) hL
            obtain ⟨w', b1, b2⟩ := hcall w hr
            unfold wC__carry_53
            rw [hs.1, if_neg hxC, if_pos rfl]
            obtain ⟨k, hk1⟩ := List.mem_iff_getElem?.mp hmem
            refine ⟨nI_nlt (a := x + 1) (b := 1) (by omega) (by omega), nI_nlt (a := 16) (b := x + 1) (by omega) (by decide), hin, q, by rw [nI_pred, nI_clamp (by omega)]; exact hq, k, _, _, _, _, _, _, hk1, _, b1, ?_⟩
            have hw0 : w'.1 0 = 0 := b2.1
            show (if w'.1 0 = 0 then _ else _)
            rw [if_pos hw0]
            exact kC E Q w' q (by rw [b2.2.2.2.2]; exact hmem) (a5 E Q w' b2.2.2.1 (b2.sheet hs) hw0 (fun w2' hw2 => hk w2' (b2.tr hw2)))
        have eR : ∀ v1 : RS, EncL v1 Ls → v1.2.1 9 ((6 : Int32) * (nI fr + nI x)).toNatClampNeg = nI L.1 := by
          intro v1 he1
          rw [nI_add, show (6 : Int32) = nI 6 from rfl, pk_mul, nI_clamp (by omega)]
          exact (he1 _ _ hL).1.1
        have eck : ∀ {α : Type} (k : Option α), g_ck ((6 : Int32) * (nI fr + nI x)) 3078 k = k := by
          intro α k
          rw [nI_add, show (6 : Int32) = nI 6 from rfl, pk_mul]
          exact ck_nI (by omega) (by decide) k
        by_cases hw : L.1 = 12 ∧ r = 0
        · refine key 1 (Or.inr rfl) (fun v1 he1 h15 => ?_) (fun E Q w' q hmem hgo => ?_)
          · rw [h15, if_pos (by decide), eck, g_let_eq, eR v1 he1, if_pos ((eqk (by omega) (by decide)).mpr hw.1), if_pos hw.2]
            unfold fR_carried_100 fR_carried_109
            rw [nI_1]
          · obtain ⟨k, hk1⟩ := List.mem_iff_getElem?.mp hmem
            rw [if_pos hw.2]
            refine ⟨k, _, _, _, _, _, _, hk1, (1, w'), ?_, ?_⟩
            · unfold fC__isWhen
              rw [hw.1, if_pos (show nI (12 - 1) = (11 : Int32) from rfl)]
            · rw [if_neg (show ¬ ((1 : Int32), w').1 = 0 from by show ¬ (1 : Int32) = 0; decide)]
              unfold wC__carry_135 wC__carry_137
              rw [nI_1]
              exact hgo
        · refine key 0 (Or.inl rfl) (fun v1 he1 h15 => ?_) (fun E Q w' q hmem hgo => ?_)
          · rw [h15, if_pos (by decide), eck, g_let_eq, eR v1 he1]
            by_cases h12 : L.1 = 12
            · rw [if_pos ((eqk (by omega) (by decide)).mpr h12), if_neg (fun z => hw ⟨h12, z⟩)]
              unfold fR_carried_99 fR_carried_100 fR_carried_109
              rw [nI_1]
            · rw [if_neg (mt (eqk (by omega) (by decide)).mp h12)]
              unfold fR_carried_99 fR_carried_100 fR_carried_109
              rw [nI_1]
          · by_cases hr0 : r = 0
            · obtain ⟨k, hk1⟩ := List.mem_iff_getElem?.mp hmem
              rw [if_pos hr0]
              refine ⟨k, _, _, _, _, _, _, hk1, (0, w'), ?_, ?_⟩
              · unfold fC__isWhen
                rw [if_neg (show ¬ nI (L.1 - 1) = (11 : Int32) from fun z => hw ⟨by have := (eqk (k := L.1 - 1) (j := 11) (by omega) (by decide)).mp z; omega, hr0⟩)]
              · rw [if_pos (show ((0 : Int32), w').1 = 0 from rfl)]
                unfold wC__carry_134 wC__carry_135 wC__carry_137
                rw [nI_1]
                exact hgo
            · rw [if_neg hr0]
              unfold wC__carry_134 wC__carry_135 wC__carry_137
              rw [nI_1]
              exact hgo
      · refine ⟨nI (x + 1), y, M1, w1, w2, w3, fun v hv he => ?_, fun E Q w hr hs h0 hk => ?_⟩
        · obtain ⟨v1, b1, b2⟩ := R_line hv he hL ho (by omega) w5
          refine ⟨v1, y, ?_, b2, Or.inl rfl⟩
          dsimp only
          unfold fR_carried_18
          rw [if_neg hxR, if_pos rfl, nI_add, ck_nI (show fr + x < 513 by omega) (by decide), g_let_eq, nI_clamp (by omega), b1, Option.bind_some]
          show (if v1.1 15 ≤ 0 then _ else _) = _
          rw [b2.why, if_neg (fun z => hy ((le0_iff w3).mp z)), nI_1]
        · obtain ⟨q, hq, hmem⟩ := hs.2 x L (by omega) hL
          obtain ⟨w', b1, b2⟩ := hcall w hr
          unfold wC__carry_53
          rw [hs.1, if_neg hxC, if_pos rfl]
          obtain ⟨k, hk1⟩ := List.mem_iff_getElem?.mp hmem
          refine ⟨nI_nlt (a := x + 1) (b := 1) (by omega) (by omega), nI_nlt (a := 16) (b := x + 1) (by omega) (by decide), hin, q, by rw [nI_pred, nI_clamp (by omega)]; exact hq, k, _, _, _, _, _, _, hk1, _, b1, ?_⟩
          have hw0 : ¬ w'.1 0 = 0 := by rw [b2.1]; exact hy
          show (if w'.1 0 = 0 then _ else _)
          rw [if_neg hw0]
          exact (hk w' b2).2 hy
    · obtain ⟨res, y, M', a1, a2, a3, a4, a5⟩ := ih (x + 1) fuR fuC M sum 0 (Or.inl rfl) hM (by omega) (by omega) (by omega)
      refine ⟨res, y, M', a1, a2, a3, fun v hv he => ?_, fun E Q w hr hs h0 hk => ?_⟩
      · dsimp only
        unfold fR_carried_18 fR_carried_109
        rw [if_neg hxR, if_neg (by decide), nI_1]
        exact a4 v hv he
      · dsimp only
        unfold wC__carry_53 wC__carry_137
        rw [hs.1, if_neg hxC, if_neg (by decide), nI_1]
        exact a5 E Q w hr hs h0 hk
theorem car6 {Ls : List LL} {fr sz m : Nat} (hLs : okLs Ls) (hfs : fr + sz ≤ Ls.length) (hl : Ls.length ≤ 512) (hsz : sz ≤ 16) (hm : m ≤ 4) : ∀ (t x5 nR nC : Nat) (M : GH) (sum : Int32), x5 + t = m → t < nR → t < nC → WF M → CarP Ls fr sz M (fun v => fR_carried_6 nR v (nI m) (nI fr) (nI sz) sum (nI x5)) (fun E Q w => wC__carry_42 E Q nC w (nI m) sum (nI (x5 + 1))) := by
  intro t
  induction t with
  | zero =>
    intro x5 nR nC M sum hx hR hC hM
    obtain ⟨nR, rfl⟩ : ∃ k, nR = k + 1 := ⟨nR - 1, by omega⟩
    obtain ⟨nC, rfl⟩ : ∃ k, nC = k + 1 := ⟨nC - 1, by omega⟩
    refine ⟨sum, 0, M, hM, Ext.rf M, by decide, fun v hv he => ⟨v, v.1 15, ?_, RSt.rf v hv, Or.inr ⟨rfl, rfl⟩⟩, fun E Q w hr hs h0 hk => ?_⟩
    · dsimp only
      unfold fR_carried_6
      rw [if_pos (nI_le (show m ≤ x5 by omega) (by omega))]
    · dsimp only
      unfold wC__carry_42
      rw [if_pos (nI_lt (show m < x5 + 1 by omega) (by omega))]
      have := CSt.rf w hr
      rw [h0] at this
      exact (hk w this).1 rfl
  | succ t ih =>
    intro x5 nR nC M sum hx hR hC hM
    obtain ⟨nR, rfl⟩ : ∃ k, nR = k + 1 := ⟨nR - 1, by omega⟩
    obtain ⟨nC, rfl⟩ : ∃ k, nC = k + 1 := ⟨nC - 1, by omega⟩
    obtain ⟨res, y, M', a1, a2, a3, a4, a5⟩ := car18 hLs hfs hl hsz hm (show x5 < m by omega) (nR := nR) (nC := nC) (fun M sum hM => ih (x5 + 1) nR nC M sum (by omega) (by omega) (by omega) hM) sz 0 g_fuel g_fuel M sum 0 (Or.inl rfl) hM (by omega) (fuel_lt (by omega)) (fuel_lt (by omega))
    refine ⟨res, y, M', a1, a2, a3, fun v hv he => ?_, fun E Q w hr hs h0 hk => ?_⟩
    · dsimp only
      unfold fR_carried_6
      rw [if_neg (nI_ge (show x5 < m by omega) (by omega))]
      exact a4 v hv he
    · dsimp only
      unfold wC__carry_42
      rw [if_neg (nI_nlt (a := m) (b := x5 + 1) (by omega) (by omega))]
      exact a5 E Q w hr hs h0 hk
