/-! the law, out of the steps -/
theorem whole_start {p : Program} {e : Env} {s : State} {m : MethodId} {below : List Frame} {meth : Method} {c : Code} (l : Launch) {b L : Nat} {xs : Nat → Int32} (hL : L ≤ 3072) (C0 : lw_At p s m meth c b L xs) : W p l e room_1 s m #[Value.ref b] below meth c s.heap [] 0 0 (lw_Z below #[Value.ref b] s) (entryFrame m ([Value.ref b] : List Value).toArray 4) := by
  refine whole_open (e := e) (below := below) l hL C0 Inv Inv.start (fun E n v w _ h => h.skip) ?_ ?_ ?_ ?_ ?_ ?_ ?_ ?_ ?_ ?_ ?_ ?_ ?_ ?_ ?_ ?_ ?_ ?_ ?_ ?_ ?_ ?_ ?_ ?_
  · exact fun E n v w a0 a1 a2 hn hI => step_make hI hn a0 a1 a2
  · exact fun E n v w a0 a1 hn hI => step_lay hI hn a0 a1
  · exact fun E n v w a0 a1 a2 hn hI => step_plug hI hn a0 a1 a2
  · exact fun E n v w a0 a1 a2 hn hI => step_pull hI hn a0 a1 a2
  · exact fun E n v w a0 a1 a2 a3 a4 hn hI => step_copy hI hn a0 a1 a2 a3 a4
  · exact fun E n v w a0 a1 a2 hn hI => step_write hI hn a0 a1 a2
  · exact fun E n v w a0 a1 hn hI => step_knob hI hn a0 a1
  · exact fun E n v w a0 a1 hn hI => step_play hI hn a0 a1
  · exact fun E n v w a0 a1 hn hI => step_run hI hn a0 a1
  · exact fun E n v w a0 a1 hn hI => step_ticks hI hn a0 a1
  · exact fun E n v w a0 hn hI => step_rest hI hn a0
  · exact fun E n v w a0 a1 hn hI => step_when hI hn a0 a1
  · exact fun E n v w hn hI => step_begin hI
  · exact fun E n v w hn hI => step_end hI
  · exact fun E n v w a0 hn hI => step_carry hI hn a0
  · exact fun E n v w hn hI => step_undo hI hn
  · exact fun E n v w hn hI => step_acts hI
  · exact fun E n v w a0 a1 hn hI => stF_Q hI (F := fun v => fR_ask v a0 a1) (G := fun w => fC__ask w a0 a1) (q_ask hI.g.1 a0 a1)
  · exact fun E n v w a0 a1 a2 hn hI => stL_Q hI (F := fun v => fR_take v a0 a1 a2) (G := fun w => fC__take w a0 a1 a2) (q_take hI.g.1 a0 a1 a2)
  · exact fun E n v w a0 hn hI => stF_Q hI (F := fun v => fR_size v a0) (G := fun w => fC__size w a0) (q_size hI.g.1 a0)
  · exact fun E n v w a0 a1 hn hI => stL_Q hI (F := fun v => fR_read v a0 a1) (G := fun w => fC__read w a0 a1) (q_read hI.g.1 a0 a1)
  · exact fun E n v w a0 a1 a2 hn hI => stF_Q hI (F := fun v => fR_at v a0 a1 a2) (G := fun w => fC__at w a0 a1 a2) (q_at hI.g.1 a0 a1 a2)
  · exact fun E n v w a0 a1 hn hI => stF_Q hI (F := fun v => fR_tell v a0 a1) (G := fun w => fC__tell w a0 a1) (q_tell hI.g.1 a0 a1)
  · exact fun E n v w hn hI => step_why hI
