/-! All calls together, and the walk from the entry. -/
theorem tc_ops : tc_Ops tc_R := ⟨tc_R0, tc_R.wf, tc_op_land, tc_op_build, tc_op_man, tc_op_mend, tc_op_turn, tc_op_hoist, tc_op_take, tc_op_lay, tc_op_place, tc_op_barrel, tc_op_crane, tc_op_count, tc_op_move, tc_op_best, tc_op_lasts, tc_op_within, tc_op_mean, tc_op_digest⟩
theorem whole_start {p : Program} {e : Env} {s : State} {m : MethodId} {below : List Frame} {meth : Method} {c : Code} (l : Launch) (hflags : l.flags = flags0) {b L : Nat} {xs : Nat → Int32} (hL : L ≤ 2560) (C0 : lw_At p s m meth c b L xs) : W p l e room_1 s m #[Value.ref b] below meth c s.heap [] 0 0 (lw_Z below #[Value.ref b] s) (entryFrame m ([Value.ref b] : List Value).toArray 9) :=
  law_start l (tc_ST (hl := hflags)) tc_ops hL C0
