/-! The law's function tells true for every script. -/
theorem R_loopa {xs : Nat → Int32} {L : Nat} (hL : L ≤ 260) (kc : tc_X → tc_Z → Option Int32) {pa lv : Nat → Nat} {x : tc_X} {y : tc_Y} {z : tc_Z} {t : Nat} (J : tc_J pa lv x y z t) (ht : t ≤ 1050) (a : Int32) (ha : a = nI 0) : ∃ pa' lv' x' y' z' t', lp_L_law_24 61 xs L kc a x z = kc x' z' ∧ tc_J pa' lv' x' y' z' t' ∧ t' ≤ 3150 := by
  subst ha
  exact R_loop hL kc 61 0 pa lv x y z t J (by omega) (by decide) (by decide)
theorem law_one {xs : Nat → Int32} {L : Nat} (hL : L ≤ 260) : f_L_law xs L = some 1 := by
  obtain ⟨pa, lv, x, y, z, t, e, J, ht⟩ := B_build (xs := xs) hL
  unfold f_L_law
  rw [tc_leteq, e, lk_b3, if_pos rfl, tc_jneq]
  obtain ⟨pa', lv', x', y', z', t', e2, J2, -⟩ := R_loopa (xs := xs) hL (fun (x13 : tc_X) (z14 : tc_Z) => (if f_S_isSame x13 z14 = some 1 then some (1 : Int32) else none)) J ht 0 rfl
  rw [e2, lk_same J2, if_pos rfl]
