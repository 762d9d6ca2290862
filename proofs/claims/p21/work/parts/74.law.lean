/-! The law's rounds. -/
theorem tc_jneq {α β : Type} (K : α) (b : α → β) : tc_jn K b = b K := rfl
section LKH
variable {xs : Nat → Int32} {L : Nat}
set_option maxHeartbeats 4000000 in
theorem R_loop (hL : L ≤ 260) (kc : tc_X → tc_Z → Option Int32) (n : Nat) : ∀ i pa lv x y z t, tc_J pa lv x y z t → t ≤ 1050 + 35 * i → i ≤ 60 → 60 - i < n → ∃ pa' lv' x' y' z' t', lp_L_law_24 n xs L kc (nI i) x z = kc x' z' ∧ tc_J pa' lv' x' y' z' t' ∧ t' ≤ 3150 := by
  induction n with
  | zero => intro i pa lv x y z t _ _ _ h; omega
  | succ n ih =>
    intro i pa lv x y z t J htt hi hn
    rw [lp_L_law_24]
    have c60 : (60 : Int32) ≤ nI i ↔ 60 ≤ i := nI_leI (a := 60) (by omega) (by omega)
    by_cases e1 : i = 60
    · rw [if_pos (c60.mpr (by omega))]
      exact ⟨pa, lv, x, y, z, t, rfl, J, by omega⟩
    · obtain ⟨cv, ec⟩ := lk_cell xs hL (show i % 16 < 16 by omega)
      have h := J.1
      have et := J.2.2.2
      have h40 := h.n40
      have h5 := h.n5
      have cB := tc_cl (show tc_nb x ≤ 1000 by omega)
      have cC := tc_cl (show tc_nc x ≤ 1000 by omega)
      rw [if_neg (fun z => e1 (by have := c60.mp z; omega)), lk_16 (by omega), ec, Option.bind_some]
      generalize (cv >>> (((nI i / (16 : Int32)) * (4 : Int32)) &&& 31)) + ((59 : Int32) * nI i) = v26
      rw [tc_leteq, h.count1, Option.bind_some, h.count5, Option.bind_some, h.count0, et, Option.bind_some, h.count4, Option.bind_some, cB, if_pos (show ¬ nI (tc_nb x) < 0 ∧ tc_nb x ≤ 40 from ⟨nI_pos (by omega), h40⟩), tc_leteq, tc_jneq]
      obtain ⟨u41, e41, p41⟩ := P_89a h _ 0 rfl (fun _ => 0)
      rw [e41, cC, if_pos (show ¬ nI (tc_nc x) < 0 ∧ tc_nc x ≤ 5 from ⟨nI_pos (by omega), h5⟩), tc_leteq, tc_jneq]
      obtain ⟨u52, e52, p52⟩ := P_136a h _ 0 rfl (fun _ _ => 0)
      rw [e52, tc_wiy h.wf]
      obtain ⟨pa', lv', x', y', z', t', ea, J', T⟩ := A_act J v26
      have h' := J'.1
      have E' := J'.2.2.1
      have et' := J'.2.2.2
      have h40' := h'.n40
      have h5' := h'.n5
      have hall := h'.all
      have T0 := T
      obtain ⟨⟨t1, t2⟩, ⟨tb, tcn⟩, t17, ⟨k1, k2⟩, -⟩ := T0
      have n1 : ¬ nI t' < nI t := fun z => by
        have := (nI_ltI (by omega) (by omega)).mp z
        omega
      have n2 : ¬ (nI t + (35 : Int32)) < nI t' := fun z => by
        rw [show (35 : Int32) = nI 35 from rfl, nI_add] at z
        have := (nI_ltI (by omega) (by omega)).mp z
        omega
      have a17 := h.all
      have n3 : ¬ nI (tc_cnt pa' (tc_nb x') 17) < nI (tc_cnt pa (tc_nb x) 17) := fun z => by
        have := (nI_ltI (by omega) (by omega)).mp z
        omega
      have n4 : nI (tc_cnt pa' (tc_nb x') 17) ≤ nI (tc_cnt pa (tc_nb x) 17) + (1 : Int32) := by
        rw [nI_1]; exact (nI_leI (by omega) (by omega)).mpr (by omega)
      rw [ea, lk_b3, if_neg tc_10, h'.count0, et', Option.bind_some, if_neg n1, Option.bind_some, if_neg n2, h'.count4, Option.bind_some, if_neg n3, Option.bind_some, if_pos n4, tc_jneq, P_243a h h' tb t17 u41 p41 _ 0 rfl, tc_jneq]
      obtain ⟨s, hs, e283⟩ := P_283a h h' T u52 p52 _ 0 rfl
      have ns : nI s ≤ (1 : Int32) := (nI_leI (b := 1) (by omega) (by omega)).mpr hs
      have nall : nI (tc_s16 (tc_cnt pa' (tc_nb x')) 16) + nI (tc_cnt pa' (tc_nb x') 16) + nI (tc_cnt pa' (tc_nb x') 17) = nI (tc_nb x') := by rw [nI_add, nI_add, hall]
      obtain ⟨dv, y9, ed, -, -⟩ := tc_op_digest x' y' ⟨pa', lv', h'⟩
      obtain ⟨f, hf, ef⟩ := lk_Jbelow (v26 >>> ((3 : Int32) &&& 31)) (n := 16) (by decide) (by decide)
      have ef' : f_L_below (v26 >>> ((3 : Int32) &&& 31)) 16 = some (nI f) := ef
      obtain ⟨g, hg, eg⟩ := lk_Jbelow (v26 >>> ((5 : Int32) &&& 31)) (n := 8) (by decide) (by decide)
      have eg' : f_L_below (v26 >>> ((5 : Int32) &&& 31)) 8 = some (nI g) := eg
      have e3g : (3 : Int32) + nI g = nI (3 + g) := nI_add 3 g
      have hg3 : 3 + g < 16 := by omega
      obtain ⟨r, er, B⟩ := lk_best h' E' hf hg3
      rw [e283, if_pos ns, h'.count5, Option.bind_some, h'.count1, Option.bind_some, tc_jneq, P_526a h' _ 0 rfl, tc_jneq, P_730a h' E' _ 0 rfl, if_pos rfl, if_pos rfl, h'.count2, Option.bind_some, if_pos rfl, h'.count3, Option.bind_some, if_pos rfl, Option.bind_some, if_pos nall, ed, Option.bind_some, ef', Option.bind_some, eg', Option.bind_some, tc_leteq, e3g, er, Option.bind_some, tc_jneq, P_958a h' E' hf hg3 B _ 0 rfl, tc_jneq, Option.bind_some, tc_cmp0, if_pos rfl, tc_leteq, nI_1]
      have fin := ih (i + 1) pa' lv' x' y' z' t' J' (by omega) (by omega) (by omega)
      rcases B with ⟨b1, -⟩ | ⟨b, b1, b2, b3, -⟩
      · rw [b1, if_pos (show (-1 : Int32) < 0 by decide)]; exact fin
      · rw [b1, if_neg (show ¬ nI b < 0 from nI_pos (by omega)), lk_move h' E' b2 hf hg3, Option.bind_some]
        rcases (lk_mS h' E' b2 hf hg3).2 with w | ⟨T9, w1, w2, -⟩
        · exact absurd w b3
        · rw [w1, if_neg (show ¬ nI T9 < 0 from nI_pos (by omega))]; exact fin
end LKH
