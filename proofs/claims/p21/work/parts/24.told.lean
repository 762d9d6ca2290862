/-! What is told of a crane and of a barrel (written by wip/whole/hand7.py). -/
section TCTD
variable {pa lv : Nat → Nat} {x : tc_X} {y : tc_Y}
theorem tc_Rl.ld_iff (h : tc_Rl pa lv x y) {c b : Nat} (hc : c < tc_nc x) (hb : b < tc_nb x) : y 14 c = nI b ↔ x.2.1 2 c = some b := by
  have k := h.2.2.1 c hc
  have h40 := h.1.2.2.2.1
  cases e : x.2.1 2 c with
  | none =>
    rw [k.2.2.2.2.2.2.2.2.2.2.2.1 e]
    exact ⟨fun z => absurd z.symm (tc_nIneg (by omega)).1, fun z => by cases z⟩
  | some j =>
    obtain ⟨j1, j2, -⟩ := k.2.2.2.2.2.2.2.2.2.2.2.2 j e
    rw [j2, nI_eq (by omega) (by omega)]
    exact ⟨fun z => by rw [z], fun z => Option.some.inj z⟩
theorem tc_Rl.coN (h : tc_Rl pa lv x y) {b : Nat} (hb : b < tc_nb x) (hno : ∀ c, c < tc_nc x → ¬ x.2.1 2 c = some b) (n : Nat) : ∀ k, k ≤ tc_nc x → tc_nc x - k < n → lp_X3_craneOf_2 n y (nI b) (nI k) = some (-1) := by
  have h5 := h.1.2.2.2.2
  induction n with
  | zero => intro k _ h; omega
  | succ n ih =>
    intro k hk hn
    rw [lp_X3_craneOf_2, h.1.2.2.1]
    by_cases e : k = tc_nc x
    · rw [e, if_pos (nI_le (Nat.le_refl _) (by omega))]
    · rw [if_neg (nI_ge (a := k) (by omega) (by omega)), tc_cl (show k ≤ 1000 by omega), if_pos (tc_g2 (show k < 5 by omega) (show k ≤ 1000 by omega)), if_neg (fun z => hno k (by omega) ((h.ld_iff (by omega) hb).mp z)), nI_1, tc_leteq]
      exact ih (k + 1) (by omega) (by omega)
theorem tc_Rl.coS (h : tc_Rl pa lv x y) {b c : Nat} (hb : b < tc_nb x) (hc : c < tc_nc x) (hcb : x.2.1 2 c = some b) (hun : ∀ c', c' < tc_nc x → x.2.1 2 c' = some b → c' = c) (n : Nat) : ∀ k, k ≤ c → c - k < n → lp_X3_craneOf_2 n y (nI b) (nI k) = some (nI c) := by
  have h5 := h.1.2.2.2.2
  induction n with
  | zero => intro k _ h; omega
  | succ n ih =>
    intro k hk hn
    rw [lp_X3_craneOf_2, h.1.2.2.1, if_neg (nI_ge (a := k) (by omega) (by omega)), tc_cl (show k ≤ 1000 by omega), if_pos (tc_g2 (show k < 5 by omega) (show k ≤ 1000 by omega))]
    by_cases e : k = c
    · subst e
      rw [if_pos ((h.ld_iff hc hb).mpr hcb)]
    · rw [if_neg (fun z => e (hun k (by omega) ((h.ld_iff (by omega) hb).mp z))), nI_1, tc_leteq]
      exact ih (k + 1) (by omega) (by omega)
theorem tc_Rl.co (h : tc_Rl pa lv x y) {b : Nat} (hb : b < tc_nb x) : f_X3_craneOf y (nI b) = some (x.1 14 b) := by
  have h5 := h.1.2.2.2.2
  have k := h.2.1 b hb
  by_cases e : pa b = 16
  · obtain ⟨c, c1, c2, c3⟩ := (k.2.2.2.2.1 e).2.2.2
    rw [c2]
    exact h.coS hb c1 c3 (fun c' h1 h2 => by
      have z := ((h.2.2.1 c' h1).2.2.2.2.2.2.2.2.2.2.2.2 b h2).2.2.2
      rw [c2, nI_eq (by omega) (by omega)] at z
      exact z.symm) 100 0 (Nat.zero_le _) (by omega)
  · have hno : ∀ c, c < tc_nc x → ¬ x.2.1 2 c = some b := fun c hc z => e ((h.2.2.1 c hc).2.2.2.2.2.2.2.2.2.2.2.2 b z).2.2.1
    have e14 : x.1 14 b = -1 := by
      rcases (show pa b < 16 ∨ pa b = 17 by have := k.2.2.1; omega) with w | w
      · exact (k.2.2.2.1 w).2.2.2.2.2.1
      · exact (k.2.2.2.2.2.1 w).2.2.2
    rw [e14]
    exact h.coN hb hno 100 0 (Nat.zero_le _) (by omega)
theorem tc_Rl.nof (h : tc_Rl pa lv x y) {b : Nat} (hb : b < tc_nb x) : f_X2_numberOf x (some b) = some (nI b) := by
  show (if b < tc_nb x then some (x.1 10 b) else none) = _
  rw [if_pos hb, (h.2.1 b hb).1]
theorem tc_Rl.tC (h : tc_Rl pa lv x y) {c w : Nat} (hc : c < tc_nc x) (hw : w < 9) : ∃ v, f_X2_craneAnswer x c (nI w) = some v ∧ f_X3_craneTold y (nI c) (nI w) = some v := by
  have hc5 : c < 5 := Nat.lt_of_lt_of_le hc h.1.2.2.2.2
  have k := h.2.2.1 c hc
  obtain ⟨s1, s2⟩ := h.st2 hc
  have hg := tc_g2 hc5 (show c ≤ 1000 by omega)
  have hg9 := tc_g2 hw (show w ≤ 1000 by omega)
  have e3 : ∀ r3, r3 = (12 * x.1 23 c) / x.1 22 c → f_X3_craneTold y (nI c) (nI w) = some ((upd (upd (upd (upd (upd (upd (upd (upd (upd (fun _ : Nat => (0 : Int32)) (0 : Int32).toNatClampNeg (y 7 c)) (1 : Int32).toNatClampNeg (y 8 c)) (2 : Int32).toNatClampNeg (y 9 c)) (3 : Int32).toNatClampNeg (y 10 c)) (4 : Int32).toNatClampNeg (y 11 c)) (5 : Int32).toNatClampNeg (y 12 c)) (6 : Int32).toNatClampNeg (y 13 c)) (7 : Int32).toNatClampNeg (y 14 c)) (8 : Int32).toNatClampNeg r3) w) := fun r3 er => by
    subst er
    simp only [f_X3_craneTold, tc_cl (show c ≤ 1000 by omega), tc_cl (show w ≤ 1000 by omega), if_pos hg, s2, Option.bind_some, if_pos hg9]
  rw [e3 _ rfl]
  clear e3 hg9
  rcases (show w = 0 ∨ w = 1 ∨ w = 2 ∨ w = 3 ∨ w = 4 ∨ w = 5 ∨ w = 6 ∨ w = 7 ∨ w = 8 by omega) with rfl | rfl | rfl | rfl | rfl | rfl | rfl | rfl | rfl
  · exact ⟨x.1 20 c, by unfold f_X2_craneAnswer; rw [if_pos (show nI 0 = (0 : Int32) by decide), if_pos hc], by rw [k.1]; rfl⟩
  · exact ⟨x.1 21 c, by unfold f_X2_craneAnswer; rw [if_neg (show ¬ nI 1 = (0 : Int32) by decide), if_pos (show nI 1 = (1 : Int32) by decide), if_pos hc], by rw [k.2.1]; rfl⟩
  · exact ⟨x.1 22 c, by unfold f_X2_craneAnswer; rw [if_neg (show ¬ nI 2 = (0 : Int32) by decide), if_neg (show ¬ nI 2 = (1 : Int32) by decide), if_pos (show nI 2 = (2 : Int32) by decide), if_pos hc], by rw [k.2.2.1]; rfl⟩
  · exact ⟨x.1 23 c, by unfold f_X2_craneAnswer; rw [if_neg (show ¬ nI 3 = (0 : Int32) by decide), if_neg (show ¬ nI 3 = (1 : Int32) by decide), if_neg (show ¬ nI 3 = (2 : Int32) by decide), if_pos (show nI 3 = (3 : Int32) by decide), if_pos hc], by rw [k.2.2.2.1]; rfl⟩
  · exact ⟨x.1 24 c, by unfold f_X2_craneAnswer; rw [if_neg (show ¬ nI 4 = (0 : Int32) by decide), if_neg (show ¬ nI 4 = (1 : Int32) by decide), if_neg (show ¬ nI 4 = (2 : Int32) by decide), if_neg (show ¬ nI 4 = (3 : Int32) by decide), if_pos (show nI 4 = (4 : Int32) by decide), if_pos hc], by rw [k.2.2.2.2.1]; rfl⟩
  · exact ⟨x.1 25 c, by unfold f_X2_craneAnswer; rw [if_neg (show ¬ nI 5 = (0 : Int32) by decide), if_neg (show ¬ nI 5 = (1 : Int32) by decide), if_neg (show ¬ nI 5 = (2 : Int32) by decide), if_neg (show ¬ nI 5 = (3 : Int32) by decide), if_neg (show ¬ nI 5 = (4 : Int32) by decide), if_pos (show nI 5 = (5 : Int32) by decide), if_pos hc], by rw [k.2.2.2.2.2.1]; rfl⟩
  · exact ⟨x.1 26 c, by unfold f_X2_craneAnswer; rw [if_neg (show ¬ nI 6 = (0 : Int32) by decide), if_neg (show ¬ nI 6 = (1 : Int32) by decide), if_neg (show ¬ nI 6 = (2 : Int32) by decide), if_neg (show ¬ nI 6 = (3 : Int32) by decide), if_neg (show ¬ nI 6 = (4 : Int32) by decide), if_neg (show ¬ nI 6 = (5 : Int32) by decide), if_pos (show nI 6 = (6 : Int32) by decide), if_pos hc], by rw [k.2.2.2.2.2.2.1]; rfl⟩
  · cases e : x.2.1 2 c with
    | none => exact ⟨-1, by unfold f_X2_craneAnswer; rw [if_neg (show ¬ nI 7 = (0 : Int32) by decide), if_neg (show ¬ nI 7 = (1 : Int32) by decide), if_neg (show ¬ nI 7 = (2 : Int32) by decide), if_neg (show ¬ nI 7 = (3 : Int32) by decide), if_neg (show ¬ nI 7 = (4 : Int32) by decide), if_neg (show ¬ nI 7 = (5 : Int32) by decide), if_neg (show ¬ nI 7 = (6 : Int32) by decide), if_pos (show nI 7 = (7 : Int32) by decide), if_pos hc, e]; rfl, by have z := k.2.2.2.2.2.2.2.2.2.2.2.1 e; rw [← z]; rfl⟩
    | some j =>
      obtain ⟨j1, j2, -⟩ := k.2.2.2.2.2.2.2.2.2.2.2.2 j e
      exact ⟨nI j, by unfold f_X2_craneAnswer; rw [if_neg (show ¬ nI 7 = (0 : Int32) by decide), if_neg (show ¬ nI 7 = (1 : Int32) by decide), if_neg (show ¬ nI 7 = (2 : Int32) by decide), if_neg (show ¬ nI 7 = (3 : Int32) by decide), if_neg (show ¬ nI 7 = (4 : Int32) by decide), if_neg (show ¬ nI 7 = (5 : Int32) by decide), if_neg (show ¬ nI 7 = (6 : Int32) by decide), if_pos (show nI 7 = (7 : Int32) by decide), if_pos hc, e]; show Option.bind (f_X2_numberOf x (some j)) (fun r21 => some r21) = _; rw [h.nof j1]; rfl, by rw [← j2]; rfl⟩
  · exact ⟨_, by unfold f_X2_craneAnswer; rw [if_neg (show ¬ nI 8 = (0 : Int32) by decide), if_neg (show ¬ nI 8 = (1 : Int32) by decide), if_neg (show ¬ nI 8 = (2 : Int32) by decide), if_neg (show ¬ nI 8 = (3 : Int32) by decide), if_neg (show ¬ nI 8 = (4 : Int32) by decide), if_neg (show ¬ nI 8 = (5 : Int32) by decide), if_neg (show ¬ nI 8 = (6 : Int32) by decide), if_neg (show ¬ nI 8 = (7 : Int32) by decide), if_pos hc, s1]; rfl, rfl⟩
theorem tc_Rl.tB (h : tc_Rl pa lv x y) {b w : Nat} (hb : b < tc_nb x) (hw : w < 5) : ∃ v, f_X2_barrelAnswer x b (nI w) = some v ∧ f_X3_barrelTold y (nI b) (nI w) = some v := by
  have hb40 : b < 40 := Nat.lt_of_lt_of_le hb h.1.2.2.2.1
  have k := h.2.1 b hb
  have hg := tc_g2 hb40 (show b ≤ 1000 by omega)
  have hg5 := tc_g2 hw (show w ≤ 1000 by omega)
  obtain ⟨st, f2, f4, hst, hM⟩ : ∃ (st f2 f4 : Int32), (x.1 12 b = st ∧ (if x.1 15 b = 0 then some (0 : Int32) else some 1) = some f4 ∧ (if x.1 12 b = -1 then some (0 : Int32) else Option.bind (f_X2_heightOf x (x.1 12 b)) (fun r8 => some ((r8 - (x.1 13 b)) - 1))) = some f2) ∧ f_X3_barrelTold y (nI b) (nI w) = some ((upd (upd (upd (upd (upd (fun _ : Nat => (0 : Int32)) (0 : Int32).toNatClampNeg (y 3 b)) (1 : Int32).toNatClampNeg st) (2 : Int32).toNatClampNeg f2) (3 : Int32).toNatClampNeg (x.1 14 b)) (4 : Int32).toNatClampNeg f4) w) := by
    rcases (show pa b < 16 ∨ pa b = 16 ∨ pa b = 17 by have := k.2.2.1; omega) with e | e | e
    · obtain ⟨q1, q2, q3, q4, q5, q6, q7, -⟩ := k.2.2.2.1 e
      have nn := tc_nIneg (p := pa b) (by omega)
      refine ⟨nI (pa b), nI (tc_cnt pa (tc_nb x) (pa b)) - 1 - nI (lv b), 0, ⟨q2, by rw [q7]; rfl, ?_⟩, ?_⟩
      · rw [q2, if_neg nn.1, h.ht e, q4]
        show some _ = some _
        congr 1
        rw [pk_sub (Nat.le_of_lt q5), show (1 : Int32) = nI 1 from rfl, pk_sub (by omega), pk_sub (by omega), pk_sub (by omega)]
        congr 1
        omega
      · simp only [f_X3_barrelTold, tc_cl (show b ≤ 1000 by omega), tc_cl (show w ≤ 1000 by omega), if_pos hg, q1, if_neg nn.2.2, if_neg tc_10, h.hi e, h.co hb, Option.bind_some, if_neg nn.2.1, if_pos hg5, q3]
    · obtain ⟨q1, q2, q3, -⟩ := k.2.2.2.2.1 e
      refine ⟨-1, 0, 0, ⟨q2, by rw [q3]; rfl, by rw [q2]; rfl⟩, ?_⟩
      simp only [f_X3_barrelTold, tc_cl (show b ≤ 1000 by omega), tc_cl (show w ≤ 1000 by omega), if_pos hg, q1, if_pos (show (-1 : Int32) < 0 by decide), if_pos, h.co hb, Option.bind_some, if_neg (show ¬ (-1 : Int32) = -2 by decide), if_pos hg5]
    · obtain ⟨q1, q2, q3, -⟩ := k.2.2.2.2.2.1 e
      refine ⟨-1, 0, 1, ⟨q2, by rw [q3]; rfl, by rw [q2]; rfl⟩, ?_⟩
      simp only [f_X3_barrelTold, tc_cl (show b ≤ 1000 by omega), tc_cl (show w ≤ 1000 by omega), if_pos hg, q1, if_pos (show (-2 : Int32) < 0 by decide), if_pos, h.co hb, Option.bind_some, if_pos hg5]
  rw [hM]
  clear hM hg5
  rcases (show w = 0 ∨ w = 1 ∨ w = 2 ∨ w = 3 ∨ w = 4 by omega) with rfl | rfl | rfl | rfl | rfl
  · exact ⟨x.1 11 b, by unfold f_X2_barrelAnswer; rw [if_pos (show nI 0 = (0 : Int32) by decide), if_pos hb], by rw [k.2.1]; rfl⟩
  · exact ⟨x.1 12 b, by unfold f_X2_barrelAnswer; rw [if_neg (show ¬ nI 1 = (0 : Int32) by decide), if_pos (show nI 1 = (1 : Int32) by decide), if_pos hb], by rw [hst.1]; rfl⟩
  · exact ⟨f2, by unfold f_X2_barrelAnswer; rw [if_neg (show ¬ nI 2 = (0 : Int32) by decide), if_neg (show ¬ nI 2 = (1 : Int32) by decide), if_pos (show nI 2 = (2 : Int32) by decide), if_pos hb]; exact hst.2.2, rfl⟩
  · exact ⟨x.1 14 b, by unfold f_X2_barrelAnswer; rw [if_neg (show ¬ nI 3 = (0 : Int32) by decide), if_neg (show ¬ nI 3 = (1 : Int32) by decide), if_neg (show ¬ nI 3 = (2 : Int32) by decide), if_pos (show nI 3 = (3 : Int32) by decide), if_pos hb], rfl⟩
  · exact ⟨f4, by unfold f_X2_barrelAnswer; rw [if_neg (show ¬ nI 4 = (0 : Int32) by decide), if_neg (show ¬ nI 4 = (1 : Int32) by decide), if_neg (show ¬ nI 4 = (2 : Int32) by decide), if_neg (show ¬ nI 4 = (3 : Int32) by decide), if_pos hb]; exact hst.2.1, rfl⟩
end TCTD
theorem tc_ans {x : tc_X} {a M : Int32} {n : Nat} (hM : M = nI n) (h1 : 1 ≤ n) (hn : n ≤ 1000) : (f_X3_isIn a 0 (nI (n - 1)) = some 0 ∧ f_X2_requireAnswer x a M = some 1) ∨ ∃ w, w < n ∧ a = nI w ∧ f_X3_isIn a 0 (nI (n - 1)) = some 1 ∧ f_X2_requireAnswer x a M = some 0 := by
  subst hM
  have e : nI n - 1 = nI (n - 1) := pk_sub h1
  unfold f_X2_requireAnswer
  rw [tc_inR, e]
  rcases tc_in01 a 0 (nI (n - 1)) with ⟨q, -⟩ | ⟨q, q0, q1⟩
  · rw [q]; exact Or.inl ⟨rfl, rfl⟩
  · obtain ⟨j, hj, ej⟩ := tc_nat (n := n - 1) (nI_toInt (by omega)) q0 q1
    rw [q]; exact Or.inr ⟨j, by omega, ej, rfl, rfl⟩
theorem tc_op_crane : op_crane tc_R := by
  intro x y a1 a2 ⟨pa, lv, h⟩
  have h0 := h.th 0
  rcases tc_crn h0 a1 with ⟨e3, e2⟩ | ⟨c, hc, rfl, e3, e2⟩
  · exact ⟨1, 0, 0, tc_ym (tc_ym y 0 0 0) 0 0 1, by simp only [f_X2_crane, e2, Option.bind_some, if_neg tc_k1], by simp only [f_X3_crane, tc_let, e3, Option.bind_some, if_pos, f_X3_no, tc_b2], by decide, tc_th0, fun z => absurd z (by decide), tc_no h 1⟩
  · rcases tc_ans (x := x) (a := a2) (M := 9) (n := 9) rfl (by decide) (by decide) with ⟨p3, p2⟩ | ⟨w, hw, rfl, p3, p2⟩
    · have p3 : f_X3_isIn a2 0 8 = some 0 := p3
      exact ⟨1, 0, 0, tc_ym (tc_ym y 0 0 0) 0 0 1, by simp only [f_X2_crane, e2, Option.bind_some, if_pos, p2, if_neg tc_k1], by simp only [f_X3_crane, tc_let, e3, Option.bind_some, if_neg tc_10, p3, if_pos, f_X3_no, tc_b2], by decide, tc_th0, fun z => absurd z (by decide), tc_no h 1⟩
    · have p3 : f_X3_isIn (nI w) 0 8 = some 1 := p3
      obtain ⟨v, v2, v3⟩ := h0.tC hc hw
      exact ⟨0, v, v, tc_ym y 0 0 0, by simp only [f_X2_crane, e2, Option.bind_some, if_pos, p2, tc_cl (show c ≤ 1000 by have := h.1.2.2.2.2; omega), if_pos (tc_g2 hc (show c ≤ 1000 by have := h.1.2.2.2.2; omega)), tc_let, v2], by simp only [f_X3_crane, tc_let, e3, Option.bind_some, if_neg tc_10, p3, v3], by decide, tc_th0, fun _ => rfl, pa, lv, h0⟩
theorem tc_brl {pa lv : Nat → Nat} {x : tc_X} {y : tc_Y} (h : tc_Rl pa lv x y) (a : Int32) : (f_X3_isIn a 0 ((y 2 0) - 1) = some 0 ∧ f_X2_isBetween a 0 ((nI (tc_nb x)) - 1) = some 0) ∨ (∃ b, b < tc_nb x ∧ a = nI b ∧ f_X3_isIn a 0 ((y 2 0) - 1) = some 1 ∧ f_X2_isBetween a 0 ((nI (tc_nb x)) - 1) = some 1) := by
  obtain ⟨⟨-, g2, -, g4, -⟩, -⟩ := h
  rw [tc_inR, g2]
  rcases tc_in01 a 0 (nI (tc_nb x) - 1) with ⟨h, -⟩ | ⟨h, h0, h1⟩
  · exact Or.inl ⟨h, h⟩
  · have hn : 0 < tc_nb x := by
      rcases Nat.eq_zero_or_pos (tc_nb x) with z | z
      · rw [z] at h1
        exact absurd (Int32.le_trans h0 h1) (by decide)
      · exact z
    have e1 : nI (tc_nb x) - 1 = nI (tc_nb x - 1) := pk_sub hn
    rw [e1] at h1
    obtain ⟨j, hj, e⟩ := tc_nat (n := tc_nb x - 1) (nI_toInt (by omega)) h0 h1
    exact Or.inr ⟨j, by omega, e, h, h⟩
theorem tc_op_barrel : op_barrel tc_R := by
  intro x y a1 a2 ⟨pa, lv, h⟩
  have h0 := h.th 0
  rcases tc_brl h0 a1 with ⟨e3, e2⟩ | ⟨c, hc, rfl, e3, e2⟩
  · exact ⟨1, 0, 0, tc_ym (tc_ym y 0 0 0) 0 0 1, by simp only [f_X2_barrel, e2, Option.bind_some, if_pos], by simp only [f_X3_barrel, tc_let, e3, Option.bind_some, if_pos, f_X3_no, tc_b2], by decide, tc_th0, fun z => absurd z (by decide), tc_no h 1⟩
  · rcases tc_ans (x := x) (a := a2) (M := 5) (n := 5) rfl (by decide) (by decide) with ⟨p3, p2⟩ | ⟨w, hw, rfl, p3, p2⟩
    · have p3 : f_X3_isIn a2 0 4 = some 0 := p3
      exact ⟨1, 0, 0, tc_ym (tc_ym y 0 0 0) 0 0 1, by simp only [f_X2_barrel, e2, Option.bind_some, if_neg tc_10, p2, if_neg tc_k1], by simp only [f_X3_barrel, tc_let, e3, Option.bind_some, if_neg tc_10, p3, if_pos, f_X3_no, tc_b2], by decide, tc_th0, fun z => absurd z (by decide), tc_no h 1⟩
    · have p3 : f_X3_isIn (nI w) 0 4 = some 1 := p3
      obtain ⟨v, v2, v3⟩ := h0.tB hc hw
      exact ⟨0, v, v, tc_ym y 0 0 0, by simp only [f_X2_barrel, e2, Option.bind_some, if_neg tc_10, p2, if_pos, tc_cl (show c ≤ 1000 by have := h.1.2.2.2.1; omega), if_pos (tc_g2 hc (show c ≤ 1000 by have := h.1.2.2.2.1; omega)), tc_let, v2], by simp only [f_X3_barrel, tc_let, e3, Option.bind_some, if_neg tc_10, p3, v3], by decide, tc_th0, fun _ => rfl, pa, lv, h0⟩
