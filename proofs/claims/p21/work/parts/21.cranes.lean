/-! Calls that change a crane's numbers alone: man, mend; what they share. -/
theorem tc_10 : ¬ ((1 : Int32) = 0) := by decide
theorem tc_k1 : ¬ ((1 : Nat) = 0) := by decide
theorem tc_k2 : ¬ ((2 : Nat) = 0) := by decide
theorem tc_k3 : ¬ ((3 : Nat) = 0) := by decide
theorem tc_g2 {c n : Nat} (h : c < n) (hc : c ≤ 1000) : ¬ nI c < 0 ∧ c < n := ⟨nI_pos (by omega), h⟩
section TCRC
variable {pa lv : Nat → Nat} {x x' : tc_X} {y y' : tc_Y} {c : Nat}
theorem tc_ymv {a i : Nat} {v : Int32} : tc_ym y a i v a i = v := by rw [tc_ym_eq]; exact pk_us
theorem tc_ymi {a i b i' : Nat} {v : Int32} (h : i' ≠ i) : tc_ym y a i v b i' = y b i' := by
  by_cases e : b = a
  · subst e; rw [tc_ym_eq]; exact if_neg h
  · rw [tc_ym_ne e]
theorem tc_Rl.chgC (h : tc_Rl pa lv x y) (hc : c < tc_nc x) (e2 : x'.2 = x.2) (e1 : ∀ k i, 10 ≤ k → ¬ (20 ≤ k ∧ i = c) → x'.1 k i = x.1 k i) (et : x'.1 0 0 = y' 1 0) (ey : ∀ a, (2 ≤ a ∧ a ≤ 6) ∨ a = 14 → y' a = y a) (eyc : ∀ a i, i ≠ c → 7 ≤ a → y' a i = y a i) (hRc : tc_Rc pa x' y' c) : tc_Rl pa lv x' y' := by
  obtain ⟨⟨g1, g2, g3, g4, g5⟩, hb, hcr, hp, i1, i2, i3, i4, i5⟩ := h
  have en : tc_nb x' = tc_nb x := by unfold tc_nb; rw [e2]
  have ec : tc_nc x' = tc_nc x := by unfold tc_nc; rw [e2]
  have er : x'.2.1 = x.2.1 := by rw [e2]
  refine ⟨⟨et, by rw [ey 2 (by omega), en]; exact g2, by rw [ey 6 (by omega), ec]; exact g3, by rw [en]; exact g4, by rw [ec]; exact g5⟩, fun b hb' => ?_, fun i hi => ?_, fun p hp' => ?_, ?_⟩
  · rw [en] at hb'
    have k := hb b hb'
    unfold tc_Rb at k ⊢
    rw [e1 10 b (by decide) (by omega), e1 11 b (by decide) (by omega), e1 12 b (by decide) (by omega), e1 13 b (by decide) (by omega), e1 14 b (by decide) (by omega), e1 15 b (by decide) (by omega), en, ec, er, ey 3 (by omega), ey 4 (by omega), ey 5 (by omega)]
    exact k
  · rw [ec] at hi
    by_cases e : i = c
    · subst e; exact hRc
    · have k := hcr i hi
      unfold tc_Rc at k ⊢
      rw [e1 20 i (by decide) (by omega), e1 21 i (by decide) (by omega), e1 22 i (by decide) (by omega), e1 23 i (by decide) (by omega), e1 24 i (by decide) (by omega), e1 25 i (by decide) (by omega), e1 26 i (by decide) (by omega), en, er, eyc 7 i e (by decide), eyc 8 i e (by decide), eyc 9 i e (by decide), eyc 10 i e (by decide), eyc 11 i e (by decide), eyc 12 i e (by decide), eyc 13 i e (by decide), ey 14 (by omega)]
      refine ⟨k.1, k.2.1, k.2.2.1, k.2.2.2.1, k.2.2.2.2.1, k.2.2.2.2.2.1, k.2.2.2.2.2.2.1, k.2.2.2.2.2.2.2.1, k.2.2.2.2.2.2.2.2.1, k.2.2.2.2.2.2.2.2.2.1, k.2.2.2.2.2.2.2.2.2.2.1, k.2.2.2.2.2.2.2.2.2.2.2.1, fun b hb' => ?_⟩
      rw [e1 14 b (by decide) (by omega)]
      exact k.2.2.2.2.2.2.2.2.2.2.2.2 b hb'
  · have k := hp p hp'
    unfold tc_Rp at k ⊢
    rw [en, er]; exact k
  · unfold tc_Ri
    rw [en, ec, er]
    exact ⟨i1, i2, i3, i4, fun c' h' => by rw [eyc 11 c' (by omega) (by decide)]; exact i5 c' h'⟩
theorem tc_no (h : tc_Rl pa lv x y) (v : Int32) : tc_R x (tc_ym (tc_ym y 0 0 0) 0 0 v) := ⟨pa, lv, (h.th 0).th v⟩
end TCRC
theorem tc_op_man : op_man tc_R := by
  intro x y a1 a2 ⟨pa, lv, h⟩
  have h0 := h.th 0
  rcases tc_crn h0 a1 with ⟨e3, e2⟩ | ⟨c, hc, rfl, e3, e2⟩
  · exact ⟨1, 0, x, 0, tc_ym (tc_ym y 0 0 0) 0 0 1, by simp only [f_X2_man, e2, Option.bind_some, if_neg tc_k1], by simp only [f_X3_man, tc_let, e3, Option.bind_some, if_pos, f_X3_no, tc_b2], by decide, fun _ => rfl, tc_th0, fun z => absurd z (by decide), tc_no h 1⟩
  · have hc5 : c < 5 := Nat.lt_of_lt_of_le hc h.1.2.2.2.2
    rcases tc_in01 a2 0 8 with ⟨e, -⟩ | ⟨e, -, -⟩
    · have ew : f_X2_requireWalkers x a2 = some 2 := by unfold f_X2_requireWalkers; rw [tc_inR, e]; rfl
      exact ⟨2, 0, x, 0, tc_ym (tc_ym y 0 0 0) 0 0 2, by simp only [f_X2_man, e2, Option.bind_some, if_pos, ew, if_neg tc_k2], by simp only [f_X3_man, tc_let, e3, Option.bind_some, if_neg tc_10, e, if_pos, f_X3_no, tc_b2], by decide, fun _ => rfl, tc_th0, fun z => absurd z (by decide), tc_no h 2⟩
    · have ew : f_X2_requireWalkers x a2 = some 0 := by unfold f_X2_requireWalkers; rw [tc_inR, e]; rfl
      have k := h.2.2.1 c hc
      refine ⟨0, x.1 23 c, tc_si x 23 c a2, tc_ym y 0 0 0 10 c, tc_ym (tc_ym y 0 0 0) 10 c a2, by simp only [f_X2_man, e2, Option.bind_some, if_pos, ew, if_pos (tc_g2 hc (show c ≤ 1000 by omega)), tc_let, tc_cl (c := c) (by omega)], by simp only [f_X3_man, tc_let, e3, Option.bind_some, if_neg tc_10, e, if_pos (tc_g2 hc5 (show c ≤ 1000 by omega)), tc_cl (c := c) (by omega)], by decide, fun z => absurd rfl z, by rw [tc_ym_ne (by decide)]; exact tc_th0, fun _ => by rw [tc_ym_ne (by decide)]; exact k.2.2.2.1.symm, pa, lv, ?_⟩
      refine h0.chgC hc rfl (fun k' i h1 h2 => tc_si_ne (by omega)) (by rw [tc_si_ne (by omega), tc_ym_ne (by decide)]; exact h0.1.1) (fun a ha => tc_ym_ne (by omega)) (fun a i hi ha => tc_ymi hi) ?_
      have k0 := h0.2.2.1 c hc
      unfold tc_Rc at k0 ⊢
      rw [tc_si_eq, tc_ymv, tc_si_ne (by omega), tc_si_ne (by omega), tc_si_ne (by omega), tc_si_ne (by omega), tc_si_ne (by omega), tc_si_ne (by omega), tc_ym_ne (show 7 ≠ 10 by decide), tc_ym_ne (show 8 ≠ 10 by decide), tc_ym_ne (show 9 ≠ 10 by decide), tc_ym_ne (show 11 ≠ 10 by decide), tc_ym_ne (show 12 ≠ 10 by decide), tc_ym_ne (show 13 ≠ 10 by decide), tc_ym_ne (show 14 ≠ 10 by decide)]
      exact ⟨k0.1, k0.2.1, k0.2.2.1, rfl, k0.2.2.2.2.1, k0.2.2.2.2.2.1, k0.2.2.2.2.2.2.1, k0.2.2.2.2.2.2.2.1, k0.2.2.2.2.2.2.2.2.1, k0.2.2.2.2.2.2.2.2.2.1, k0.2.2.2.2.2.2.2.2.2.2.1, k0.2.2.2.2.2.2.2.2.2.2.2.1, fun b hb => by rw [tc_si_ne (by omega)]; exact k0.2.2.2.2.2.2.2.2.2.2.2.2 b hb⟩
theorem tc_op_mend : op_mend tc_R := by
  intro x y a1 ⟨pa, lv, h⟩
  have h0 := h.th 0
  rcases tc_crn h0 a1 with ⟨e3, e2⟩ | ⟨c, hc, rfl, e3, e2⟩
  · exact ⟨1, 0, x, 0, tc_ym (tc_ym y 0 0 0) 0 0 1, by simp only [f_X2_mend, e2, Option.bind_some, if_neg tc_k1], by simp only [f_X3_mend, tc_let, e3, Option.bind_some, if_pos, f_X3_no, tc_b2], by decide, fun _ => rfl, tc_th0, fun z => absurd z (by decide), tc_no h 1⟩
  · have hc5 : c < 5 := Nat.lt_of_lt_of_le hc h.1.2.2.2.2
    have k := h.2.2.1 c hc
    refine ⟨0, x.1 24 c, tc_si x 24 c 0, tc_ym y 0 0 0 11 c, tc_ym (tc_ym y 0 0 0) 11 c 0, by simp only [f_X2_mend, e2, Option.bind_some, if_pos, if_pos (tc_g2 hc (show c ≤ 1000 by omega)), tc_let, tc_cl (c := c) (by omega)], by simp only [f_X3_mend, tc_let, e3, Option.bind_some, if_neg tc_10, if_pos (tc_g2 hc5 (show c ≤ 1000 by omega)), tc_cl (c := c) (by omega)], by decide, fun z => absurd rfl z, by rw [tc_ym_ne (by decide)]; exact tc_th0, fun _ => by rw [tc_ym_ne (by decide)]; exact k.2.2.2.2.1.symm, pa, lv, ?_⟩
    refine h0.chgC hc rfl (fun k' i h1 h2 => tc_si_ne (by omega)) (by rw [tc_si_ne (by omega), tc_ym_ne (by decide)]; exact h0.1.1) (fun a ha => tc_ym_ne (by omega)) (fun a i hi ha => tc_ymi hi) ?_
    have k0 := h0.2.2.1 c hc
    unfold tc_Rc at k0 ⊢
    rw [tc_si_eq, tc_ymv, tc_si_ne (by omega), tc_si_ne (by omega), tc_si_ne (by omega), tc_si_ne (by omega), tc_si_ne (by omega), tc_si_ne (by omega), tc_ym_ne (show 7 ≠ 11 by decide), tc_ym_ne (show 8 ≠ 11 by decide), tc_ym_ne (show 9 ≠ 11 by decide), tc_ym_ne (show 10 ≠ 11 by decide), tc_ym_ne (show 12 ≠ 11 by decide), tc_ym_ne (show 13 ≠ 11 by decide), tc_ym_ne (show 14 ≠ 11 by decide)]
    exact ⟨k0.1, k0.2.1, k0.2.2.1, k0.2.2.2.1, rfl, k0.2.2.2.2.2.1, k0.2.2.2.2.2.2.1, k0.2.2.2.2.2.2.2.1, k0.2.2.2.2.2.2.2.2.1, k0.2.2.2.2.2.2.2.2.2.1, k0.2.2.2.2.2.2.2.2.2.2.1, k0.2.2.2.2.2.2.2.2.2.2.2.1, fun b hb => by rw [tc_si_ne (by omega)]; exact k0.2.2.2.2.2.2.2.2.2.2.2.2 b hb⟩
theorem tc_op_lasts : op_lasts tc_R := by
  intro x y a1 a2 ⟨pa, lv, h⟩
  have h0 := h.th 0
  rcases tc_crn h0 a1 with ⟨e3, e2⟩ | ⟨c, hc, rfl, e3, e2⟩
  · exact ⟨1, 0, 0, tc_ym (tc_ym y 0 0 0) 0 0 1, by simp only [f_X2_lasts, e2, Option.bind_some, if_neg tc_k1], by simp only [f_X3_lasts, tc_let, e3, Option.bind_some, if_pos, f_X3_no, tc_b2], by decide, tc_th0, fun z => absurd z (by decide), tc_no h 1⟩
  · have hc5 : c < 5 := Nat.lt_of_lt_of_le hc h.1.2.2.2.2
    rcases tc_in01 a2 1 60 with ⟨e, -⟩ | ⟨e, l1, l2⟩
    · have ew : f_X2_requireWeight x a2 = some 2 := by unfold f_X2_requireWeight; rw [tc_inR, e]; rfl
      exact ⟨2, 0, 0, tc_ym (tc_ym y 0 0 0) 0 0 2, by simp only [f_X2_lasts, e2, Option.bind_some, if_pos, ew, if_neg tc_k2], by simp only [f_X3_lasts, tc_let, e3, Option.bind_some, if_neg tc_10, e, if_pos, f_X3_no, tc_b2], by decide, tc_th0, fun z => absurd z (by decide), tc_no h 2⟩
    · have ew : f_X2_requireWeight x a2 = some 0 := by unfold f_X2_requireWeight; rw [tc_inR, e]; rfl
      have k := h.2.2.1 c hc
      have hw : 1 ≤ a2 / 20 + 1 ∧ ¬ a2 / 20 + 1 = 0 := by
        obtain ⟨j, hj, ej⟩ := tc_nat (n := 60) (by decide) (Int32.le_trans (by decide) l1) l2
        rw [ej]
        have all : ∀ j, j < 61 → 1 ≤ nI j / 20 + 1 ∧ ¬ nI j / 20 + 1 = 0 := by decide +kernel
        exact all j (by omega)
      exact ⟨0, (99 - x.1 24 c) / (a2 / 20 + 1), (99 - tc_ym y 0 0 0 11 c) / (a2 / 20 + 1), tc_ym y 0 0 0, by simp only [f_X2_lasts, e2, Option.bind_some, if_pos, ew, f_X2_wearInATick, if_pos hw.1, if_pos (tc_g2 hc (show c ≤ 1000 by omega)), tc_let, tc_cl (c := c) (by omega), if_pos hw.2], by simp only [f_X3_lasts, tc_let, e3, Option.bind_some, if_neg tc_10, e, if_pos (tc_g2 hc5 (show c ≤ 1000 by omega)), tc_cl (c := c) (by omega), if_pos hw.2], by decide, tc_th0, fun _ => by rw [tc_ym_ne (by decide), k.2.2.2.2.1], pa, lv, h0⟩
