/-! One crane more. -/
theorem tc_ldc_congr {ld ld' : Nat → Option Nat} (n : Nat) (h : ∀ i, i < n → ld i = ld' i) : tc_ldc ld n = tc_ldc ld' n := by
  induction n with
  | zero => rfl
  | succ n ih =>
    show tc_ldc ld n + (if ld n = none then 0 else 1) = tc_ldc ld' n + (if ld' n = none then 0 else 1)
    rw [ih (fun i hi => h i (by omega)), h n (by omega)]
section TCBD
variable {pa lv : Nat → Nat} {x : tc_X} {y : tc_Y}
def tc_yC (y : tc_Y) (n : Nat) (a1 a2 a3 a4 : Int32) : tc_Y := tc_ym (tc_ym (tc_ym (tc_ym (tc_ym (tc_ym (tc_ym (tc_ym y 7 n a1) 8 n a2) 9 n a3) 10 n a4) 12 n a1) 13 n 10) 14 n (-1)) 6 0 (nI n + 1)
theorem tc_nC1 {a1 a2 a3 a4 : Int32} {k i : Nat} (h : ¬ (i = tc_nc x ∧ 20 ≤ k ∧ k ≤ 26)) : (tc_nC x a1 a2 a3 a4).1 k i = x.1 k i := if_neg h
theorem tc_nC2 {a1 a2 a3 a4 : Int32} {k i : Nat} (h : ¬ (k = 2 ∧ i = tc_nc x)) : (tc_nC x a1 a2 a3 a4).2.1 k i = x.2.1 k i := if_neg h
theorem tc_yCi {n : Nat} {a1 a2 a3 a4 : Int32} {a i : Nat} (ha : a ≠ 6) (h : i ≠ n) : tc_yC y n a1 a2 a3 a4 a i = y a i := by
  unfold tc_yC
  rw [tc_ym_ne ha, tc_ymi h, tc_ymi h, tc_ymi h, tc_ymi h, tc_ymi h, tc_ymi h, tc_ymi h]
theorem tc_yCa {n : Nat} {a1 a2 a3 a4 : Int32} {a : Nat} (ha : a ≤ 5 ∨ a = 11) : tc_yC y n a1 a2 a3 a4 a = y a := by
  unfold tc_yC
  rw [tc_ym_ne (by omega), tc_ym_ne (by omega), tc_ym_ne (by omega), tc_ym_ne (by omega), tc_ym_ne (by omega), tc_ym_ne (by omega), tc_ym_ne (by omega), tc_ym_ne (by omega)]
theorem tc_Rl.bd (h : tc_Rl pa lv x y) {p : Nat} (hp : p < 16) {a2 a3 a4 : Int32} (h3 : 1 ≤ a3) (h5 : tc_nc x < 5) : tc_Rl pa lv (tc_nC x (nI p) a2 a3 a4) (tc_yC y (tc_nc x) (nI p) a2 a3 a4) := by
  obtain ⟨⟨g1, g2, g3, g4, g5⟩, hb, hcr, hpp, i1, i2, i3, i4, i5⟩ := h
  have en : tc_nb (tc_nC x (nI p) a2 a3 a4) = tc_nb x := rfl
  have ec : tc_nc (tc_nC x (nI p) a2 a3 a4) = tc_nc x + 1 := rfl
  have r0 : ∀ i, (tc_nC x (nI p) a2 a3 a4).2.1 0 i = x.2.1 0 i := fun i => tc_nC2 (by omega)
  have r1 : ∀ i, (tc_nC x (nI p) a2 a3 a4).2.1 1 i = x.2.1 1 i := fun i => tc_nC2 (by omega)
  have r2 : ∀ i, i ≠ tc_nc x → (tc_nC x (nI p) a2 a3 a4).2.1 2 i = x.2.1 2 i := fun i hi => tc_nC2 (by omega)
  have b1 : ∀ k i, k ≤ 15 → (tc_nC x (nI p) a2 a3 a4).1 k i = x.1 k i := fun k i hk => tc_nC1 (by omega)
  refine ⟨⟨?_, ?_, ?_, g4, ?_⟩, fun b hb' => ?_, fun i hi => ?_, fun q hq => ?_, ?_⟩
  · rw [b1 0 0 (by decide), tc_yCa (by omega)]; exact g1
  · rw [tc_yCa (by omega), en]; exact g2
  · rw [ec]
    unfold tc_yC
    rw [tc_ymv, nI_1]
  · rw [ec]; omega
  · rw [en] at hb'
    have k := hb b hb'
    unfold tc_Rb at k ⊢
    rw [b1 10 b (by decide), b1 11 b (by decide), b1 12 b (by decide), b1 13 b (by decide), b1 14 b (by decide), b1 15 b (by decide), en, ec, r1, tc_yCa (a := 3) (by omega), tc_yCa (a := 4) (by omega), tc_yCa (a := 5) (by omega)]
    refine ⟨k.1, k.2.1, k.2.2.1, k.2.2.2.1, fun e => ?_, k.2.2.2.2.2.1, k.2.2.2.2.2.2⟩
    obtain ⟨z1, z2, z3, c, c1, c2, c3⟩ := k.2.2.2.2.1 e
    exact ⟨z1, z2, z3, c, by omega, c2, by rw [r2 c (by omega)]; exact c3⟩
  · rw [ec] at hi
    by_cases e : i = tc_nc x
    · subst e
      have v : ∀ k, 20 ≤ k → k ≤ 26 → (tc_nC x (nI p) a2 a3 a4).1 k (tc_nc x) = (if k = 20 then nI p else if k = 21 then a2 else if k = 22 then a3 else if k = 23 then a4 else if k = 24 then 0 else if k = 25 then nI p else 10) := fun k h1 h2 => if_pos ⟨rfl, h1, h2⟩
      unfold tc_Rc
      rw [v 20 (by decide) (by decide), v 21 (by decide) (by decide), v 22 (by decide) (by decide), v 23 (by decide) (by decide), v 24 (by decide) (by decide), v 25 (by decide) (by decide), v 26 (by decide) (by decide), tc_yCa (a := 11) (by omega), i5 _ (Nat.le_refl _)]
      have w7 : tc_yC y (tc_nc x) (nI p) a2 a3 a4 7 (tc_nc x) = nI p := by
        unfold tc_yC; rw [tc_ym_ne (by decide), tc_ym_ne (by decide), tc_ym_ne (by decide), tc_ym_ne (by decide), tc_ym_ne (by decide), tc_ym_ne (by decide), tc_ym_ne (by decide), tc_ymv]
      have w8 : tc_yC y (tc_nc x) (nI p) a2 a3 a4 8 (tc_nc x) = a2 := by
        unfold tc_yC; rw [tc_ym_ne (by decide), tc_ym_ne (by decide), tc_ym_ne (by decide), tc_ym_ne (by decide), tc_ym_ne (by decide), tc_ym_ne (by decide), tc_ymv]
      have w9 : tc_yC y (tc_nc x) (nI p) a2 a3 a4 9 (tc_nc x) = a3 := by
        unfold tc_yC; rw [tc_ym_ne (by decide), tc_ym_ne (by decide), tc_ym_ne (by decide), tc_ym_ne (by decide), tc_ym_ne (by decide), tc_ymv]
      have w10 : tc_yC y (tc_nc x) (nI p) a2 a3 a4 10 (tc_nc x) = a4 := by
        unfold tc_yC; rw [tc_ym_ne (by decide), tc_ym_ne (by decide), tc_ym_ne (by decide), tc_ym_ne (by decide), tc_ymv]
      have w12 : tc_yC y (tc_nc x) (nI p) a2 a3 a4 12 (tc_nc x) = nI p := by
        unfold tc_yC; rw [tc_ym_ne (by decide), tc_ym_ne (by decide), tc_ym_ne (by decide), tc_ymv]
      have w13 : tc_yC y (tc_nc x) (nI p) a2 a3 a4 13 (tc_nc x) = 10 := by
        unfold tc_yC; rw [tc_ym_ne (by decide), tc_ym_ne (by decide), tc_ymv]
      have w14 : tc_yC y (tc_nc x) (nI p) a2 a3 a4 14 (tc_nc x) = -1 := by
        unfold tc_yC; rw [tc_ym_ne (by decide), tc_ymv]
      rw [w7, w8, w9, w10, w12, w13, w14]
      have wl : (tc_nC x (nI p) a2 a3 a4).2.1 2 (tc_nc x) = none := if_pos ⟨rfl, rfl⟩
      rw [wl]
      exact ⟨rfl, rfl, rfl, rfl, rfl, rfl, rfl, ⟨p, hp, rfl⟩, h3, ⟨p, hp, rfl⟩, ⟨10, by decide, rfl⟩, fun _ => rfl, fun b hb => by cases hb⟩
    · have k := hcr i (by omega)
      have cx : ∀ k, (tc_nC x (nI p) a2 a3 a4).1 k i = x.1 k i := fun k => tc_nC1 (fun z => e z.1)
      unfold tc_Rc at k ⊢
      rw [cx, cx, cx, cx, cx, cx, cx, r2 i e, en, tc_yCi (by decide) e, tc_yCi (by decide) e, tc_yCi (by decide) e, tc_yCi (by decide) e, tc_yCi (by decide) e, tc_yCi (by decide) e, tc_yCi (by decide) e, tc_yCi (by decide) e]
      refine ⟨k.1, k.2.1, k.2.2.1, k.2.2.2.1, k.2.2.2.2.1, k.2.2.2.2.2.1, k.2.2.2.2.2.2.1, k.2.2.2.2.2.2.2.1, k.2.2.2.2.2.2.2.2.1, k.2.2.2.2.2.2.2.2.2.1, k.2.2.2.2.2.2.2.2.2.2.1, k.2.2.2.2.2.2.2.2.2.2.2.1, fun b hb' => ?_⟩
      rw [b1 14 b (by decide)]
      exact k.2.2.2.2.2.2.2.2.2.2.2.2 b hb'
  · have k := hpp q hq
    unfold tc_Rp at k ⊢
    rw [en, r0]; exact k
  · refine ⟨fun q hq => by rw [r0]; exact i1 q hq, i2, i3, ?_, fun c' h' => by rw [ec] at h'; rw [tc_yCa (by omega)]; exact i5 c' (by omega)⟩
    rw [en, ec]
    have wl : (tc_nC x (nI p) a2 a3 a4).2.1 2 (tc_nc x) = none := if_pos ⟨rfl, rfl⟩
    show _ = tc_ldc ((tc_nC x (nI p) a2 a3 a4).2.1 2) (tc_nc x) + (if (tc_nC x (nI p) a2 a3 a4).2.1 2 (tc_nc x) = none then 0 else 1)
    rw [wl, if_pos rfl, Nat.add_zero, i4]
    exact tc_ldc_congr _ (fun i hi => (r2 i (by omega)).symm)
end TCBD
theorem tc_op_build : op_build tc_R := by
  intro x y a1 a2 a3 a4 ⟨pa, lv, h⟩
  have h0 := h.th 0
  have hn5 := h.1.2.2.2.2
  rcases tc_plc a1 with ⟨e3, e2⟩ | ⟨p, hp, rfl, e3, -, e2⟩
  · exact ⟨1, 0, x, 0, tc_ym (tc_ym y 0 0 0) 0 0 1, by simp only [f_X2_build, e2, Option.bind_some, if_neg tc_k1], by simp only [f_X3_build, tc_leteq, e3, Option.bind_some, if_pos, f_X3_no, tc_b2], by decide, fun _ => rfl, tc_th0, fun z => absurd z (by decide), tc_no h 1⟩
  · rcases tc_in01 a2 1 15 with ⟨r, -⟩ | ⟨r, -, -⟩
    · exact ⟨2, 0, x, 0, tc_ym (tc_ym y 0 0 0) 0 0 2, by simp only [f_X2_build, e2, Option.bind_some, if_pos, tc_inR, r], by simp only [f_X3_build, tc_leteq, e3, Option.bind_some, if_neg tc_10, r, if_pos, f_X3_no, tc_b2], by decide, fun _ => rfl, tc_th0, fun z => absurd z (by decide), tc_no h 2⟩
    · rcases tc_in01 a3 1 6 with ⟨d, -⟩ | ⟨d, d1, -⟩
      · exact ⟨2, 0, x, 0, tc_ym (tc_ym y 0 0 0) 0 0 2, by simp only [f_X2_build, e2, Option.bind_some, if_pos, tc_inR, r, if_neg tc_10, d], by simp only [f_X3_build, tc_leteq, e3, Option.bind_some, if_neg tc_10, r, d, if_pos, f_X3_no, tc_b2], by decide, fun _ => rfl, tc_th0, fun z => absurd z (by decide), tc_no h 2⟩
      · rcases tc_in01 a4 0 8 with ⟨w, -⟩ | ⟨w, -, -⟩
        · have ew : f_X2_requireWalkers x a4 = some 2 := by unfold f_X2_requireWalkers; rw [tc_inR, w]; rfl
          exact ⟨2, 0, x, 0, tc_ym (tc_ym y 0 0 0) 0 0 2, by simp only [f_X2_build, e2, Option.bind_some, if_pos, tc_inR, r, if_neg tc_10, d, ew, if_neg tc_k2], by simp only [f_X3_build, tc_leteq, e3, Option.bind_some, if_neg tc_10, r, d, w, if_pos, f_X3_no, tc_b2], by decide, fun _ => rfl, tc_th0, fun z => absurd z (by decide), tc_no h 2⟩
        · have ew : f_X2_requireWalkers x a4 = some 0 := by unfold f_X2_requireWalkers; rw [tc_inR, w]; rfl
          have g6 : tc_ym y 0 0 0 6 0 = nI (tc_nc x) := h0.1.2.2.1
          have e5 : (nI (tc_nc x) < (5 : Int32)) ↔ tc_nc x < 5 := nI_ltI (b := 5) (by omega) (by omega)
          have e5' : (nI (tc_nc x) = (5 : Int32)) ↔ tc_nc x = 5 := nI_eq (b := 5) (by omega) (by omega)
          by_cases hfull : tc_nc x < 5
          · refine ⟨0, nI (tc_nc x + 1) - 1, tc_nC x (nI p) a2 a3 a4, nI (tc_nc x) + 1 - 1, tc_yC (tc_ym y 0 0 0) (tc_nc x) (nI p) a2 a3 a4, ?_, ?_, by decide, fun z => absurd rfl z, ?_, fun _ => by rw [nI_1], pa, lv, h0.bd hp d1 hfull⟩
            · simp only [f_X2_build, e2, Option.bind_some, if_pos, tc_inR, r, if_neg tc_10, d, ew, if_pos (e5.mpr hfull), if_pos hfull, tc_leteq]
              rfl
            · simp only [f_X3_build, tc_leteq, e3, Option.bind_some, if_neg tc_10, r, d, w, g6, if_neg (fun z => absurd (e5'.mp z) (by omega)), tc_ym_ne (show 6 ≠ 7 by decide), tc_ym_ne (show 6 ≠ 8 by decide), tc_ym_ne (show 6 ≠ 9 by decide), tc_ym_ne (show 6 ≠ 10 by decide), tc_ym_ne (show 6 ≠ 12 by decide), tc_ym_ne (show 6 ≠ 13 by decide), tc_ym_ne (show 6 ≠ 14 by decide), tc_cl (show tc_nc x ≤ 1000 by omega), if_pos (tc_g2 hfull (show tc_nc x ≤ 1000 by omega)), tc_ymv, tc_yC]
            · rw [tc_yCa (by omega)]; exact tc_th0
          · exact ⟨3, 0, x, 0, tc_ym (tc_ym y 0 0 0) 0 0 3, by simp only [f_X2_build, e2, Option.bind_some, if_pos, tc_inR, r, if_neg tc_10, d, ew, if_neg (fun z => hfull (e5.mp z))], by simp only [f_X3_build, tc_leteq, e3, Option.bind_some, if_neg tc_10, r, d, w, g6, if_pos (e5'.mpr (by omega)), f_X3_no, tc_b2], by decide, fun _ => rfl, tc_th0, fun z => absurd z (by decide), tc_no h 3⟩
