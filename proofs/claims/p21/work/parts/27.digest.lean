/-! The checksum; within (written by wip/whole/hand9.py). -/
section TCDG
variable {pa lv : Nat → Nat} {x : tc_X} {y : tc_Y}
theorem tc_Rl.dC (h : tc_Rl pa lv x y) {c : Nat} (hc : c < tc_nc x) (n : Nat) : ∀ (m k : Nat) (d : Int64), k ≤ 9 → 9 - k < n → 9 - k < m → ∃ d' : Int64, ∀ (k2 : Int64 → Int32 → Option Int64) (k3 : Int64 → Int32 → Option (Int64 × tc_Y)), lp_X2_digest_150 n x (nI c) d (nI k) k2 = k2 d' (nI 9) ∧ lp_X3_digest_139 m y (nI c) d (nI k) k3 = k3 d' (nI 9) := by
  have h40 := h.1.2.2.2.1
  have h5 := h.1.2.2.2.2
  induction n with
  | zero => intro m k d _ h; omega
  | succ n ih =>
    intro m k d hk hn hm
    obtain ⟨m, rfl⟩ : ∃ z, m = z + 1 := ⟨m - 1, by omega⟩
    have eN : (9 : Int32) ≤ nI k ↔ 9 ≤ k := nI_leI (a := 9) (by omega) (by omega)
    by_cases e : k = 9
    · subst e
      exact ⟨d, fun k2 k3 => ⟨by rw [lp_X2_digest_150, if_pos (eN.mpr (Nat.le_refl _))], by rw [lp_X3_digest_139, if_pos (eN.mpr (Nat.le_refl _))]⟩⟩
    · obtain ⟨v, v2, v3⟩ := h.tC hc (w := k) (by omega)
      obtain ⟨d', hd⟩ := ih m (k + 1) (d * 31 + v.toInt64) (by omega) (by omega) (by omega)
      refine ⟨d', fun k2 k3 => ⟨?_, ?_⟩⟩
      · rw [lp_X2_digest_150, if_neg (fun z => absurd (eN.mp z) (by omega)), tc_cl (show c ≤ 1000 by omega), if_pos (tc_g2 hc (show c ≤ 1000 by omega)), tc_leteq, v2]
        show tc_let (d * 31 + v.toInt64) (fun v22 => tc_let (nI k + 1) (fun v23 => lp_X2_digest_150 n x (nI c) v22 v23 k2)) = _
        rw [tc_leteq, tc_leteq, nI_1]; exact (hd k2 k3).1
      · rw [lp_X3_digest_139, if_neg (fun z => absurd (eN.mp z) (by omega)), v3]
        show tc_let (d * 31 + v.toInt64) (fun v22 => tc_let (nI k + 1) (fun v23 => lp_X3_digest_139 m y (nI c) v22 v23 k3)) = _
        rw [tc_leteq, tc_leteq, nI_1]; exact (hd k2 k3).2
theorem tc_Rl.dB (h : tc_Rl pa lv x y) {c : Nat} (hc : c < tc_nb x) (n : Nat) : ∀ (m k : Nat) (d : Int64), k ≤ 5 → 5 - k < n → 5 - k < m → ∃ d' : Int64, ∀ (k2 : Int64 → Int32 → Option Int64) (k3 : Int64 → Int32 → Option (Int64 × tc_Y)), lp_X2_digest_91 n x (nI c) d (nI k) k2 = k2 d' (nI 5) ∧ lp_X3_digest_93 m y (nI c) d (nI k) k3 = k3 d' (nI 5) := by
  have h40 := h.1.2.2.2.1
  have h5 := h.1.2.2.2.2
  induction n with
  | zero => intro m k d _ h; omega
  | succ n ih =>
    intro m k d hk hn hm
    obtain ⟨m, rfl⟩ : ∃ z, m = z + 1 := ⟨m - 1, by omega⟩
    have eN : (5 : Int32) ≤ nI k ↔ 5 ≤ k := nI_leI (a := 5) (by omega) (by omega)
    by_cases e : k = 5
    · subst e
      exact ⟨d, fun k2 k3 => ⟨by rw [lp_X2_digest_91, if_pos (eN.mpr (Nat.le_refl _))], by rw [lp_X3_digest_93, if_pos (eN.mpr (Nat.le_refl _))]⟩⟩
    · obtain ⟨v, v2, v3⟩ := h.tB hc (w := k) (by omega)
      obtain ⟨d', hd⟩ := ih m (k + 1) (d * 31 + v.toInt64) (by omega) (by omega) (by omega)
      refine ⟨d', fun k2 k3 => ⟨?_, ?_⟩⟩
      · rw [lp_X2_digest_91, if_neg (fun z => absurd (eN.mp z) (by omega)), tc_cl (show c ≤ 1000 by omega), if_pos (tc_g2 hc (show c ≤ 1000 by omega)), tc_leteq, v2]
        show tc_let (d * 31 + v.toInt64) (fun v22 => tc_let (nI k + 1) (fun v23 => lp_X2_digest_91 n x (nI c) v22 v23 k2)) = _
        rw [tc_leteq, tc_leteq, nI_1]; exact (hd k2 k3).1
      · rw [lp_X3_digest_93, if_neg (fun z => absurd (eN.mp z) (by omega)), v3]
        show tc_let (d * 31 + v.toInt64) (fun v22 => tc_let (nI k + 1) (fun v23 => lp_X3_digest_93 m y (nI c) v22 v23 k3)) = _
        rw [tc_leteq, tc_leteq, nI_1]; exact (hd k2 k3).2
theorem tc_Rl.dP (h : tc_Rl pa lv x y) {c : Nat} (hc : c < 16) (n : Nat) : ∀ (m k : Nat) (d : Int64), k ≤ 4 → 4 - k < n → 4 - k < m → ∃ d' : Int64, ∀ (k2 : Int64 → Int32 → Option Int64) (k3 : Int64 → Int32 → Option (Int64 × tc_Y)), lp_X2_digest_42 n x (nI c) d (nI k) k2 = k2 d' (nI 4) ∧ lp_X3_digest_47 m y (nI c) d (nI k) k3 = k3 d' (nI 4) := by
  have h40 := h.1.2.2.2.1
  have h5 := h.1.2.2.2.2
  induction n with
  | zero => intro m k d _ h; omega
  | succ n ih =>
    intro m k d hk hn hm
    obtain ⟨m, rfl⟩ : ∃ z, m = z + 1 := ⟨m - 1, by omega⟩
    have eN : (4 : Int32) ≤ nI k ↔ 4 ≤ k := nI_leI (a := 4) (by omega) (by omega)
    by_cases e : k = 4
    · subst e
      exact ⟨d, fun k2 k3 => ⟨by rw [lp_X2_digest_42, if_pos (eN.mpr (Nat.le_refl _))], by rw [lp_X3_digest_47, if_pos (eN.mpr (Nat.le_refl _))]⟩⟩
    · obtain ⟨v, v2, v3⟩ := h.tP hc (w := k) (by omega)
      obtain ⟨d', hd⟩ := ih m (k + 1) (d * 31 + v.toInt64) (by omega) (by omega) (by omega)
      refine ⟨d', fun k2 k3 => ⟨?_, ?_⟩⟩
      · rw [lp_X2_digest_42, if_neg (fun z => absurd (eN.mp z) (by omega)), v2]
        show tc_let (d * 31 + v.toInt64) (fun v22 => tc_let (nI k + 1) (fun v23 => lp_X2_digest_42 n x (nI c) v22 v23 k2)) = _
        rw [tc_leteq, tc_leteq, nI_1]; exact (hd k2 k3).1
      · rw [lp_X3_digest_47, if_neg (fun z => absurd (eN.mp z) (by omega)), v3]
        show tc_let (d * 31 + v.toInt64) (fun v22 => tc_let (nI k + 1) (fun v23 => lp_X3_digest_47 m y (nI c) v22 v23 k3)) = _
        rw [tc_leteq, tc_leteq, nI_1]; exact (hd k2 k3).2
theorem tc_Rl.oC (h : tc_Rl pa lv x y) (n : Nat) : ∀ (m k : Nat) (d : Int64), k ≤ tc_nc x → tc_nc x - k < n → tc_nc x - k < m → ∃ v : Int64, lp_X2_digest_136 n x d (nI k) = some v ∧ lp_X3_digest_128 m y d (nI k) = some (v, y) := by
  have h40 := h.1.2.2.2.1
  have h5 := h.1.2.2.2.2
  induction n with
  | zero => intro m k d _ h; omega
  | succ n ih =>
    intro m k d hk hn hm
    obtain ⟨m, rfl⟩ : ∃ z, m = z + 1 := ⟨m - 1, by omega⟩
    rw [lp_X2_digest_136, lp_X3_digest_128, h.1.2.2.1]
    by_cases e : k = tc_nc x
    · subst e
      rw [if_pos (nI_le (Nat.le_refl _) (by omega)), if_pos (nI_le (Nat.le_refl _) (by omega))]
      exact ⟨d, rfl, rfl⟩
    · rw [if_neg (nI_ge (a := k) (by omega) (by omega)), if_neg (nI_ge (a := k) (by omega) (by omega))]
      obtain ⟨d', hd⟩ := h.dC (c := k) (by omega) 100 10 0 d (by omega) (by omega) (by omega)
      obtain ⟨q2, q3⟩ := hd (fun w13 w14 => tc_let (nI k + 1) (fun v16 => lp_X2_digest_136 n x w13 v16)) (fun w14 w15 => tc_let (nI k + 1) (fun v17 => lp_X3_digest_128 m y w14 v17))
      rw [nI_0] at q2 q3
      rw [q2, q3, tc_leteq, tc_leteq, nI_1]
      exact ih m (k + 1) d' (by omega) (by omega) (by omega)
theorem tc_Rl.oB (h : tc_Rl pa lv x y) (n : Nat) : ∀ (m k : Nat) (d : Int64), k ≤ tc_nb x → tc_nb x - k < n → tc_nb x - k < m → ∃ v : Int64, lp_X2_digest_77 n x d (nI k) = some v ∧ lp_X3_digest_82 m y d (nI k) = some (v, y) := by
  have h40 := h.1.2.2.2.1
  have h5 := h.1.2.2.2.2
  induction n with
  | zero => intro m k d _ h; omega
  | succ n ih =>
    intro m k d hk hn hm
    obtain ⟨m, rfl⟩ : ∃ z, m = z + 1 := ⟨m - 1, by omega⟩
    rw [lp_X2_digest_77, lp_X3_digest_82, h.1.2.1]
    by_cases e : k = tc_nb x
    · subst e
      rw [if_pos (nI_le (Nat.le_refl _) (by omega)), if_pos (nI_le (Nat.le_refl _) (by omega))]
      exact h.oC 100 6 0 d (Nat.zero_le _) (by omega) (by omega)
    · rw [if_neg (nI_ge (a := k) (by omega) (by omega)), if_neg (nI_ge (a := k) (by omega) (by omega))]
      obtain ⟨d', hd⟩ := h.dB (c := k) (by omega) 100 6 0 d (by omega) (by omega) (by omega)
      obtain ⟨q2, q3⟩ := hd (fun w13 w14 => tc_let (nI k + 1) (fun v16 => lp_X2_digest_77 n x w13 v16)) (fun w14 w15 => tc_let (nI k + 1) (fun v17 => lp_X3_digest_82 m y w14 v17))
      rw [nI_0] at q2 q3
      rw [q2, q3, tc_leteq, tc_leteq, nI_1]
      exact ih m (k + 1) d' (by omega) (by omega) (by omega)
theorem tc_Rl.oP (h : tc_Rl pa lv x y) (n : Nat) : ∀ (m k : Nat) (d : Int64), k ≤ 16 → 16 - k < n → 16 - k < m → ∃ v : Int64, lp_X2_digest_33 n x d (nI k) = some v ∧ lp_X3_digest_38 m y d (nI k) = some (v, y) := by
  have h40 := h.1.2.2.2.1
  have h5 := h.1.2.2.2.2
  induction n with
  | zero => intro m k d _ h; omega
  | succ n ih =>
    intro m k d hk hn hm
    obtain ⟨m, rfl⟩ : ∃ z, m = z + 1 := ⟨m - 1, by omega⟩
    rw [lp_X2_digest_33, lp_X3_digest_38]
    by_cases e : k = 16
    · subst e
      rw [if_pos (show (16 : Int32) ≤ nI 16 by decide), if_pos (show (16 : Int32) ≤ nI 16 by decide)]
      exact h.oB 100 41 0 d (Nat.zero_le _) (by omega) (by omega)
    · have eN : ¬ (16 : Int32) ≤ nI k := fun z => absurd (show nI 16 ≤ nI k from z) (nI_ge (by omega) (by omega))
      rw [if_neg eN, if_neg eN]
      obtain ⟨d', hd⟩ := h.dP (c := k) (by omega) 100 5 0 d (by omega) (by omega) (by omega)
      obtain ⟨q2, q3⟩ := hd (fun w13 w14 => tc_let (nI k + 1) (fun v16 => lp_X2_digest_33 n x w13 v16)) (fun w14 w15 => tc_let (nI k + 1) (fun v17 => lp_X3_digest_38 m y w14 v17))
      rw [nI_0] at q2 q3
      rw [q2, q3, tc_leteq, tc_leteq, nI_1]
      exact ih m (k + 1) d' (by omega) (by omega) (by omega)
theorem tc_Rl.oN (h : tc_Rl pa lv x y) (n : Nat) : ∀ (m k : Nat) (d : Int64), k ≤ 7 → 7 - k < n → 7 - k < m → ∃ v : Int64, lp_X2_digest_6 n x d (nI k) = some v ∧ lp_X3_digest_11 m y d (nI k) = some (v, y) := by
  induction n with
  | zero => intro m k d _ h; omega
  | succ n ih =>
    intro m k d hk hn hm
    obtain ⟨m, rfl⟩ : ∃ z, m = z + 1 := ⟨m - 1, by omega⟩
    rw [lp_X2_digest_6, lp_X3_digest_11]
    by_cases e : k = 7
    · subst e
      rw [if_pos (show (7 : Int32) ≤ nI 7 by decide), if_pos (show (7 : Int32) ≤ nI 7 by decide)]
      exact h.oP 100 17 0 d (by decide) (by decide) (by decide)
    · have eN : ¬ (7 : Int32) ≤ nI k := fun z => absurd (show nI 7 ≤ nI k from z) (nI_ge (by omega) (by omega))
      obtain ⟨v, v2, v3⟩ := h.tN (w := k) (by omega)
      rw [if_neg eN, if_neg eN, v2, v3]
      obtain ⟨z, z2, z3⟩ := ih m (k + 1) (d * 31 + v.toInt64) (by omega) (by omega) (by omega)
      refine ⟨z, ?_, ?_⟩
      · show tc_let (d * 31 + v.toInt64) (fun v45 => tc_let (nI k + 1) (fun v46 => lp_X2_digest_6 n x v45 v46)) = _
        rw [tc_leteq, tc_leteq, nI_1]; exact z2
      · show tc_let (d * 31 + v.toInt64) (fun v45 => tc_let (nI k + 1) (fun v46 => lp_X3_digest_11 m y v45 v46)) = _
        rw [tc_leteq, tc_leteq, nI_1]; exact z3
theorem tc_Rl.wiL (h : tc_Rl pa lv x y) {c : Nat} (hc : c < tc_nc x) (n : Nat) : ∀ (k : Nat) (w : Int32), k ≤ tc_nb x → tc_nb x - k < n → ∃ v : Int32, lp_X2_within_22 n x c w (nI k) = some (0, v) ∧ lp_X3_within_23 n (nI c) y w (nI k) = some (v, y) := by
  have h40 := h.1.2.2.2.1
  obtain ⟨s1, s2⟩ := h.st2 hc
  induction n with
  | zero => intro k w _ h; omega
  | succ n ih =>
    intro k w hk hn
    rw [lp_X2_within_22, lp_X3_within_23, h.1.2.1]
    by_cases e : k = tc_nb x
    · subst e
      rw [if_pos (nI_le (Nat.le_refl _) (by omega)), if_pos (nI_le (Nat.le_refl _) (by omega))]
      exact ⟨w, rfl, rfl⟩
    · have hkb : k < tc_nb x := by omega
      have kb := h.2.1 k hkb
      rw [if_neg (nI_ge (a := k) (by omega) (by omega)), if_neg (nI_ge (a := k) (by omega) (by omega)), tc_cl (show k ≤ 1000 by omega), if_pos (tc_g2 hkb (show k ≤ 1000 by omega)), if_pos (tc_g2 (show k < 40 by omega) (show k ≤ 1000 by omega)), tc_leteq]
      by_cases e1 : pa k < 16
      · obtain ⟨q1, q2, -⟩ := kb.2.2.2.1 e1
        have nn := tc_nIneg (p := pa k) (by omega)
        rw [q1, q2, if_neg nn.1, if_neg nn.2.2]
        rcases h.rc hc e1 with ⟨r2, r3⟩ | ⟨r2, r3⟩
        · rw [r2, r3]
          simp only [Option.bind_some, if_pos, tc_leteq, nI_1, Int32.add_zero]
          exact ih (k + 1) w (by omega) (by omega)
        · rw [r2, r3, s2]
          simp only [Option.bind_some, if_neg tc_10, f_X1_canLift, if_pos hc, s1]
          rw [kb.2.1]
          by_cases e5 : 12 * x.1 23 c / x.1 22 c < y 3 k
          · simp only [if_pos e5, Option.bind_some, if_pos, tc_leteq, nI_1, Int32.add_zero]
            exact ih (k + 1) w (by omega) (by omega)
          · simp only [if_neg e5, Option.bind_some, if_neg tc_10, tc_leteq, nI_1]
            exact ih (k + 1) (w + 1) (by omega) (by omega)
      · have e12 : x.1 12 k = -1 := by
          rcases (show pa k = 16 ∨ pa k = 17 by have := kb.2.2.1; omega) with z | z
          · exact (kb.2.2.2.2.1 z).2.1
          · exact (kb.2.2.2.2.2.1 z).2.1
        rw [if_pos ((h.neg hkb).1.mpr e1), if_pos e12, tc_leteq, tc_leteq, tc_leteq, nI_1, Int32.add_zero]
        exact ih (k + 1) w (by omega) (by omega)
end TCDG
theorem tc_op_digest : op_digest tc_R := by
  intro x y ⟨pa, lv, h⟩
  have h0 := h.th 0
  obtain ⟨v, v2, v3⟩ := h0.oN 100 8 0 1151 (by decide) (by decide) (by decide)
  refine ⟨v, tc_ym y 0 0 0, v2, ?_, pa, lv, h0⟩
  have e : f_X3_digest y = tc_let (tc_ym y 0 0 0) (fun x1 => lp_X3_digest_11 8 x1 1151 0) := rfl
  rw [e, tc_leteq]
  exact v3
theorem tc_op_within : op_within tc_R := by
  intro x y a1 ⟨pa, lv, h⟩
  have h0 := h.th 0
  have h40 := h.1.2.2.2.1
  have h5 := h.1.2.2.2.2
  rcases tc_crn h0 a1 with ⟨e3, e2⟩ | ⟨c, hc, rfl, e3, e2⟩
  · exact ⟨1, 0, 0, tc_ym (tc_ym y 0 0 0) 0 0 1, by simp only [f_X2_within, e2, Option.bind_some, if_neg tc_k1], by simp only [f_X3_within, tc_leteq, e3, Option.bind_some, if_pos, f_X3_no, tc_b2], by decide, tc_th0, fun z => absurd z (by decide), tc_no h 1⟩
  · obtain ⟨v, v2, v3⟩ := h0.wiL hc 100 0 0 (Nat.zero_le _) (by omega)
    rw [nI_0] at v2 v3
    exact ⟨0, v, v, tc_ym y 0 0 0, by simp only [f_X2_within, e2, Option.bind_some, if_pos, tc_cl (show c ≤ 1000 by omega), if_pos (tc_g2 hc (show c ≤ 1000 by omega)), tc_leteq]; exact v2, by simp only [f_X3_within, tc_leteq, e3, Option.bind_some, if_neg tc_10]; exact v3, by decide, tc_th0, fun _ => rfl, pa, lv, h0⟩
