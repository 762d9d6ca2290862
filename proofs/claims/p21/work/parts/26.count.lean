/-! What is counted; the mean. -/
def tc_cs (f : Nat → Int32) : Nat → Nat
  | 0 => 0
  | n + 1 => tc_cs f n + (if f n < 0 then 0 else 1)
def tc_s16 (H : Nat → Nat) : Nat → Nat
  | 0 => 0
  | k + 1 => tc_s16 H k + H k
theorem tc_cs_le (f : Nat → Int32) (n : Nat) : tc_cs f n ≤ n := by
  induction n with
  | zero => exact Nat.le_refl _
  | succ n ih => show tc_cs f n + (if f n < 0 then 0 else 1) ≤ n + 1; split <;> omega
theorem tc_s16_add (H K : Nat → Nat) (k : Nat) : tc_s16 (fun p => H p + K p) k = tc_s16 H k + tc_s16 K k := by
  induction k with
  | zero => rfl
  | succ k ih => show tc_s16 _ k + (H k + K k) = (tc_s16 H k + H k) + (tc_s16 K k + K k); rw [ih]; omega
theorem tc_s16_one (q k : Nat) : tc_s16 (fun p => if q = p then 1 else 0) k = if q < k then 1 else 0 := by
  induction k with
  | zero => rfl
  | succ k ih =>
    show tc_s16 (fun p => if q = p then 1 else 0) k + (if q = k then 1 else 0) = _
    rw [ih]
    by_cases h1 : q = k
    · rw [if_pos h1, if_neg (by omega), if_pos (by omega)]
    · rw [if_neg h1]
      by_cases h2 : q < k
      · rw [if_pos h2, if_pos (by omega)]
      · rw [if_neg h2, if_neg (by omega)]
theorem tc_s16_0 (k : Nat) : tc_s16 (fun _ => 0) k = 0 := by
  induction k with
  | zero => rfl
  | succ k ih => show tc_s16 _ k + 0 = 0; rw [ih]
section TCCT
variable {pa lv : Nat → Nat} {x : tc_X} {y : tc_Y}
theorem tc_Rl.neg (h : tc_Rl pa lv x y) {b : Nat} (hb : b < tc_nb x) : (y 4 b < 0 ↔ ¬ pa b < 16) ∧ (y 4 b = -1 ↔ pa b = 16) ∧ (y 4 b = -2 ↔ pa b = 17) := by
  have k := h.2.1 b hb
  rcases (show pa b < 16 ∨ pa b = 16 ∨ pa b = 17 by have := k.2.2.1; omega) with e | e | e
  · rw [(k.2.2.2.1 e).1]
    have nn := tc_nIneg (p := pa b) (by omega)
    exact ⟨⟨fun z => absurd z nn.2.2, fun z => absurd e z⟩, ⟨fun z => absurd z nn.1, fun z => by omega⟩, ⟨fun z => absurd z nn.2.1, fun z => by omega⟩⟩
  · rw [(k.2.2.2.2.1 e).1]
    exact ⟨⟨fun _ => by omega, fun _ => by decide⟩, ⟨fun _ => e, fun _ => rfl⟩, ⟨fun z => absurd z (by decide), fun z => by omega⟩⟩
  · rw [(k.2.2.2.2.2.1 e).1]
    exact ⟨⟨fun _ => by omega, fun _ => by decide⟩, ⟨fun z => absurd z (by decide), fun z => by omega⟩, ⟨fun _ => e, fun _ => rfl⟩⟩
theorem tc_Rl.cs (h : tc_Rl pa lv x y) (n : Nat) (hn : n ≤ tc_nb x) : tc_s16 (tc_cnt pa n) 16 = tc_cs (y 4) n := by
  induction n with
  | zero => exact tc_s16_0 16
  | succ n ih =>
    show tc_s16 (fun p => tc_cnt pa n p + (if pa n = p then 1 else 0)) 16 = tc_cs (y 4) n + (if y 4 n < 0 then 0 else 1)
    rw [tc_s16_add, ih (by omega), tc_s16_one]
    congr 1
    have k := (h.neg (b := n) (by omega)).1
    by_cases e : pa n < 16
    · rw [if_pos e, if_neg (fun z => k.mp z e)]
    · rw [if_neg e, if_pos (k.mpr e)]
theorem tc_Rl.c16 (h : tc_Rl pa lv x y) (n : Nat) (hn : n ≤ tc_nb x) : tc_cy (y 4) (-1) n = tc_cnt pa n 16 := by
  induction n with
  | zero => rfl
  | succ n ih =>
    show tc_cy (y 4) (-1) n + (if y 4 n = -1 then 1 else 0) = tc_cnt pa n 16 + (if pa n = 16 then 1 else 0)
    rw [ih (by omega)]
    congr 1
    have k := (h.neg (b := n) (by omega)).2.1
    by_cases e : pa n = 16
    · rw [if_pos e, if_pos (k.mpr e)]
    · rw [if_neg e, if_neg (fun z => e (k.mp z))]
theorem tc_Rl.stL (h : tc_Rl pa lv x y) (n : Nat) : ∀ k, k ≤ 16 → 16 - k < n → lp_X2_standing_4 n x (nI (tc_s16 (tc_cnt pa (tc_nb x)) k)) (nI k) = some (nI (tc_s16 (tc_cnt pa (tc_nb x)) 16)) := by
  induction n with
  | zero => intro k _ h; omega
  | succ n ih =>
    intro k hk hn
    rw [lp_X2_standing_4]
    by_cases e : k = 16
    · subst e; rw [if_pos (show (16 : Int32) ≤ nI 16 by decide)]
    · have e16 : ¬ (16 : Int32) ≤ nI k := fun z => absurd (show nI 16 ≤ nI k from z) (nI_ge (by omega) (by omega))
      rw [if_neg e16, h.ht (show k < 16 by omega)]
      show tc_let (nI (tc_s16 (tc_cnt pa (tc_nb x)) k) + nI (tc_cnt pa (tc_nb x) k)) (fun v6 => tc_let (nI k + 1) (fun v7 => lp_X2_standing_4 n x v6 v7)) = _
      rw [tc_leteq, tc_leteq, nI_add, nI_1]
      exact ih (k + 1) (by omega) (by omega)
theorem tc_Rl.haL (h : tc_Rl pa lv x y) (n : Nat) : ∀ k, k ≤ tc_nc x → tc_nc x - k < n → lp_X2_hanging_4 n x (nI (tc_ldc (x.2.1 2) k)) (nI k) = some (nI (tc_ldc (x.2.1 2) (tc_nc x))) := by
  have h5 := h.1.2.2.2.2
  induction n with
  | zero => intro k _ h; omega
  | succ n ih =>
    intro k hk hn
    rw [lp_X2_hanging_4]
    by_cases e : k = tc_nc x
    · subst e; rw [if_pos (nI_le (Nat.le_refl _) (by omega))]
    · have hkc : k < tc_nc x := by omega
      have st := ih (k + 1) (by omega) (by omega)
      rw [show tc_ldc (x.2.1 2) (k + 1) = tc_ldc (x.2.1 2) k + (if x.2.1 2 k = none then 0 else 1) from rfl] at st
      rw [if_neg (nI_ge (a := k) (by omega) (by omega)), tc_cl (show k ≤ 1000 by omega), if_pos (tc_g2 hkc (show k ≤ 1000 by omega)), tc_leteq]
      cases e4 : x.2.1 2 k with
      | none =>
        rw [e4, if_pos rfl] at st
        show tc_let (nI k + 1) (fun v9 => lp_X2_hanging_4 n x (nI (tc_ldc (x.2.1 2) k)) v9) = _
        rw [tc_leteq, nI_1]; exact st
      | some j =>
        rw [e4, if_neg (by simp)] at st
        show tc_let (nI (tc_ldc (x.2.1 2) k) + 1) (fun v10 => tc_let (nI k + 1) (fun v11 => lp_X2_hanging_4 n x v10 v11)) = _
        rw [tc_leteq, tc_leteq, nI_1, nI_1]; exact st
def tc_T7 (r0 r1 r2 r3 r4 r5 r6 : Int32) : Nat → Int32 := upd (upd (upd (upd (upd (upd (upd (fun _ : Nat => (0 : Int32)) (0 : Int32).toNatClampNeg r0) (1 : Int32).toNatClampNeg r1) (2 : Int32).toNatClampNeg r2) (3 : Int32).toNatClampNeg r3) (4 : Int32).toNatClampNeg r4) (5 : Int32).toNatClampNeg r5) (6 : Int32).toNatClampNeg r6
theorem tc_Rl.ctL (h : tc_Rl pa lv x y) {w : Nat} (hw : w < 7) {r6 : Int32} (hr : f_X3_highest y 0 15 (-1) = some r6) (n : Nat) : ∀ k, k ≤ tc_nb x → tc_nb x - k < n → lp_X3_counted_7 n y (nI w) (nI (tc_cs (y 4) k)) (nI (tc_cy (y 4) (-1) k)) (nI k) = some (tc_T7 (y 1 0) (nI (tc_nb x)) (nI (tc_cs (y 4) (tc_nb x))) (nI (tc_cy (y 4) (-1) (tc_nb x))) ((nI (tc_nb x) - nI (tc_cs (y 4) (tc_nb x))) - nI (tc_cy (y 4) (-1) (tc_nb x))) (nI (tc_nc x)) r6 w) := by
  have h40 := h.1.2.2.2.1
  induction n with
  | zero => intro k _ h; omega
  | succ n ih =>
    intro k hk hn
    rw [lp_X3_counted_7, h.1.2.1]
    by_cases e : k = tc_nb x
    · subst e
      rw [if_pos (nI_le (Nat.le_refl _) (by omega)), hr, h.1.2.2.1]
      simp only [Option.bind_some, tc_cl (show w ≤ 1000 by omega), if_pos (tc_g2 hw (show w ≤ 1000 by omega))]
      rfl
    · have st := ih (k + 1) (by omega) (by omega)
      rw [show tc_cs (y 4) (k + 1) = tc_cs (y 4) k + (if y 4 k < 0 then 0 else 1) from rfl, show tc_cy (y 4) (-1) (k + 1) = tc_cy (y 4) (-1) k + (if y 4 k = -1 then 1 else 0) from rfl] at st
      rw [if_neg (nI_ge (a := k) (by omega) (by omega)), tc_cl (show k ≤ 1000 by omega), if_pos (tc_g2 (show k < 40 by omega) (show k ≤ 1000 by omega))]
      have z0 : ∀ m, nI m + 0 = nI (m + 0) := fun m => nI_add m 0
      by_cases e1 : y 4 k < 0
      · rw [if_pos e1] at st ⊢
        by_cases e2 : y 4 k = -1
        · rw [if_pos e2] at st
          rw [tc_leteq, if_pos e2, tc_leteq, tc_leteq, nI_1, nI_1, z0]; exact st
        · rw [if_neg e2] at st
          rw [tc_leteq, if_neg e2, tc_leteq, tc_leteq, nI_1, z0, z0]; exact st
      · rw [if_neg e1] at st ⊢
        by_cases e2 : y 4 k = -1
        · rw [if_pos e2] at st
          rw [tc_leteq, if_pos e2, tc_leteq, tc_leteq, nI_1, nI_1, nI_1]; exact st
        · rw [if_neg e2] at st
          rw [tc_leteq, if_neg e2, tc_leteq, tc_leteq, nI_1, nI_1, z0]; exact st
theorem tc_Rl.tN (h : tc_Rl pa lv x y) {w : Nat} (hw : w < 7) : ∃ v, f_X2_countAnswer x (nI w) = some v ∧ f_X3_counted y (nI w) = some v := by
  have h40 := h.1.2.2.2.1
  have h5 := h.1.2.2.2.2
  have hi3 : f_X3_highest y 0 15 (-1) = _ := h.h3n (i := 0) (j := 15) (by decide) (by decide)
  have hi2 : f_X2_highestBetween x 0 15 = _ := h.hb (i := 0) (j := 15) (by decide) (by decide)
  have e3 : f_X3_counted y (nI w) = _ := h.ctL hw hi3 100 0 (Nat.zero_le _) (by omega)
  have hst : f_X2_standing x = some (nI (tc_s16 (tc_cnt pa (tc_nb x)) 16)) := h.stL 100 0 (Nat.zero_le _) (by decide)
  have hha : f_X2_hanging x = some (nI (tc_ldc (x.2.1 2) (tc_nc x))) := h.haL 100 0 (Nat.zero_le _) (by omega)
  rw [h.cs _ (Nat.le_refl _)] at hst
  rw [← h.2.2.2.2.2.2.2.1, ← h.c16 _ (Nat.le_refl _)] at hha
  rw [e3]
  clear e3
  rcases (show w = 0 ∨ w = 1 ∨ w = 2 ∨ w = 3 ∨ w = 4 ∨ w = 5 ∨ w = 6 by omega) with rfl | rfl | rfl | rfl | rfl | rfl | rfl
  · exact ⟨y 1 0, by unfold f_X2_countAnswer; rw [if_pos (show nI 0 = (0 : Int32) by decide), h.1.1], rfl⟩
  · exact ⟨nI (tc_nb x), by unfold f_X2_countAnswer; rw [if_neg (show ¬ nI 1 = (0 : Int32) by decide), if_pos (show nI 1 = (1 : Int32) by decide)], rfl⟩
  · exact ⟨_, by unfold f_X2_countAnswer; rw [if_neg (show ¬ nI 2 = (0 : Int32) by decide), if_neg (show ¬ nI 2 = (1 : Int32) by decide), if_pos (show nI 2 = (2 : Int32) by decide), hst]; rfl, rfl⟩
  · exact ⟨_, by unfold f_X2_countAnswer; rw [if_neg (show ¬ nI 3 = (0 : Int32) by decide), if_neg (show ¬ nI 3 = (1 : Int32) by decide), if_neg (show ¬ nI 3 = (2 : Int32) by decide), if_pos (show nI 3 = (3 : Int32) by decide), hha]; rfl, rfl⟩
  · exact ⟨_, by unfold f_X2_countAnswer; rw [if_neg (show ¬ nI 4 = (0 : Int32) by decide), if_neg (show ¬ nI 4 = (1 : Int32) by decide), if_neg (show ¬ nI 4 = (2 : Int32) by decide), if_neg (show ¬ nI 4 = (3 : Int32) by decide), if_pos (show nI 4 = (4 : Int32) by decide), hst, hha]; rfl, rfl⟩
  · exact ⟨nI (tc_nc x), by unfold f_X2_countAnswer; rw [if_neg (show ¬ nI 5 = (0 : Int32) by decide), if_neg (show ¬ nI 5 = (1 : Int32) by decide), if_neg (show ¬ nI 5 = (2 : Int32) by decide), if_neg (show ¬ nI 5 = (3 : Int32) by decide), if_neg (show ¬ nI 5 = (4 : Int32) by decide), if_pos (show nI 5 = (5 : Int32) by decide)], rfl⟩
  · exact ⟨_, by unfold f_X2_countAnswer; rw [if_neg (show ¬ nI 6 = (0 : Int32) by decide), if_neg (show ¬ nI 6 = (1 : Int32) by decide), if_neg (show ¬ nI 6 = (2 : Int32) by decide), if_neg (show ¬ nI 6 = (3 : Int32) by decide), if_neg (show ¬ nI 6 = (4 : Int32) by decide), if_neg (show ¬ nI 6 = (5 : Int32) by decide), hi2]; rfl, rfl⟩
end TCCT
theorem tc_op_count : op_count tc_R := by
  intro x y a1 ⟨pa, lv, h⟩
  have h0 := h.th 0
  rcases tc_ans (x := x) (a := a1) (M := 7) (n := 7) rfl (by decide) (by decide) with ⟨p3, p2⟩ | ⟨w, hw, rfl, p3, p2⟩
  · have p3 : f_X3_isIn a1 0 6 = some 0 := p3
    exact ⟨1, 0, 0, tc_ym (tc_ym y 0 0 0) 0 0 1, by simp only [f_X2_count, p2, Option.bind_some, if_neg tc_k1], by simp only [f_X3_count, tc_let, p3, Option.bind_some, if_pos, f_X3_no, tc_b2], by decide, tc_th0, fun z => absurd z (by decide), tc_no h 1⟩
  · have p3 : f_X3_isIn (nI w) 0 6 = some 1 := p3
    obtain ⟨v, v2, v3⟩ := h0.tN hw
    exact ⟨0, v, v, tc_ym y 0 0 0, by simp only [f_X2_count, p2, Option.bind_some, if_pos, v2], by simp only [f_X3_count, tc_let, p3, Option.bind_some, if_neg tc_10, v3], by decide, tc_th0, fun _ => rfl, pa, lv, h0⟩
section TCMN
variable {pa lv : Nat → Nat} {x : tc_X} {y : tc_Y}
theorem tc_Rl.mnL (h : tc_Rl pa lv x y) (n : Nat) : ∀ k (w1 w2 : Int32), k ≤ tc_nb x → tc_nb x - k < n → ∃ v, lp_X2_mean_6 n x w1 w2 (nI k) = some v ∧ lp_X3_mean_11 n y w1 w2 (nI k) = some (v, y) := by
  have h40 := h.1.2.2.2.1
  induction n with
  | zero => intro k _ _ _ h; omega
  | succ n ih =>
    intro k w1 w2 hk hn
    rw [lp_X2_mean_6, lp_X3_mean_11, h.1.2.1]
    by_cases e : k = tc_nb x
    · subst e
      rw [if_pos (nI_le (Nat.le_refl _) (by omega)), if_pos (nI_le (Nat.le_refl _) (by omega))]
      by_cases e2 : w2 = 0
      · rw [if_pos e2, if_pos e2]; exact ⟨_, rfl, rfl⟩
      · rw [if_neg e2, if_neg e2]; exact ⟨_, rfl, rfl⟩
    · have hkb : k < tc_nb x := by omega
      have kb := h.2.1 k hkb
      have nn := (h.neg hkb).2.2
      rw [if_neg (nI_ge (a := k) (by omega) (by omega)), if_neg (nI_ge (a := k) (by omega) (by omega)), tc_cl (show k ≤ 1000 by omega), if_pos (tc_g2 hkb (show k ≤ 1000 by omega)), if_pos (tc_g2 (show k < 40 by omega) (show k ≤ 1000 by omega))]
      by_cases e1 : pa k = 17
      · rw [if_pos (nn.mpr e1), tc_leteq, tc_leteq, tc_leteq, nI_1, (kb.2.2.2.2.2.1 e1).2.2.1, if_neg tc_10]
        exact ih (k + 1) w1 w2 (by omega) (by omega)
      · have e15 : x.1 15 k = 0 := by
          rcases (show pa k < 16 ∨ pa k = 16 by have := kb.2.2.1; omega) with z | z
          · exact (kb.2.2.2.1 z).2.2.2.2.2.2.1
          · exact (kb.2.2.2.2.1 z).2.2.1
        rw [if_neg (fun z => e1 (nn.mp z)), tc_leteq, e15, if_pos rfl, tc_leteq, tc_leteq, tc_leteq, tc_leteq, tc_leteq, tc_leteq, nI_1, kb.2.1]
        exact ih (k + 1) _ _ (by omega) (by omega)
end TCMN
theorem tc_op_mean : op_mean tc_R := by
  intro x y ⟨pa, lv, h⟩
  have h0 := h.th 0
  have h40 := h.1.2.2.2.1
  obtain ⟨v, v2, v3⟩ := h0.mnL 100 0 0 0 (Nat.zero_le _) (by omega)
  refine ⟨v, tc_ym y 0 0 0, v2, ?_, pa, lv, h0⟩
  have e : f_X3_mean y = tc_let (tc_ym y 0 0 0) (fun x1 => lp_X3_mean_11 100 x1 0 0 0) := rfl
  rw [e, tc_leteq]
  exact v3
