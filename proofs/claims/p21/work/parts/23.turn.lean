/-! The highest place of a stretch; turn. -/
def tc_fo (H : Nat → Nat) : Nat → Nat → Nat → Nat
  | 0, _, m => m
  | n + 1, k, m => tc_fo H n (k + 1) (max m (H k))
theorem tc_fo_congr {H H' : Nat → Nat} (n : Nat) : ∀ k m, (∀ q, k ≤ q → q < k + n → H q = H' q) → tc_fo H n k m = tc_fo H' n k m := by
  induction n with
  | zero => intro k m _; rfl
  | succ n ih =>
    intro k m h
    show tc_fo H n (k + 1) (max m (H k)) = tc_fo H' n (k + 1) (max m (H' k))
    rw [h k (Nat.le_refl _) (by omega)]
    exact ih (k + 1) _ (fun q h1 h2 => h q (by omega) (by omega))
theorem tc_fo_spec (H : Nat → Nat) (n : Nat) : ∀ k m, m ≤ tc_fo H n k m ∧ (∀ q, k ≤ q → q < k + n → H q ≤ tc_fo H n k m) ∧ (tc_fo H n k m = m ∨ ∃ q, k ≤ q ∧ q < k + n ∧ tc_fo H n k m = H q) := by
  induction n with
  | zero => intro k m; exact ⟨Nat.le_refl _, fun q h1 h2 => by omega, Or.inl rfl⟩
  | succ n ih =>
    intro k m
    obtain ⟨i1, i2, i3⟩ := ih (k + 1) (max m (H k))
    have e : tc_fo H (n + 1) k m = tc_fo H n (k + 1) (max m (H k)) := rfl
    rw [e]
    refine ⟨Nat.le_trans (Nat.le_max_left _ _) i1, fun q h1 h2 => ?_, ?_⟩
    · by_cases z : q = k
      · subst z; exact Nat.le_trans (Nat.le_max_right _ _) i1
      · exact i2 q (by omega) (by omega)
    · rcases i3 with z | ⟨q, q1, q2, q3⟩
      · rw [z]
        rcases Nat.le_total m (H k) with w | w
        · rw [Nat.max_eq_right w]; exact Or.inr ⟨k, Nat.le_refl _, by omega, rfl⟩
        · rw [Nat.max_eq_left w]; exact Or.inl rfl
      · exact Or.inr ⟨q, by omega, by omega, q3⟩
section TCHI
variable {pa lv : Nat → Nat} {x : tc_X} {y : tc_Y}
theorem tc_Rl.hbL (h : tc_Rl pa lv x y) {i j : Nat} (hi : i < 16) (hj : j < 16) (n : Nat) : ∀ k m, k ≤ 16 → 16 - k < n → m ≤ 8 → lp_X2_highestBetween_5 n x (nI i) (nI j) (nI m) (nI k) = some (nI (tc_fo (tc_cnt pa (tc_nb x)) (max i j + 1 - max k (min i j)) (max k (min i j)) m)) := by
  induction n with
  | zero => intro k m _ h; omega
  | succ n ih =>
    intro k m hk hn hm
    rw [lp_X2_highestBetween_5]
    by_cases e : k = 16
    · subst e
      rw [if_pos (show (16 : Int32) ≤ nI 16 by decide), show max i j + 1 - max 16 (min i j) = 0 by omega]; rfl
    · have hk16 : k < 16 := by omega
      have e16 : ¬ (16 : Int32) ≤ nI k := fun z => absurd (show nI 16 ≤ nI k from z) (nI_ge (by omega) (by omega))
      rw [if_neg e16]
      simp only [tc_let, tc_minI (show i ≤ 1000 by omega) (show j ≤ 1000 by omega), tc_maxI (show i ≤ 1000 by omega) (show j ≤ 1000 by omega), nI_1]
      by_cases e1 : k < min i j
      · have eb : f_X2_isBetween (nI k) (nI (min i j)) (nI (max i j)) = some 0 := by unfold f_X2_isBetween; rw [if_pos (nI_lt e1 (by omega))]
        rw [eb]
        simp only [Option.bind_some, if_pos]
        rw [ih (k + 1) m (by omega) (by omega) hm, show max (k + 1) (min i j) = max k (min i j) by omega]
      · by_cases e2 : max i j < k
        · have eb : f_X2_isBetween (nI k) (nI (min i j)) (nI (max i j)) = some 0 := by unfold f_X2_isBetween; rw [if_neg (nI_nlt (by omega) (by omega)), if_pos (nI_lt e2 (by omega))]
          rw [eb]
          simp only [Option.bind_some, if_pos]
          rw [ih (k + 1) m (by omega) (by omega) hm, show max i j + 1 - max (k + 1) (min i j) = 0 by omega, show max i j + 1 - max k (min i j) = 0 by omega]; rfl
        · have eb : f_X2_isBetween (nI k) (nI (min i j)) (nI (max i j)) = some 1 := by unfold f_X2_isBetween; rw [if_neg (nI_nlt (by omega) (by omega)), if_neg (nI_nlt (by omega) (by omega))]
          rw [eb]
          have h8 := h.c8 hk16
          simp only [Option.bind_some, if_neg tc_10, h.ht hk16, tc_maxI (show m ≤ 1000 by omega) (show tc_cnt pa (tc_nb x) k ≤ 1000 by omega)]
          rw [ih (k + 1) _ (by omega) (by omega) (by omega), show max (k + 1) (min i j) = k + 1 by omega, show max k (min i j) = k by omega, show max i j + 1 - k = (max i j + 1 - (k + 1)) + 1 by omega]; rfl
theorem tc_Rl.hb (h : tc_Rl pa lv x y) {i j : Nat} (hi : i < 16) (hj : j < 16) : f_X2_highestBetween x (nI i) (nI j) = some (nI (tc_fo (tc_cnt pa (tc_nb x)) (max i j + 1 - min i j) (min i j) 0)) := by
  have k := h.hbL hi hj 100 0 0 (by decide) (by decide) (by decide)
  rw [show max 0 (min i j) = min i j by omega] at k
  exact k
def tc_H1 (H : Nat → Nat) (a : Int32) (p : Nat) : Nat := if nI p = a then H p - 1 else H p
theorem tc_Rl.h3L (h : tc_Rl pa lv x y) {i j : Nat} (hi : i < 16) (hj : j < 16) {a : Int32} (ha : ∀ p, p < 16 → nI p = a → 1 ≤ tc_cnt pa (tc_nb x) p) (n : Nat) : ∀ k m, k ≤ max i j + 1 → max i j + 1 - k < n → m ≤ 8 → lp_X3_highest_10 n y (nI i) (nI j) a (nI m) (nI k) = some (nI (tc_fo (tc_H1 (tc_cnt pa (tc_nb x)) a) (max i j + 1 - k) k m)) := by
  induction n with
  | zero => intro k m _ h; omega
  | succ n ih =>
    intro k m hk hn hm
    rw [lp_X3_highest_10]
    simp only [tc_let, tc_maxI (show i ≤ 1000 by omega) (show j ≤ 1000 by omega), nI_1]
    by_cases e : k = max i j + 1
    · subst e
      rw [if_pos (nI_lt (by omega) (by omega)), Nat.sub_self]; rfl
    · have hk16 : k < 16 := by omega
      have h8 := h.c8 hk16
      rw [if_neg (nI_nlt (by omega) (by omega)), h.hi hk16]
      simp only [Option.bind_some]
      rw [show max i j + 1 - k = (max i j + 1 - (k + 1)) + 1 by omega]
      show _ = some (nI (tc_fo (tc_H1 (tc_cnt pa (tc_nb x)) a) (max i j + 1 - (k + 1)) (k + 1) (max m (tc_H1 (tc_cnt pa (tc_nb x)) a k))))
      by_cases e3 : nI k = a
      · have h1 := ha k hk16 e3
        rw [if_pos e3, show nI (tc_cnt pa (tc_nb x) k) - 1 = nI (tc_cnt pa (tc_nb x) k - 1) from pk_sub h1, tc_maxI (show m ≤ 1000 by omega) (by omega), ih (k + 1) _ (by omega) (by omega) (by omega)]
        unfold tc_H1
        rw [if_pos e3]
      · rw [if_neg e3, show nI (tc_cnt pa (tc_nb x) k) - 0 = nI (tc_cnt pa (tc_nb x) k - 0) from pk_sub (Nat.zero_le _), Nat.sub_zero, tc_maxI (show m ≤ 1000 by omega) (by omega), ih (k + 1) _ (by omega) (by omega) (by omega)]
        unfold tc_H1
        rw [if_neg e3]
theorem tc_leteq {α β : Type} (v : α) (f : α → β) : tc_let v f = f v := rfl
theorem tc_Rl.h3 (h : tc_Rl pa lv x y) {i j : Nat} (hi : i < 16) (hj : j < 16) {a : Int32} (ha : ∀ p, p < 16 → nI p = a → 1 ≤ tc_cnt pa (tc_nb x) p) : f_X3_highest y (nI i) (nI j) a = some (nI (tc_fo (tc_H1 (tc_cnt pa (tc_nb x)) a) (max i j + 1 - min i j) (min i j) 0)) := by
  have k := h.h3L hi hj ha 100 (min i j) 0 (by omega) (by omega) (by decide)
  rw [nI_0] at k
  have e : f_X3_highest y (nI i) (nI j) a = tc_let (tc_min (nI i) (nI j)) (fun v1 => lp_X3_highest_10 100 y (nI i) (nI j) a 0 v1) := rfl
  rw [e, tc_minI (show i ≤ 1000 by omega) (show j ≤ 1000 by omega), tc_leteq]
  exact k
theorem tc_Rl.h3n (h : tc_Rl pa lv x y) {i j : Nat} (hi : i < 16) (hj : j < 16) : f_X3_highest y (nI i) (nI j) (-1) = some (nI (tc_fo (tc_cnt pa (tc_nb x)) (max i j + 1 - min i j) (min i j) 0)) := by
  rw [h.h3 hi hj (fun p hp z => absurd z (tc_nIneg (by omega)).1)]
  rw [tc_fo_congr (H := tc_H1 (tc_cnt pa (tc_nb x)) (-1)) (H' := tc_cnt pa (tc_nb x)) _ _ _ (fun q h1 h2 => by unfold tc_H1; rw [if_neg (tc_nIneg (by omega)).1])]
theorem tc_abs16 {i j : Nat} (hi : i < 16) (hj : j < 16) : tc_abs (nI i - nI j) = tc_abs (nI j - nI i) := by
  have all : ∀ i, i < 16 → ∀ j, j < 16 → tc_abs (nI i - nI j) = tc_abs (nI j - nI i) := by decide +kernel
  exact all i hi j hj
theorem tc_Rl.rc (h : tc_Rl pa lv x y) {c q : Nat} (hc : c < tc_nc x) (hq : q < 16) : (f_X1_reaches x c (nI q) = some 0 ∧ f_X3_isInReach y (nI c) (nI q) = some 0) ∨ (f_X1_reaches x c (nI q) = some 1 ∧ f_X3_isInReach y (nI c) (nI q) = some 1) := by
  have k := h.2.2.1 c hc
  have hc5 : c < 5 := Nat.lt_of_lt_of_le hc h.1.2.2.2.2
  obtain ⟨p, hp, ep⟩ := k.2.2.2.2.2.2.2.1
  unfold f_X1_reaches f_X3_isInReach f_X2_distance
  simp only [if_pos hc, tc_let, Option.bind_some, tc_cl (show c ≤ 1000 by omega), if_pos (tc_g2 hc5 (show c ≤ 1000 by omega)), k.1, k.2.1, ep, tc_abs16 hp hq]
  by_cases e : y 8 c < tc_abs (nI q - nI p)
  · exact Or.inl ⟨if_pos e, if_pos e⟩
  · exact Or.inr ⟨if_neg e, if_neg e⟩
theorem tc_Rl.setH (h : tc_Rl pa lv x y) {c p : Nat} (hc : c < tc_nc x) (hp : p < 16) (t : Int32) : tc_Rl pa lv (tc_si (tc_si x 25 c (nI p)) 0 0 (x.1 0 0 + t)) (tc_ym (tc_ym y 12 c (nI p)) 1 0 (y 1 0 + t)) := by
  refine h.chgC hc rfl (fun k' i h1 h2 => ?_) (by rw [tc_si_eq, tc_ymv, h.1.1]) (fun a ha => ?_) (fun a i hi ha => ?_) ?_
  · rw [tc_si_ne (by omega), tc_si_ne (by omega)]
  · rw [tc_ym_ne (by omega), tc_ym_ne (by omega)]
  · rw [tc_ym_ne (by omega), tc_ymi hi]
  · have k0 := h.2.2.1 c hc
    unfold tc_Rc at k0 ⊢
    simp only [tc_ym_ne (show 7 ≠ 1 by decide), tc_ym_ne (show 8 ≠ 1 by decide), tc_ym_ne (show 9 ≠ 1 by decide), tc_ym_ne (show 10 ≠ 1 by decide), tc_ym_ne (show 11 ≠ 1 by decide), tc_ym_ne (show 12 ≠ 1 by decide), tc_ym_ne (show 13 ≠ 1 by decide), tc_ym_ne (show 14 ≠ 1 by decide), tc_ym_ne (show 7 ≠ 12 by decide), tc_ym_ne (show 8 ≠ 12 by decide), tc_ym_ne (show 9 ≠ 12 by decide), tc_ym_ne (show 10 ≠ 12 by decide), tc_ym_ne (show 11 ≠ 12 by decide), tc_ym_ne (show 13 ≠ 12 by decide), tc_ym_ne (show 14 ≠ 12 by decide), tc_ymv]
    rw [tc_si_ne (show ¬ (20 = 0 ∧ c = 0) by omega), tc_si_ne (show ¬ (21 = 0 ∧ c = 0) by omega), tc_si_ne (show ¬ (22 = 0 ∧ c = 0) by omega), tc_si_ne (show ¬ (23 = 0 ∧ c = 0) by omega), tc_si_ne (show ¬ (24 = 0 ∧ c = 0) by omega), tc_si_ne (show ¬ (25 = 0 ∧ c = 0) by omega), tc_si_ne (show ¬ (26 = 0 ∧ c = 0) by omega), tc_si_eq, tc_si_ne (show ¬ (20 = 25 ∧ c = c) by omega), tc_si_ne (show ¬ (21 = 25 ∧ c = c) by omega), tc_si_ne (show ¬ (22 = 25 ∧ c = c) by omega), tc_si_ne (show ¬ (23 = 25 ∧ c = c) by omega), tc_si_ne (show ¬ (24 = 25 ∧ c = c) by omega), tc_si_ne (show ¬ (26 = 25 ∧ c = c) by omega)]
    exact ⟨k0.1, k0.2.1, k0.2.2.1, k0.2.2.2.1, k0.2.2.2.2.1, rfl, k0.2.2.2.2.2.2.1, k0.2.2.2.2.2.2.2.1, k0.2.2.2.2.2.2.2.2.1, ⟨p, hp, rfl⟩, k0.2.2.2.2.2.2.2.2.2.2.1, k0.2.2.2.2.2.2.2.2.2.2.2.1, fun b hb => by rw [tc_si_ne (by omega), tc_si_ne (by omega)]; exact k0.2.2.2.2.2.2.2.2.2.2.2.2 b hb⟩
end TCHI
theorem tc_op_turn : op_turn tc_R := by
  intro x y a1 a2 ⟨pa, lv, h⟩
  have h0 := h.th 0
  rcases tc_crn h0 a1 with ⟨e3, e2⟩ | ⟨c, hc, rfl, e3, e2⟩
  · exact ⟨1, 0, x, 0, tc_ym (tc_ym y 0 0 0) 0 0 1, by simp only [f_X2_turn, e2, Option.bind_some, if_neg tc_k1], by simp only [f_X3_turn, tc_let, e3, Option.bind_some, if_pos, f_X3_no, tc_b2], by decide, fun _ => rfl, tc_th0, fun z => absurd z (by decide), tc_no h 1⟩
  · have hc5 : c < 5 := Nat.lt_of_lt_of_le hc h.1.2.2.2.2
    rcases tc_plc a2 with ⟨p3, p2⟩ | ⟨q, hq, rfl, p3, -, p2⟩
    · exact ⟨1, 0, x, 0, tc_ym (tc_ym y 0 0 0) 0 0 1, by simp only [f_X2_turn, e2, Option.bind_some, if_pos, p2, if_neg tc_k1], by simp only [f_X3_turn, tc_let, e3, Option.bind_some, if_neg tc_10, p3, if_pos, f_X3_no, tc_b2], by decide, fun _ => rfl, tc_th0, fun z => absurd z (by decide), tc_no h 1⟩
    · have k := h0.2.2.1 c hc
      obtain ⟨p, hp, ep⟩ := k.2.2.2.2.2.2.2.2.2.1
      have ep2 : x.1 25 c = nI p := k.2.2.2.2.2.1.trans ep
      rcases h0.rc hc hq with ⟨r2, r3⟩ | ⟨r2, r3⟩
      · exact ⟨3, 0, x, 0, tc_ym (tc_ym y 0 0 0) 0 0 2, by simp only [f_X2_turn, e2, Option.bind_some, if_pos, p2, tc_cl (show c ≤ 1000 by omega), if_pos (tc_g2 hc (show c ≤ 1000 by omega)), tc_let, r2], by simp only [f_X3_turn, tc_let, e3, Option.bind_some, if_neg tc_10, p3, r3, if_pos, f_X3_no, tc_b2], by decide, fun _ => rfl, tc_th0, fun z => absurd z (by decide), tc_no h 2⟩
      · by_cases e4 : nI (tc_fo (tc_cnt pa (tc_nb x)) (max p q + 1 - min p q) (min p q) 0) + nI (tc_ld x c) ≤ x.1 26 c
        · refine ⟨0, tc_abs (nI p - nI q), tc_si (tc_si x 25 c (nI q)) 0 0 (x.1 0 0 + tc_abs (nI p - nI q)), tc_abs (nI p - nI q), tc_ym (tc_ym (tc_ym y 0 0 0) 12 c (nI q)) 1 0 (tc_ym y 0 0 0 1 0 + tc_abs (nI p - nI q)), ?_, ?_, by decide, fun z => absurd rfl z, by rw [tc_ym_ne (by decide), tc_ym_ne (by decide)]; exact tc_th0, fun _ => rfl, pa, lv, h0.setH hc hq _⟩
          · simp only [f_X2_turn, e2, Option.bind_some, if_pos, p2, tc_cl (show c ≤ 1000 by omega), if_pos (tc_g2 hc (show c ≤ 1000 by omega)), tc_let, r2, if_neg tc_10, ep2, h0.hb hp hq, tc_low hc, if_pos e4, f_X2_distance, tc_si_ne (show ¬ (0 = 25 ∧ 0 = c) by omega)]
          · rw [k.2.2.2.2.2.2.1] at e4
            simp only [f_X3_turn, tc_let, e3, Option.bind_some, if_neg tc_10, p3, r3, tc_cl (show c ≤ 1000 by omega), if_pos (tc_g2 hc5 (show c ≤ 1000 by omega)), ep, h0.h3n hp hq, h0.lo hc, if_pos e4, tc_ym_ne (show 1 ≠ 12 by decide)]
        · refine ⟨3, 0, x, 0, tc_ym (tc_ym y 0 0 0) 0 0 2, ?_, ?_, by decide, fun _ => rfl, tc_th0, fun z => absurd z (by decide), tc_no h 2⟩
          · simp only [f_X2_turn, e2, Option.bind_some, if_pos, p2, tc_cl (show c ≤ 1000 by omega), if_pos (tc_g2 hc (show c ≤ 1000 by omega)), tc_let, r2, if_neg tc_10, ep2, h0.hb hp hq, tc_low hc, if_neg e4]
          · rw [k.2.2.2.2.2.2.1] at e4
            simp only [f_X3_turn, tc_let, e3, Option.bind_some, if_neg tc_10, p3, r3, tc_cl (show c ≤ 1000 by omega), if_pos (tc_g2 hc5 (show c ≤ 1000 by omega)), ep, h0.h3n hp hq, h0.lo hc, if_neg e4, f_X3_no, tc_b2]
