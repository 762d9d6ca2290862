/-! A hook is raised or lowered; a load falls. -/
theorem tc_cnt_ge {pa : Nat → Nat} {j q p : Nat} (n : Nat) (hj : n ≤ j) : tc_cnt (va_up pa j q) n p = tc_cnt pa n p := by
  induction n with
  | zero => rfl
  | succ n ih =>
    show tc_cnt (va_up pa j q) n p + (if va_up pa j q n = p then 1 else 0) = tc_cnt pa n p + (if pa n = p then 1 else 0)
    rw [ih (by omega), va_up_ne _ _ (by omega)]
theorem tc_cnt_up {pa : Nat → Nat} {j q p : Nat} (n : Nat) (hj : j < n) : tc_cnt (va_up pa j q) n p + (if pa j = p then 1 else 0) = tc_cnt pa n p + (if q = p then 1 else 0) := by
  induction n with
  | zero => omega
  | succ n ih =>
    show tc_cnt (va_up pa j q) n p + (if va_up pa j q n = p then 1 else 0) + _ = tc_cnt pa n p + (if pa n = p then 1 else 0) + _
    by_cases e : n = j
    · subst e
      rw [tc_cnt_ge n (Nat.le_refl _), va_up_self]; omega
    · rw [va_up_ne _ _ e]
      have := ih (by omega)
      omega
theorem tc_ldc_up {ld : Nat → Option Nat} {c : Nat} {o : Option Nat} (n : Nat) (hc : c < n) : tc_ldc (fun i => if i = c then o else ld i) n + (if ld c = none then 0 else 1) = tc_ldc ld n + (if o = none then 0 else 1) := by
  induction n with
  | zero => omega
  | succ n ih =>
    show tc_ldc (fun i => if i = c then o else ld i) n + (if (if n = c then o else ld n) = none then 0 else 1) + _ = tc_ldc ld n + (if ld n = none then 0 else 1) + _
    by_cases e : n = c
    · subst e
      rw [if_pos rfl, tc_ldc_congr (ld' := ld) n (fun i hi => if_neg (by omega))]; omega
    · rw [if_neg e]
      have := ih (by omega)
      omega
section TCHO
variable {pa lv : Nat → Nat} {x : tc_X} {y : tc_Y}
theorem tc_Rl.fall (h : tc_Rl pa lv x y) {c j : Nat} (hc : c < tc_nc x) (hl : x.2.1 2 c = some j) : tc_Rl (va_up pa j 17) lv (tc_si (tc_sr (tc_si (tc_si x 14 j (-1)) 15 j 1) 2 c none) 24 c 99) (tc_ym (tc_ym (tc_ym y 4 j (-2)) 14 c (-1)) 11 c 99) := by
  obtain ⟨⟨g1, g2, g3, g4, g5⟩, hb, hcr, hpp, i1, i2, i3, i4, i5⟩ := h
  obtain ⟨hj, hj14, hpj, hxj⟩ := (hcr c hc).2.2.2.2.2.2.2.2.2.2.2.2 j hl
  generalize hx' : tc_si (tc_sr (tc_si (tc_si x 14 j (-1)) 15 j 1) 2 c none) 24 c 99 = x'
  generalize hy' : tc_ym (tc_ym (tc_ym y 4 j (-2)) 14 c (-1)) 11 c 99 = y'
  have X : ∀ k i, ¬ (k = 24 ∧ i = c) → ¬ (k = 15 ∧ i = j) → ¬ (k = 14 ∧ i = j) → x'.1 k i = x.1 k i := fun k i a b d => by rw [← hx', tc_si_ne a, tc_sr_1, tc_si_ne b, tc_si_ne d]
  have x24 : x'.1 24 c = 99 := by rw [← hx', tc_si_eq]
  have x15 : x'.1 15 j = 1 := by rw [← hx', tc_si_ne (by omega), tc_sr_1, tc_si_eq]
  have x14 : x'.1 14 j = -1 := by rw [← hx', tc_si_ne (by omega), tc_sr_1, tc_si_ne (by omega), tc_si_eq]
  have Rr : ∀ k i, ¬ (k = 2 ∧ i = c) → x'.2.1 k i = x.2.1 k i := fun k i a => by rw [← hx', tc_si_2, tc_sr_ne a]; rfl
  have r2 : x'.2.1 2 c = none := by rw [← hx', tc_si_2, tc_sr_eq]
  have en : tc_nb x' = tc_nb x := by rw [← hx']; rfl
  have ec : tc_nc x' = tc_nc x := by rw [← hx']; rfl
  have Y : ∀ a, a ≠ 4 → a ≠ 14 → a ≠ 11 → y' a = y a := fun a h1 h2 h3 => by rw [← hy', tc_ym_ne h3, tc_ym_ne h2, tc_ym_ne h1]
  have y4 : ∀ i, i ≠ j → y' 4 i = y 4 i := fun i hi => by rw [← hy', tc_ym_ne (by decide), tc_ym_ne (by decide), tc_ymi hi]
  have y4j : y' 4 j = -2 := by rw [← hy', tc_ym_ne (by decide), tc_ym_ne (by decide), tc_ymv]
  have y14 : ∀ i, i ≠ c → y' 14 i = y 14 i := fun i hi => by rw [← hy', tc_ym_ne (by decide), tc_ymi hi, tc_ym_ne (by decide)]
  have y14c : y' 14 c = -1 := by rw [← hy', tc_ym_ne (by decide), tc_ymv]
  have y11 : ∀ i, i ≠ c → y' 11 i = y 11 i := fun i hi => by rw [← hy', tc_ymi hi, tc_ym_ne (by decide), tc_ym_ne (by decide)]
  have y11c : y' 11 c = 99 := by rw [← hy', tc_ymv]
  have cn : ∀ p, p < 16 → tc_cnt (va_up pa j 17) (tc_nb x) p = tc_cnt pa (tc_nb x) p := fun p hp => by
    have := tc_cnt_up (pa := pa) (q := 17) (p := p) (tc_nb x) hj
    rw [if_neg (by omega), if_neg (by omega)] at this; omega
  have pn : ∀ b, b ≠ j → va_up pa j 17 b = pa b := fun b hb => va_up_ne _ _ hb
  refine ⟨⟨?_, ?_, ?_, by rw [en]; exact g4, by rw [ec]; exact g5⟩, fun b hb' => ?_, fun i hi => ?_, fun q hq => ?_, ?_⟩
  · rw [X 0 0 (by omega) (by omega) (by omega), Y 1 (by decide) (by decide) (by decide)]; exact g1
  · rw [Y 2 (by decide) (by decide) (by decide), en]; exact g2
  · rw [Y 6 (by decide) (by decide) (by decide), ec]; exact g3
  · rw [en] at hb'
    have k := hb b hb'
    unfold tc_Rb at k ⊢
    rw [en, ec, X 10 b (by omega) (by omega) (by omega), X 11 b (by omega) (by omega) (by omega), X 12 b (by omega) (by omega) (by omega), X 13 b (by omega) (by omega) (by omega), Rr 1 b (by omega), Y 3 (by decide) (by decide) (by decide), Y 5 (by decide) (by decide) (by decide)]
    by_cases e : b = j
    · subst e
      rw [va_up_self, y4j, x15, x14]
      exact ⟨k.1, k.2.1, by decide, fun z => absurd z (by decide), fun z => absurd z (by decide), fun _ => ⟨rfl, (k.2.2.2.2.1 hpj).2.1, rfl, rfl⟩, k.2.2.2.2.2.2⟩
    · rw [pn b e, y4 b e, X 14 b (by omega) (by omega) (by omega), X 15 b (by omega) (by omega) (by omega)]
      refine ⟨k.1, k.2.1, k.2.2.1, fun z => ?_, fun z => ?_, k.2.2.2.2.2.1, k.2.2.2.2.2.2⟩
      · obtain ⟨q1, q2, q3, q4, q5, q6, q7, q8, q9⟩ := k.2.2.2.1 z
        refine ⟨q1, q2, q3, q4, by rw [cn _ z]; exact q5, q6, q7, q8, fun i hi => ?_⟩
        obtain ⟨b', t1, t2, t3, t4⟩ := q9 i hi
        exact ⟨b', t1, t2, by rw [pn b' (fun w => by rw [w, hpj] at t3; omega)]; exact t3, t4⟩
      · obtain ⟨q1, q2, q3, c', c1, c2, c3⟩ := k.2.2.2.2.1 z
        exact ⟨q1, q2, q3, c', c1, c2, by rw [Rr 2 c' (fun w => by rw [w.2, hl] at c3; exact e (Option.some.inj c3).symm)]; exact c3⟩
  · rw [ec] at hi
    have k := hcr i hi
    unfold tc_Rc at k ⊢
    rw [en, X 20 i (by omega) (by omega) (by omega), X 21 i (by omega) (by omega) (by omega), X 22 i (by omega) (by omega) (by omega), X 23 i (by omega) (by omega) (by omega), X 25 i (by omega) (by omega) (by omega), X 26 i (by omega) (by omega) (by omega), Y 7 (by decide) (by decide) (by decide), Y 8 (by decide) (by decide) (by decide), Y 9 (by decide) (by decide) (by decide), Y 10 (by decide) (by decide) (by decide), Y 12 (by decide) (by decide) (by decide), Y 13 (by decide) (by decide) (by decide)]
    by_cases e : i = c
    · subst e
      rw [x24, y11c, r2, y14c]
      exact ⟨k.1, k.2.1, k.2.2.1, k.2.2.2.1, rfl, k.2.2.2.2.2.1, k.2.2.2.2.2.2.1, k.2.2.2.2.2.2.2.1, k.2.2.2.2.2.2.2.2.1, k.2.2.2.2.2.2.2.2.2.1, k.2.2.2.2.2.2.2.2.2.2.1, fun _ => rfl, fun b hb => by cases hb⟩
    · rw [X 24 i (by omega) (by omega) (by omega), y11 i e, Rr 2 i (by omega), y14 i e]
      refine ⟨k.1, k.2.1, k.2.2.1, k.2.2.2.1, k.2.2.2.2.1, k.2.2.2.2.2.1, k.2.2.2.2.2.2.1, k.2.2.2.2.2.2.2.1, k.2.2.2.2.2.2.2.2.1, k.2.2.2.2.2.2.2.2.2.1, k.2.2.2.2.2.2.2.2.2.2.1, k.2.2.2.2.2.2.2.2.2.2.2.1, fun b hb' => ?_⟩
      obtain ⟨t1, t2, t3, t4⟩ := k.2.2.2.2.2.2.2.2.2.2.2.2 b hb'
      have hbj : b ≠ j := fun w => by
        rw [w, hxj] at t4
        exact e ((nI_eq (by omega) (by omega)).mp t4).symm
      exact ⟨t1, t2, by rw [pn b hbj]; exact t3, by rw [X 14 b (by omega) (by omega) (by omega)]; exact t4⟩
  · obtain ⟨k1, k2, k3⟩ := hpp q hq
    unfold tc_Rp
    rw [en, Rr 0 q (by omega), cn q hq]
    refine ⟨k1, fun i hi => ?_, k3⟩
    obtain ⟨b, t1, t2, t3, t4⟩ := k2 i hi
    exact ⟨b, t1, t2, by rw [pn b (fun w => by rw [w, hpj] at t3; omega)]; exact t3, t4⟩
  · refine ⟨fun q hq => by rw [Rr 0 q (by omega)]; exact i1 q hq, fun b b' h1 h2 h3 h4 h5 => ?_, fun q i hq hi => ?_, ?_, fun c' h' => by rw [ec] at h'; rw [y11 c' (by omega)]; exact i5 c' h'⟩
    · rw [en] at h1 h2
      have e1 : b ≠ j := fun w => by rw [w, va_up_self] at h4; omega
      have e2 : b' ≠ j := fun w => by rw [h3, w, va_up_self] at h4; omega
      rw [pn b e1, pn b' e2] at h3
      rw [pn b e1] at h4
      exact i2 b b' h1 h2 h3 h4 h5
    · rw [en, cn q hq] at hi
      obtain ⟨b, t1, t2, t3⟩ := i3 q i hq hi
      exact ⟨b, by rw [en]; exact t1, by rw [pn b (fun w => by rw [w, hpj] at t2; omega)]; exact t2, t3⟩
    · rw [en, ec]
      have c16 := tc_cnt_up (pa := pa) (q := 17) (p := 16) (tc_nb x) hj
      rw [if_pos hpj, if_neg (by omega)] at c16
      have l2 := tc_ldc_up (ld := x.2.1 2) (o := none) (tc_nc x) hc
      rw [hl, if_neg (by simp), if_pos rfl] at l2
      have l3 : tc_ldc (x'.2.1 2) (tc_nc x) = tc_ldc (fun i => if i = c then none else x.2.1 2 i) (tc_nc x) := tc_ldc_congr _ (fun i hi => by
        by_cases w : i = c
        · rw [w, r2, if_pos rfl]
        · rw [Rr 2 i (by omega), if_neg w])
      omega
theorem tc_Rl.setV (h : tc_Rl pa lv x y) {c A : Nat} (hc : c < tc_nc x) (hA : A ≤ 20) (W t : Int32) : tc_Rl pa lv (tc_si (tc_si (tc_si x 24 c W) 26 c (nI A)) 0 0 (x.1 0 0 + t)) (tc_ym (tc_ym (tc_ym y 11 c W) 13 c (nI A)) 1 0 (y 1 0 + t)) := by
  refine h.chgC hc rfl (fun k' i h1 h2 => ?_) (by rw [tc_si_eq, tc_ymv, h.1.1]) (fun a ha => ?_) (fun a i hi ha => ?_) ?_
  · rw [tc_si_ne (by omega), tc_si_ne (by omega), tc_si_ne (by omega)]
  · rw [tc_ym_ne (by omega), tc_ym_ne (by omega), tc_ym_ne (by omega)]
  · rw [tc_ym_ne (by omega), tc_ymi hi, tc_ymi hi]
  · have k0 := h.2.2.1 c hc
    unfold tc_Rc at k0 ⊢
    simp only [tc_ym_ne (show 7 ≠ 1 by decide), tc_ym_ne (show 8 ≠ 1 by decide), tc_ym_ne (show 9 ≠ 1 by decide), tc_ym_ne (show 10 ≠ 1 by decide), tc_ym_ne (show 11 ≠ 1 by decide), tc_ym_ne (show 12 ≠ 1 by decide), tc_ym_ne (show 13 ≠ 1 by decide), tc_ym_ne (show 14 ≠ 1 by decide), tc_ym_ne (show 7 ≠ 13 by decide), tc_ym_ne (show 8 ≠ 13 by decide), tc_ym_ne (show 9 ≠ 13 by decide), tc_ym_ne (show 10 ≠ 13 by decide), tc_ym_ne (show 11 ≠ 13 by decide), tc_ym_ne (show 12 ≠ 13 by decide), tc_ym_ne (show 14 ≠ 13 by decide), tc_ym_ne (show 7 ≠ 11 by decide), tc_ym_ne (show 8 ≠ 11 by decide), tc_ym_ne (show 9 ≠ 11 by decide), tc_ym_ne (show 10 ≠ 11 by decide), tc_ym_ne (show 12 ≠ 11 by decide), tc_ym_ne (show 14 ≠ 11 by decide), tc_ymv]
    rw [tc_si_ne (show ¬ (20 = 0 ∧ c = 0) by omega), tc_si_ne (show ¬ (21 = 0 ∧ c = 0) by omega), tc_si_ne (show ¬ (22 = 0 ∧ c = 0) by omega), tc_si_ne (show ¬ (23 = 0 ∧ c = 0) by omega), tc_si_ne (show ¬ (24 = 0 ∧ c = 0) by omega), tc_si_ne (show ¬ (25 = 0 ∧ c = 0) by omega), tc_si_ne (show ¬ (26 = 0 ∧ c = 0) by omega), tc_si_eq, tc_si_ne (show ¬ (20 = 26 ∧ c = c) by omega), tc_si_ne (show ¬ (21 = 26 ∧ c = c) by omega), tc_si_ne (show ¬ (22 = 26 ∧ c = c) by omega), tc_si_ne (show ¬ (23 = 26 ∧ c = c) by omega), tc_si_ne (show ¬ (24 = 26 ∧ c = c) by omega), tc_si_ne (show ¬ (25 = 26 ∧ c = c) by omega), tc_si_eq, tc_si_ne (show ¬ (20 = 24 ∧ c = c) by omega), tc_si_ne (show ¬ (21 = 24 ∧ c = c) by omega), tc_si_ne (show ¬ (22 = 24 ∧ c = c) by omega), tc_si_ne (show ¬ (23 = 24 ∧ c = c) by omega), tc_si_ne (show ¬ (25 = 24 ∧ c = c) by omega)]
    exact ⟨k0.1, k0.2.1, k0.2.2.1, k0.2.2.2.1, rfl, k0.2.2.2.2.2.1, rfl, k0.2.2.2.2.2.2.2.1, k0.2.2.2.2.2.2.2.2.1, k0.2.2.2.2.2.2.2.2.2.1, ⟨A, hA, rfl⟩, k0.2.2.2.2.2.2.2.2.2.2.2.1, fun b hb => by rw [tc_si_ne (by omega), tc_si_ne (by omega), tc_si_ne (by omega)]; exact k0.2.2.2.2.2.2.2.2.2.2.2.2 b hb⟩
theorem tc_si_same {c i : Nat} : tc_si x c i (x.1 c i) = x := by
  have e : (fun c' i' => if c' = c ∧ i' = i then x.1 c i else x.1 c' i') = x.1 := by
    funext c' i'
    by_cases w : c' = c ∧ i' = i
    · rw [if_pos w, w.1, w.2]
    · rw [if_neg w]
  unfold tc_si
  rw [e]
theorem tc_ym_same {a i : Nat} : tc_ym y a i (y a i) = y := by
  funext a'
  by_cases w : a' = a
  · subst w
    rw [tc_ym_eq]
    funext i'
    by_cases v : i' = i
    · subst v; exact pk_us
    · exact if_neg v
  · rw [tc_ym_ne w]
theorem tc_Rl.setU (h : tc_Rl pa lv x y) {c A : Nat} (hc : c < tc_nc x) (hA : A ≤ 20) (t : Int32) : tc_Rl pa lv (tc_si (tc_si x 26 c (nI A)) 0 0 (x.1 0 0 + t)) (tc_ym (tc_ym y 13 c (nI A)) 1 0 (y 1 0 + t)) := by
  have k := h.setV hc hA (x.1 24 c) t
  have e : y 11 c = x.1 24 c := (h.2.2.1 c hc).2.2.2.2.1.symm
  rw [tc_si_same] at k
  rw [← e, tc_ym_same] at k
  exact k
end TCHO
