/-! The call lay. -/
theorem tc_put9 {x : tc_X} {j n p : Nat} (hp : p < 16) (hj : j < tc_nb x) (hh : f_X2_heightOf x (nI p) = some (nI n)) : f_X2_putUpon x (nI p) j = some (tc_sr (tc_sr (tc_si (tc_si x 12 j (nI p)) 13 j (nI n)) 1 j (x.2.1 0 p)) 0 p (some j)) := by
  have e : f_X2_heightOf (tc_si x 12 j (nI p)) (nI p) = some (nI n) := by
    rw [← hh]
    simp only [f_X2_heightOf, tc_up hp, Option.bind_some, tc_si_2]
    cases x.2.1 0 p with
    | none => rfl
    | some b =>
      show (if b < tc_nb x then some ((tc_si x 12 j (nI p)).1 13 b + 1) else none) = (if b < tc_nb x then some (x.1 13 b + 1) else none)
      rw [tc_si_ne (by omega)]
  simp only [f_X2_putUpon, (tc_pl1 hp).1, Option.bind_some, if_neg tc_10, if_pos hj, tc_leteq, e, tc_cl (show p ≤ 1000 by omega), if_pos (tc_g2 hp (show p ≤ 1000 by omega)), tc_si_2]
  cases x.2.1 0 p <;> rfl
section TCLY
variable {pa lv : Nat → Nat} {x : tc_X} {y : tc_Y}
theorem tc_Rl.laid (h : tc_Rl pa lv x y) {c j p n : Nat} (hc : c < tc_nc x) (hl : x.2.1 2 c = some j) (hp : p < 16) (hcn : tc_cnt pa (tc_nb x) p = n) (hn : n ≤ 7) : tc_Rl (va_up pa j p) (va_up lv j n) (tc_sr (tc_sr (tc_si (tc_si (tc_si (tc_sr x 2 c none) 14 j (-1)) 12 j (nI p)) 13 j (nI n)) 1 j (x.2.1 0 p)) 0 p (some j)) (tc_ym (tc_ym (tc_ym y 4 j (nI p)) 5 j (nI n)) 14 c (-1)) := by
  obtain ⟨⟨g1, g2, g3, g4, g5⟩, hb, hcr, hpp, i1, i2, i3, i4, i5⟩ := h
  obtain ⟨hj, hj14, hpj, hxj⟩ := (hcr c hc).2.2.2.2.2.2.2.2.2.2.2.2 j hl
  obtain ⟨kp1, kp2, kp3⟩ := hpp p hp
  rw [hcn] at kp1 kp2 kp3
  generalize hx' : tc_sr (tc_sr (tc_si (tc_si (tc_si (tc_sr x 2 c none) 14 j (-1)) 12 j (nI p)) 13 j (nI n)) 1 j (x.2.1 0 p)) 0 p (some j) = x'
  generalize hy' : tc_ym (tc_ym (tc_ym y 4 j (nI p)) 5 j (nI n)) 14 c (-1) = y'
  have X : ∀ k i, ¬ (k = 12 ∧ i = j) → ¬ (k = 13 ∧ i = j) → ¬ (k = 14 ∧ i = j) → x'.1 k i = x.1 k i := fun k i a b d => by rw [← hx', tc_sr_1, tc_sr_1, tc_si_ne b, tc_si_ne a, tc_si_ne d, tc_sr_1]
  have x12 : x'.1 12 j = nI p := by rw [← hx', tc_sr_1, tc_sr_1, tc_si_ne (by omega), tc_si_eq]
  have x13 : x'.1 13 j = nI n := by rw [← hx', tc_sr_1, tc_sr_1, tc_si_eq]
  have x14 : x'.1 14 j = -1 := by rw [← hx', tc_sr_1, tc_sr_1, tc_si_ne (by omega), tc_si_ne (by omega), tc_si_eq]
  have Rr : ∀ k i, ¬ (k = 2 ∧ i = c) → ¬ (k = 0 ∧ i = p) → ¬ (k = 1 ∧ i = j) → x'.2.1 k i = x.2.1 k i := fun k i a b d => by rw [← hx', tc_sr_ne b, tc_sr_ne d, tc_si_2, tc_si_2, tc_si_2, tc_sr_ne a]
  have r2 : x'.2.1 2 c = none := by rw [← hx', tc_sr_ne (by omega), tc_sr_ne (by omega), tc_si_2, tc_si_2, tc_si_2, tc_sr_eq]
  have r0 : x'.2.1 0 p = some j := by rw [← hx', tc_sr_eq]
  have r1 : x'.2.1 1 j = x.2.1 0 p := by rw [← hx', tc_sr_ne (by omega), tc_sr_eq]
  have en : tc_nb x' = tc_nb x := by rw [← hx']; rfl
  have ec : tc_nc x' = tc_nc x := by rw [← hx']; rfl
  have Y : ∀ a, a ≠ 4 → a ≠ 5 → a ≠ 14 → y' a = y a := fun a h1 h2 h3 => by rw [← hy', tc_ym_ne h3, tc_ym_ne h2, tc_ym_ne h1]
  have y4 : ∀ i, i ≠ j → y' 4 i = y 4 i := fun i hi => by rw [← hy', tc_ym_ne (by decide), tc_ym_ne (by decide), tc_ymi hi]
  have y4j : y' 4 j = nI p := by rw [← hy', tc_ym_ne (by decide), tc_ym_ne (by decide), tc_ymv]
  have y5 : ∀ i, i ≠ j → y' 5 i = y 5 i := fun i hi => by rw [← hy', tc_ym_ne (by decide), tc_ymi hi, tc_ym_ne (by decide)]
  have y5j : y' 5 j = nI n := by rw [← hy', tc_ym_ne (by decide), tc_ymv]
  have y14 : ∀ i, i ≠ c → y' 14 i = y 14 i := fun i hi => by rw [← hy', tc_ymi hi, tc_ym_ne (by decide), tc_ym_ne (by decide)]
  have y14c : y' 14 c = -1 := by rw [← hy', tc_ymv]
  have cn : ∀ q, q < 16 → q ≠ p → tc_cnt (va_up pa j p) (tc_nb x) q = tc_cnt pa (tc_nb x) q := fun q hq hqp => by
    have := tc_cnt_up (pa := pa) (q := p) (p := q) (tc_nb x) hj
    rw [if_neg (by omega), if_neg (by omega)] at this; omega
  have cp : tc_cnt (va_up pa j p) (tc_nb x) p = n + 1 := by
    have := tc_cnt_up (pa := pa) (q := p) (p := p) (tc_nb x) hj
    rw [if_neg (by omega), if_pos rfl, hcn] at this; omega
  have c16 : tc_cnt (va_up pa j p) (tc_nb x) 16 + 1 = tc_cnt pa (tc_nb x) 16 := by
    have := tc_cnt_up (pa := pa) (q := p) (p := 16) (tc_nb x) hj
    rw [if_pos hpj, if_neg (by omega)] at this; omega
  have pn : ∀ b, b ≠ j → va_up pa j p b = pa b := fun b hb => va_up_ne _ _ hb
  have ln : ∀ b, b ≠ j → va_up lv j n b = lv b := fun b hb => va_up_ne _ _ hb
  have lvp : ∀ b, b < tc_nb x → pa b = p → lv b < n := fun b b1 b2 => by
    have := ((hb b b1).2.2.2.1 (by omega)).2.2.2.2.1
    rw [b2, hcn] at this; exact this
  refine ⟨⟨?_, ?_, ?_, by rw [en]; exact g4, by rw [ec]; exact g5⟩, fun b hb' => ?_, fun i hi => ?_, fun q hq => ?_, ?_⟩
  · rw [X 0 0 (by omega) (by omega) (by omega), Y 1 (by decide) (by decide) (by decide)]; exact g1
  · rw [Y 2 (by decide) (by decide) (by decide), en]; exact g2
  · rw [Y 6 (by decide) (by decide) (by decide), ec]; exact g3
  · rw [en] at hb'
    have k := hb b hb'
    unfold tc_Rb at k ⊢
    rw [en, ec, X 10 b (by omega) (by omega) (by omega), X 11 b (by omega) (by omega) (by omega), X 15 b (by omega) (by omega) (by omega), Y 3 (by decide) (by decide) (by decide)]
    by_cases e : b = j
    · subst e
      rw [va_up_self, va_up_self, y4j, y5j, x12, x13, x14, r1, cp]
      refine ⟨k.1, k.2.1, by omega, fun _ => ⟨rfl, rfl, rfl, rfl, by omega, rfl, (k.2.2.2.2.1 hpj).2.2.1, fun z => kp1 z, fun i hi => ?_⟩, fun z => by omega, fun z => by omega, fun b' hb'' => ?_⟩
      · obtain ⟨b', t1, t2, t3, t4⟩ := kp2 i hi
        have hne : b' ≠ b := fun w => by rw [w] at t3; omega
        exact ⟨b', t1, t2, by rw [pn b' hne]; exact t3, by rw [ln b' hne]; exact t4⟩
      · cases hz : n with
        | zero => rw [kp1 hz] at hb''; cases hb''
        | succ i =>
          obtain ⟨b3, t1, t2, -⟩ := kp2 i hz
          rw [t2] at hb''; cases hb''; exact t1
    · rw [pn b e, ln b e, y4 b e, y5 b e, X 12 b (by omega) (by omega) (by omega), X 13 b (by omega) (by omega) (by omega), X 14 b (by omega) (by omega) (by omega), Rr 1 b (by omega) (by omega) (by omega)]
      refine ⟨k.1, k.2.1, k.2.2.1, fun z => ?_, fun z => ?_, k.2.2.2.2.2.1, k.2.2.2.2.2.2⟩
      · obtain ⟨q1, q2, q3, q4, q5, q6, q7, q8, q9⟩ := k.2.2.2.1 z
        have lb : lv b < tc_cnt (va_up pa j p) (tc_nb x) (pa b) := by
          by_cases w : pa b = p
          · rw [w, cp]; rw [w, hcn] at q5; omega
          · rw [cn _ z w]; exact q5
        refine ⟨q1, q2, q3, q4, lb, q6, q7, q8, fun i hi => ?_⟩
        obtain ⟨b', t1, t2, t3, t4⟩ := q9 i hi
        have hne : b' ≠ j := fun w => by rw [w] at t3; omega
        exact ⟨b', t1, t2, by rw [pn b' hne]; exact t3, by rw [ln b' hne]; exact t4⟩
      · obtain ⟨q1, q2, q3, c', c1, c2, c3⟩ := k.2.2.2.2.1 z
        exact ⟨q1, q2, q3, c', c1, c2, by rw [Rr 2 c' (fun w => by rw [w.2, hl] at c3; exact e (Option.some.inj c3).symm) (by omega) (by omega)]; exact c3⟩
  · rw [ec] at hi
    have k := hcr i hi
    unfold tc_Rc at k ⊢
    rw [en, X 20 i (by omega) (by omega) (by omega), X 21 i (by omega) (by omega) (by omega), X 22 i (by omega) (by omega) (by omega), X 23 i (by omega) (by omega) (by omega), X 24 i (by omega) (by omega) (by omega), X 25 i (by omega) (by omega) (by omega), X 26 i (by omega) (by omega) (by omega), Y 7 (by decide) (by decide) (by decide), Y 8 (by decide) (by decide) (by decide), Y 9 (by decide) (by decide) (by decide), Y 10 (by decide) (by decide) (by decide), Y 11 (by decide) (by decide) (by decide), Y 12 (by decide) (by decide) (by decide), Y 13 (by decide) (by decide) (by decide)]
    refine ⟨k.1, k.2.1, k.2.2.1, k.2.2.2.1, k.2.2.2.2.1, k.2.2.2.2.2.1, k.2.2.2.2.2.2.1, k.2.2.2.2.2.2.2.1, k.2.2.2.2.2.2.2.2.1, k.2.2.2.2.2.2.2.2.2.1, k.2.2.2.2.2.2.2.2.2.2.1, ?_, ?_⟩
    · by_cases e : i = c
      · subst e; exact fun _ => y14c
      · rw [Rr 2 i (by omega) (by omega) (by omega), y14 i e]; exact k.2.2.2.2.2.2.2.2.2.2.2.1
    · by_cases e : i = c
      · subst e; rw [r2]
        intro b z
        cases z
      · rw [Rr 2 i (by omega) (by omega) (by omega), y14 i e]
        intro b hb'
        obtain ⟨t1, t2, t3, t4⟩ := k.2.2.2.2.2.2.2.2.2.2.2.2 b hb'
        have hbj : b ≠ j := fun w => by
          rw [w, hxj] at t4
          exact e ((nI_eq (by omega) (by omega)).mp t4).symm
        exact ⟨t1, t2, by rw [pn b hbj]; exact t3, by rw [X 14 b (by omega) (by omega) (by omega)]; exact t4⟩
  · obtain ⟨k1, k2, k3⟩ := hpp q hq
    unfold tc_Rp
    by_cases e : q = p
    · subst e
      rw [en, r0, cp]
      refine ⟨fun z => by omega, fun i hi => ⟨j, hj, rfl, va_up_self _ _ _, ?_⟩, by omega⟩
      rw [va_up_self]; omega
    · rw [en, Rr 0 q (by omega) (by omega) (by omega), cn q hq e]
      refine ⟨k1, fun i hi => ?_, k3⟩
      obtain ⟨b, t1, t2, t3, t4⟩ := k2 i hi
      have hne : b ≠ j := fun w => by rw [w] at t3; omega
      exact ⟨b, t1, t2, by rw [pn b hne]; exact t3, by rw [ln b hne]; exact t4⟩
  · refine ⟨fun q hq => by rw [Rr 0 q (by omega) (by omega) (by omega)]; exact i1 q hq, fun b b' h1 h2 h3 h4 h5 => ?_, fun q i hq hi => ?_, ?_, fun c' h' => by rw [ec] at h'; rw [Y 11 (by decide) (by decide) (by decide)]; exact i5 c' h'⟩
    · rw [en] at h1 h2
      by_cases e1 : b = j
      · by_cases e2 : b' = j
        · rw [e1, e2]
        · exfalso
          rw [e1, va_up_self, pn b' e2] at h3
          rw [e1, va_up_self, ln b' e2] at h5
          have := lvp b' h2 h3.symm
          omega
      · by_cases e2 : b' = j
        · exfalso
          rw [e2, va_up_self, pn b e1] at h3
          rw [e2, va_up_self, ln b e1] at h5
          have := lvp b h1 h3
          omega
        · rw [pn b e1, pn b' e2] at h3
          rw [pn b e1] at h4
          rw [ln b e1, ln b' e2] at h5
          exact i2 b b' h1 h2 h3 h4 h5
    · rw [en] at hi ⊢
      have old : i < tc_cnt pa (tc_nb x) q → ∃ b, b < tc_nb x ∧ va_up pa j p b = q ∧ va_up lv j n b = i := fun z => by
        obtain ⟨b, b1, b2, b3⟩ := i3 q i hq z
        have hne : b ≠ j := fun w => by rw [w] at b2; omega
        exact ⟨b, b1, by rw [pn b hne]; exact b2, by rw [ln b hne]; exact b3⟩
      by_cases e : q = p
      · subst e
        rw [cp] at hi
        by_cases w : i = n
        · exact ⟨j, hj, va_up_self _ _ _, by rw [va_up_self, w]⟩
        · exact old (by rw [hcn]; omega)
      · rw [cn q hq e] at hi
        exact old hi
    · rw [en, ec]
      have u := tc_ldc_up (ld := x.2.1 2) (o := none) (tc_nc x) hc
      rw [hl, if_neg (by simp), if_pos rfl] at u
      have l3 : tc_ldc (x'.2.1 2) (tc_nc x) = tc_ldc (fun i => if i = c then none else x.2.1 2 i) (tc_nc x) := tc_ldc_congr _ (fun i hi => by
        by_cases w : i = c
        · rw [w, r2, if_pos rfl]
        · rw [Rr 2 i (by omega) (by omega) (by omega), if_neg w])
      omega
end TCLY
