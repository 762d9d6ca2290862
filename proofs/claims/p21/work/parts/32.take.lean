/-! The call take. -/
section TCTA
variable {pa lv : Nat → Nat} {x : tc_X} {y : tc_Y}
theorem tc_Rl.taken (h : tc_Rl pa lv x y) {c t p l : Nat} (hc : c < tc_nc x) (hl : x.2.1 2 c = none) (hp : p < 16) (ht : t < tc_nb x) (hpt : pa t = p) (hlt : lv t = l) (hcn : tc_cnt pa (tc_nb x) p = l + 1) : tc_Rl (va_up pa t 16) lv (tc_sr (tc_si (tc_si (tc_sr x 0 p (x.2.1 1 t)) 12 t (-1)) 14 t (nI c)) 2 c (some t)) (tc_ym (tc_ym y 14 c (nI t)) 4 t (-1)) := by
  obtain ⟨⟨g1, g2, g3, g4, g5⟩, hb, hcr, hpp, i1, i2, i3, i4, i5⟩ := h
  have kt := hb t ht
  have ktp := kt.2.2.2.1 (by omega)
  generalize hx' : tc_sr (tc_si (tc_si (tc_sr x 0 p (x.2.1 1 t)) 12 t (-1)) 14 t (nI c)) 2 c (some t) = x'
  generalize hy' : tc_ym (tc_ym y 14 c (nI t)) 4 t (-1) = y'
  have X : ∀ k i, ¬ (k = 12 ∧ i = t) → ¬ (k = 14 ∧ i = t) → x'.1 k i = x.1 k i := fun k i a b => by rw [← hx', tc_sr_1, tc_si_ne b, tc_si_ne a, tc_sr_1]
  have x12 : x'.1 12 t = -1 := by rw [← hx', tc_sr_1, tc_si_ne (by omega), tc_si_eq]
  have x14 : x'.1 14 t = nI c := by rw [← hx', tc_sr_1, tc_si_eq]
  have Rr : ∀ k i, ¬ (k = 2 ∧ i = c) → ¬ (k = 0 ∧ i = p) → x'.2.1 k i = x.2.1 k i := fun k i a b => by rw [← hx', tc_sr_ne a, tc_si_2, tc_si_2, tc_sr_ne b]
  have r2 : x'.2.1 2 c = some t := by rw [← hx', tc_sr_eq]
  have r0 : x'.2.1 0 p = x.2.1 1 t := by rw [← hx', tc_sr_ne (by omega), tc_si_2, tc_si_2, tc_sr_eq]
  have en : tc_nb x' = tc_nb x := by rw [← hx']; rfl
  have ec : tc_nc x' = tc_nc x := by rw [← hx']; rfl
  have Y : ∀ a, a ≠ 4 → a ≠ 14 → y' a = y a := fun a h1 h2 => by rw [← hy', tc_ym_ne h1, tc_ym_ne h2]
  have y4 : ∀ i, i ≠ t → y' 4 i = y 4 i := fun i hi => by rw [← hy', tc_ymi hi, tc_ym_ne (by decide)]
  have y4t : y' 4 t = -1 := by rw [← hy', tc_ymv]
  have y14 : ∀ i, i ≠ c → y' 14 i = y 14 i := fun i hi => by rw [← hy', tc_ym_ne (by decide), tc_ymi hi]
  have y14c : y' 14 c = nI t := by rw [← hy', tc_ym_ne (by decide), tc_ymv]
  have cn : ∀ q, q < 16 → q ≠ p → tc_cnt (va_up pa t 16) (tc_nb x) q = tc_cnt pa (tc_nb x) q := fun q hq hqp => by
    have := tc_cnt_up (pa := pa) (q := 16) (p := q) (tc_nb x) ht
    rw [if_neg (by omega), if_neg (by omega)] at this; omega
  have cp : tc_cnt (va_up pa t 16) (tc_nb x) p = l := by
    have := tc_cnt_up (pa := pa) (q := 16) (p := p) (tc_nb x) ht
    rw [if_pos hpt, if_neg (by omega), hcn] at this; omega
  have c16 : tc_cnt (va_up pa t 16) (tc_nb x) 16 = tc_cnt pa (tc_nb x) 16 + 1 := by
    have := tc_cnt_up (pa := pa) (q := 16) (p := 16) (tc_nb x) ht
    rw [if_neg (by omega), if_pos rfl] at this; omega
  have pn : ∀ b, b ≠ t → va_up pa t 16 b = pa b := fun b hb => va_up_ne _ _ hb
  refine ⟨⟨?_, ?_, ?_, by rw [en]; exact g4, by rw [ec]; exact g5⟩, fun b hb' => ?_, fun i hi => ?_, fun q hq => ?_, ?_⟩
  · rw [X 0 0 (by omega) (by omega), Y 1 (by decide) (by decide)]; exact g1
  · rw [Y 2 (by decide) (by decide), en]; exact g2
  · rw [Y 6 (by decide) (by decide), ec]; exact g3
  · rw [en] at hb'
    have k := hb b hb'
    unfold tc_Rb at k ⊢
    rw [en, ec, X 10 b (by omega) (by omega), X 11 b (by omega) (by omega), X 13 b (by omega) (by omega), X 15 b (by omega) (by omega), Rr 1 b (by omega) (by omega), Y 3 (by decide) (by decide), Y 5 (by decide) (by decide)]
    by_cases e : b = t
    · subst e
      rw [va_up_self, y4t, x12, x14]
      exact ⟨k.1, k.2.1, by decide, fun z => absurd z (by decide), fun _ => ⟨rfl, rfl, ktp.2.2.2.2.2.2.1, c, hc, rfl, r2⟩, fun z => absurd z (by decide), k.2.2.2.2.2.2⟩
    · rw [pn b e, y4 b e, X 12 b (by omega) (by omega), X 14 b (by omega) (by omega)]
      refine ⟨k.1, k.2.1, k.2.2.1, fun z => ?_, fun z => ?_, k.2.2.2.2.2.1, k.2.2.2.2.2.2⟩
      · obtain ⟨q1, q2, q3, q4, q5, q6, q7, q8, q9⟩ := k.2.2.2.1 z
        have lb : lv b < tc_cnt (va_up pa t 16) (tc_nb x) (pa b) := by
          by_cases w : pa b = p
          · have w2 : lv b ≠ l := fun w2 => e (i2 b t hb' ht (by omega) z (by omega))
            rw [w, cp]; rw [w, hcn] at q5; omega
          · rw [cn _ z w]; exact q5
        refine ⟨q1, q2, q3, q4, lb, q6, q7, q8, fun i hi => ?_⟩
        obtain ⟨b', t1, t2, t3, t4⟩ := q9 i hi
        refine ⟨b', t1, t2, ?_, t4⟩
        rw [pn b' (fun w => by
          subst w
          have w : pa b = p := by omega
          rw [w, cp] at lb; omega)]
        exact t3
      · obtain ⟨q1, q2, q3, c', c1, c2, c3⟩ := k.2.2.2.2.1 z
        exact ⟨q1, q2, q3, c', c1, c2, by rw [Rr 2 c' (fun w => by rw [w.2, hl] at c3; cases c3) (by omega)]; exact c3⟩
  · rw [ec] at hi
    have k := hcr i hi
    unfold tc_Rc at k ⊢
    rw [en, X 20 i (by omega) (by omega), X 21 i (by omega) (by omega), X 22 i (by omega) (by omega), X 23 i (by omega) (by omega), X 24 i (by omega) (by omega), X 25 i (by omega) (by omega), X 26 i (by omega) (by omega), Y 7 (by decide) (by decide), Y 8 (by decide) (by decide), Y 9 (by decide) (by decide), Y 10 (by decide) (by decide), Y 11 (by decide) (by decide), Y 12 (by decide) (by decide), Y 13 (by decide) (by decide)]
    refine ⟨k.1, k.2.1, k.2.2.1, k.2.2.2.1, k.2.2.2.2.1, k.2.2.2.2.2.1, k.2.2.2.2.2.2.1, k.2.2.2.2.2.2.2.1, k.2.2.2.2.2.2.2.2.1, k.2.2.2.2.2.2.2.2.2.1, k.2.2.2.2.2.2.2.2.2.2.1, ?_, ?_⟩
    · by_cases e : i = c
      · subst e; rw [r2]; exact fun z => by cases z
      · rw [Rr 2 i (by omega) (by omega), y14 i e]; exact k.2.2.2.2.2.2.2.2.2.2.2.1
    · by_cases e : i = c
      · subst e; rw [r2]
        intro b z
        cases z
        exact ⟨ht, y14c, va_up_self _ _ _, x14⟩
      · rw [Rr 2 i (by omega) (by omega), y14 i e]
        intro b hb'
        obtain ⟨t1, t2, t3, t4⟩ := k.2.2.2.2.2.2.2.2.2.2.2.2 b hb'
        have hbt : b ≠ t := fun w => by rw [w, hpt] at t3; omega
        exact ⟨t1, t2, by rw [pn b hbt]; exact t3, by rw [X 14 b (by omega) (by omega)]; exact t4⟩
  · obtain ⟨k1, k2, k3⟩ := hpp q hq
    unfold tc_Rp
    by_cases e : q = p
    · subst e
      rw [en, r0, cp]
      refine ⟨fun z => ktp.2.2.2.2.2.2.2.1 (by omega), fun i hi => ?_, by omega⟩
      obtain ⟨b', t1, t2, t3, t4⟩ := ktp.2.2.2.2.2.2.2.2 i (by omega)
      exact ⟨b', t1, t2, by rw [pn b' (fun w => by rw [w] at t4; omega)]; omega, t4⟩
    · rw [en, Rr 0 q (by omega) (by omega), cn q hq e]
      refine ⟨k1, fun i hi => ?_, k3⟩
      obtain ⟨b, t1, t2, t3, t4⟩ := k2 i hi
      exact ⟨b, t1, t2, by rw [pn b (fun w => by rw [w, hpt] at t3; omega)]; exact t3, t4⟩
  · refine ⟨fun q hq => by rw [Rr 0 q (by omega) (by omega)]; exact i1 q hq, fun b b' h1 h2 h3 h4 h5 => ?_, fun q i hq hi => ?_, ?_, fun c' h' => by rw [ec] at h'; rw [Y 11 (by decide) (by decide)]; exact i5 c' h'⟩
    · rw [en] at h1 h2
      have e1 : b ≠ t := fun w => by rw [w, va_up_self] at h4; omega
      have e2 : b' ≠ t := fun w => by rw [h3, w, va_up_self] at h4; omega
      rw [pn b e1, pn b' e2] at h3
      rw [pn b e1] at h4
      exact i2 b b' h1 h2 h3 h4 h5
    · rw [en] at hi ⊢
      by_cases e : q = p
      · rw [e, cp] at hi
        obtain ⟨b, b1, b2, b3⟩ := i3 q i hq (by rw [e, hcn]; omega)
        exact ⟨b, b1, by rw [pn b (fun w => by rw [w] at b3; omega)]; exact b2, b3⟩
      · rw [cn q hq e] at hi
        obtain ⟨b, b1, b2, b3⟩ := i3 q i hq hi
        exact ⟨b, b1, by rw [pn b (fun w => by rw [w] at b2; omega)]; exact b2, b3⟩
    · rw [en, ec, c16, i4]
      have u := tc_ldc_up (ld := x.2.1 2) (o := some t) (tc_nc x) hc
      rw [if_pos hl, if_neg (by exact fun z => by cases z)] at u
      have l3 : tc_ldc (x'.2.1 2) (tc_nc x) = tc_ldc (fun i => if i = c then some t else x.2.1 2 i) (tc_nc x) := tc_ldc_congr _ (fun i hi => by
        by_cases w : i = c
        · rw [w, r2, if_pos rfl]
        · rw [Rr 2 i (by omega) (by omega), if_neg w])
      omega
end TCTA
theorem tc_op_take : op_take tc_R := by
  intro x y a1 ⟨pa, lv, h⟩
  have h0 := h.th 0
  rcases tc_crn h0 a1 with ⟨e3, e2⟩ | ⟨c, hc, rfl, e3, e2⟩
  · exact ⟨1, 0, x, 0, tc_ym (tc_ym y 0 0 0) 0 0 1, by simp only [f_X2_take, e2, Option.bind_some, if_neg tc_k1], by simp only [f_X3_take, tc_leteq, e3, Option.bind_some, if_pos, f_X3_no, tc_b2], Or.inr (Or.inl rfl), fun _ => rfl, tc_th0, fun z => absurd z (by decide), tc_no h 1⟩
  · have h40 := h.1.2.2.2.1
    have hc5 : c < 5 := Nat.lt_of_lt_of_le hc h.1.2.2.2.2
    have hcl := tc_cl (show c ≤ 1000 by omega)
    have hg5 := tc_g2 hc5 (show c ≤ 1000 by omega)
    have hgn := tc_g2 hc (show c ≤ 1000 by omega)
    have z0 : tc_ym y 0 0 0 0 0 = 0 := tc_th0
    have no2 := tc_no h 2
    have k := h0.2.2.1 c hc
    obtain ⟨p, hp, ep⟩ := k.2.2.2.2.2.2.2.2.2.1
    obtain ⟨H, hH, eH⟩ := k.2.2.2.2.2.2.2.2.2.2.1
    have e25 : x.1 25 c = nI p := k.2.2.2.2.2.1.trans ep
    have e26 : x.1 26 c = nI H := k.2.2.2.2.2.2.1.trans eH
    have hht := h0.ht hp
    have hhi := h0.hi hp
    have hup := tc_up (x := x) hp
    have c8 := h0.c8 hp
    cases hl : x.2.1 2 c with
    | some j =>
      obtain ⟨hj, y14, -⟩ := k.2.2.2.2.2.2.2.2.2.2.2.2 j hl
      have hjn := (tc_nIneg (p := j) (by omega)).1
      refine ⟨3, 0, x, 0, tc_ym (tc_ym y 0 0 0) 0 0 2, ?_, by
        simp only [f_X3_take, tc_leteq, e3, Option.bind_some, if_neg tc_10, hcl, if_pos hg5, ep, hhi, y14, if_neg hjn, f_X3_no, tc_b2], Or.inr (Or.inr rfl), fun _ => rfl, tc_th0, fun z => absurd z (by decide), no2⟩
      simp only [f_X2_take, e2, Option.bind_some, if_pos, hcl, if_pos hgn, tc_leteq, e25, hup, hl]
      cases x.2.1 0 p <;> rfl
    | none =>
      have y14 := k.2.2.2.2.2.2.2.2.2.2.2.1 hl
      rcases h0.up0 hp with ⟨u1, u2⟩ | ⟨t, l, u1, ht, hpt, hlt, hcn⟩
      · refine ⟨3, 0, x, 0, tc_ym (tc_ym y 0 0 0) 0 0 2, ?_, ?_, Or.inr (Or.inr rfl), fun _ => rfl, tc_th0, fun z => absurd z (by decide), no2⟩
        · simp only [f_X2_take, e2, Option.bind_some, if_pos, hcl, if_pos hgn, tc_leteq, e25, hup, hl, u1, tc_oc]
        · simp only [f_X3_take, tc_leteq, e3, Option.bind_some, if_neg tc_10, hcl, if_pos hg5, ep, hhi, y14, if_pos, u2, nI_0, f_X3_no, tc_b2]
      · have hn0 := nI_ne0 (n := l + 1) (by omega) (by omega)
        have hhe : nI H = nI (l + 1) ↔ H = l + 1 := nI_eq (by omega) (by omega)
        have htop := h0.top hp
        rw [u1] at htop
        by_cases e : H = l + 1
        · have hj40 := tc_g2 (show t < 40 by omega) (show t ≤ 1000 by omega)
          have hjcl := tc_cl (show t ≤ 1000 by omega)
          have e10 := (h0.2.1 t ht).1
          have rem : f_X2_removeUppermost x (nI p) = some (tc_si (tc_sr x 0 p (x.2.1 1 t)) 12 t (-1)) := by
            have hb2 : ∀ j, x.2.1 1 t = some j → j < tc_nb x := (h0.2.1 t ht).2.2.2.2.2.2
            simp only [f_X2_removeUppermost, hup, u1, tc_oc, Option.bind_some, (tc_pl1 hp).1, if_neg tc_10, if_pos ht, tc_cl (show p ≤ 1000 by omega), if_pos (tc_g2 hp (show p ≤ 1000 by omega)), tc_leteq]
            cases hbl : x.2.1 1 t with
            | none => rfl
            | some j => simp only [if_pos (hb2 j hbl)]
          have n1 : t < tc_nb (tc_si (tc_sr x 0 p (x.2.1 1 t)) 12 t (-1)) := ht
          have n2 : c < tc_nc (tc_si (tc_si (tc_sr x 0 p (x.2.1 1 t)) 12 t (-1)) 14 t (nI c)) := hc
          have v10 : (tc_sr (tc_si (tc_si (tc_sr x 0 p (x.2.1 1 t)) 12 t (-1)) 14 t (nI c)) 2 c (some t)).1 10 t = nI t := by
            rw [tc_sr_1, tc_si_ne (by omega), tc_si_ne (by omega), tc_sr_1]; exact e10
          have w14 : tc_ym (tc_ym y 0 0 0) 14 c (nI t) 14 c = nI t := tc_ymv
          have w14' : tc_ym (tc_ym (tc_ym y 0 0 0) 14 c (nI t)) 4 t (-1) 14 c = nI t := by rw [tc_ym_ne (by decide)]; exact tc_ymv
          refine ⟨0, nI t, _, nI t, _, ?_, ?_, Or.inl rfl, fun z => absurd rfl z, ?_, fun _ => rfl, _, lv, h0.taken hc hl hp ht hpt hlt hcn⟩
          · simp only [f_X2_take, e2, Option.bind_some, if_pos, hcl, if_pos hgn, tc_leteq, e25, hup, hl, u1, tc_oc, hht, hcn, e26, if_pos (hhe.mpr e), rem, if_pos n1, if_pos n2, v10]
          · simp only [f_X3_take, tc_leteq, e3, Option.bind_some, if_neg tc_10, hcl, if_pos hg5, ep, hhi, hcn, if_neg hn0, y14, if_pos, eH, if_pos (hhe.mpr e), htop, w14, hjcl, if_pos hj40, w14']
          · rw [tc_ym_ne (by decide), tc_ym_ne (by decide)]; exact z0
        · refine ⟨3, 0, x, 0, tc_ym (tc_ym y 0 0 0) 0 0 2, ?_, ?_, Or.inr (Or.inr rfl), fun _ => rfl, tc_th0, fun z => absurd z (by decide), no2⟩
          · simp only [f_X2_take, e2, Option.bind_some, if_pos, hcl, if_pos hgn, tc_leteq, e25, hup, hl, u1, tc_oc, hht, hcn, e26, if_neg (fun z => e (hhe.mp z))]
          · simp only [f_X3_take, tc_leteq, e3, Option.bind_some, if_neg tc_10, hcl, if_pos hg5, ep, hhi, hcn, if_neg hn0, y14, if_pos, eH, if_neg (fun z => e (hhe.mp z)), f_X3_no, tc_b2]
