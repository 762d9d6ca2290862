/-! The call land. -/
section TCLN
variable {pa lv : Nat → Nat} {x : tc_X} {y : tc_Y}
theorem tc_Rl.landed (h : tc_Rl pa lv x y) {p n : Nat} {v : Int32} (hp : p < 16) (hcn : tc_cnt pa (tc_nb x) p = n) (hn : n ≤ 7) (hN : tc_nb x < 40) : tc_Rl (va_up pa (tc_nb x) p) (va_up lv (tc_nb x) n) (tc_sr (tc_sr (tc_si (tc_si (tc_nB x (nI (tc_nb x)) v) 12 (tc_nb x) (nI p)) 13 (tc_nb x) (nI n)) 1 (tc_nb x) (x.2.1 0 p)) 0 p (some (tc_nb x))) (tc_ym (tc_ym (tc_ym (tc_ym y 3 (tc_nb x) v) 4 (tc_nb x) (nI p)) 5 (tc_nb x) (nI n)) 2 0 (nI (tc_nb x) + 1)) := by
  obtain ⟨⟨g1, g2, g3, g4, g5⟩, hb, hcr, hpp, i1, i2, i3, i4, i5⟩ := h
  obtain ⟨kp1, kp2, kp3⟩ := hpp p hp
  rw [hcn] at kp1 kp2 kp3
  have en0 : tc_nb (tc_nB x (nI (tc_nb x)) v) = tc_nb x + 1 := rfl
  have bo : ∀ k i, ¬ (i = tc_nb x ∧ 10 ≤ k ∧ k ≤ 15) → (tc_nB x (nI (tc_nb x)) v).1 k i = x.1 k i := fun k i hki => if_neg hki
  have bn : ∀ k, 10 ≤ k → k ≤ 15 → (tc_nB x (nI (tc_nb x)) v).1 k (tc_nb x) = (if k = 10 then nI (tc_nb x) else if k = 11 then v else if k = 12 then -1 else if k = 13 then 0 else if k = 14 then -1 else 0) := fun k h1 h2 => if_pos ⟨rfl, h1, h2⟩
  have br : ∀ k i, ¬ (k = 1 ∧ i = tc_nb x) → (tc_nB x (nI (tc_nb x)) v).2.1 k i = x.2.1 k i := fun k i hki => if_neg hki
  generalize hx0 : tc_nB x (nI (tc_nb x)) v = x0 at en0 bo bn br ⊢
  have ec0 : tc_nc x0 = tc_nc x := by rw [← hx0]; rfl
  generalize hN0 : tc_nb x = N at *
  generalize hx' : tc_sr (tc_sr (tc_si (tc_si x0 12 N (nI p)) 13 N (nI n)) 1 N (x.2.1 0 p)) 0 p (some N) = x'
  generalize hy' : tc_ym (tc_ym (tc_ym (tc_ym y 3 N v) 4 N (nI p)) 5 N (nI n)) 2 0 (nI N + 1) = y'
  have X : ∀ k i, ¬ (i = N ∧ 10 ≤ k ∧ k ≤ 15) → x'.1 k i = x.1 k i := fun k i a => by rw [← hx', tc_sr_1, tc_sr_1, tc_si_ne (by omega), tc_si_ne (by omega), bo k i a]
  have x10 : x'.1 10 N = nI N := by rw [← hx', tc_sr_1, tc_sr_1, tc_si_ne (by omega), tc_si_ne (by omega), bn 10 (by decide) (by decide)]; rfl
  have x11 : x'.1 11 N = v := by rw [← hx', tc_sr_1, tc_sr_1, tc_si_ne (by omega), tc_si_ne (by omega), bn 11 (by decide) (by decide)]; rfl
  have x12 : x'.1 12 N = nI p := by rw [← hx', tc_sr_1, tc_sr_1, tc_si_ne (by omega), tc_si_eq]
  have x13 : x'.1 13 N = nI n := by rw [← hx', tc_sr_1, tc_sr_1, tc_si_eq]
  have x14 : x'.1 14 N = -1 := by rw [← hx', tc_sr_1, tc_sr_1, tc_si_ne (by omega), tc_si_ne (by omega), bn 14 (by decide) (by decide)]; rfl
  have x15 : x'.1 15 N = 0 := by rw [← hx', tc_sr_1, tc_sr_1, tc_si_ne (by omega), tc_si_ne (by omega), bn 15 (by decide) (by decide)]; rfl
  have Rr : ∀ k i, ¬ (k = 0 ∧ i = p) → ¬ (k = 1 ∧ i = N) → x'.2.1 k i = x.2.1 k i := fun k i b d => by rw [← hx', tc_sr_ne b, tc_sr_ne d, tc_si_2, tc_si_2, br k i d]
  have r0 : x'.2.1 0 p = some N := by rw [← hx', tc_sr_eq]
  have r1 : x'.2.1 1 N = x.2.1 0 p := by rw [← hx', tc_sr_ne (by omega), tc_sr_eq]
  have en : tc_nb x' = N + 1 := by rw [← hx', ← en0]; rfl
  have ec : tc_nc x' = tc_nc x := by rw [← hx', ← ec0]; rfl
  have Y : ∀ a, a ≠ 2 → a ≠ 3 → a ≠ 4 → a ≠ 5 → y' a = y a := fun a h0 h1 h2 h3 => by rw [← hy', tc_ym_ne h0, tc_ym_ne h3, tc_ym_ne h2, tc_ym_ne h1]
  have y2 : y' 2 0 = nI N + 1 := by rw [← hy', tc_ymv]
  have y3 : ∀ i, i ≠ N → y' 3 i = y 3 i := fun i hi => by rw [← hy', tc_ym_ne (by decide), tc_ym_ne (by decide), tc_ym_ne (by decide), tc_ymi hi]
  have y3j : y' 3 N = v := by rw [← hy', tc_ym_ne (by decide), tc_ym_ne (by decide), tc_ym_ne (by decide), tc_ymv]
  have y4 : ∀ i, i ≠ N → y' 4 i = y 4 i := fun i hi => by rw [← hy', tc_ym_ne (by decide), tc_ym_ne (by decide), tc_ymi hi, tc_ym_ne (by decide)]
  have y4j : y' 4 N = nI p := by rw [← hy', tc_ym_ne (by decide), tc_ym_ne (by decide), tc_ymv]
  have y5 : ∀ i, i ≠ N → y' 5 i = y 5 i := fun i hi => by rw [← hy', tc_ym_ne (by decide), tc_ymi hi, tc_ym_ne (by decide), tc_ym_ne (by decide)]
  have y5j : y' 5 N = nI n := by rw [← hy', tc_ym_ne (by decide), tc_ymv]
  have cn : ∀ q, q ≠ p → tc_cnt (va_up pa N p) (N + 1) q = tc_cnt pa N q := fun q hqp => by
    show tc_cnt (va_up pa N p) N q + (if va_up pa N p N = q then 1 else 0) = _
    rw [tc_cnt_ge N (Nat.le_refl _), va_up_self, if_neg (fun z => hqp z.symm)]; omega
  have cp : tc_cnt (va_up pa N p) (N + 1) p = n + 1 := by
    show tc_cnt (va_up pa N p) N p + (if va_up pa N p N = p then 1 else 0) = _
    rw [tc_cnt_ge N (Nat.le_refl _), va_up_self, if_pos rfl, hcn]
  have pn : ∀ b, b ≠ N → va_up pa N p b = pa b := fun b hb => va_up_ne _ _ hb
  have ln : ∀ b, b ≠ N → va_up lv N n b = lv b := fun b hb => va_up_ne _ _ hb
  have hb2 : ∀ b, b < N → tc_Rb pa lv x y b := hb
  have lvp : ∀ b, b < N → pa b = p → lv b < n := fun b b1 b2 => by
    have := ((hb2 b b1).2.2.2.1 (by omega)).2.2.2.2.1
    rw [b2, hN0, hcn] at this; exact this
  refine ⟨⟨?_, ?_, ?_, by rw [en]; omega, by rw [ec]; exact g5⟩, fun b hb' => ?_, fun i hi => ?_, fun q hq => ?_, ?_⟩
  · rw [X 0 0 (by omega), Y 1 (by decide) (by decide) (by decide) (by decide)]; exact g1
  · rw [y2, en, nI_1]
  · rw [Y 6 (by decide) (by decide) (by decide) (by decide), ec]; exact g3
  · rw [en] at hb'
    by_cases e : b = N
    · subst e
      unfold tc_Rb
      rw [en, ec, va_up_self, va_up_self, x10, x11, y3j, y4j, y5j, x12, x13, x14, x15, r1, cp]
      refine ⟨rfl, rfl, by omega, fun _ => ⟨rfl, rfl, rfl, rfl, by omega, rfl, rfl, fun z => kp1 z, fun i hi => ?_⟩, fun z => by omega, fun z => by omega, fun b' hb'' => ?_⟩
      · obtain ⟨b', t1, t2, t3, t4⟩ := kp2 i hi
        have hne : b' ≠ b := by omega
        exact ⟨b', by omega, t2, by rw [pn b' hne]; exact t3, by rw [ln b' hne]; exact t4⟩
      · cases hz : n with
        | zero => rw [kp1 hz] at hb''; cases hb''
        | succ i =>
          obtain ⟨b3, t1, t2, -⟩ := kp2 i hz
          rw [t2] at hb''; cases hb''; omega
    · have k := hb2 b (by omega)
      unfold tc_Rb at k ⊢
      rw [hN0] at k
      rw [en, ec, X 10 b (fun z => e z.1), X 11 b (fun z => e z.1), X 15 b (fun z => e z.1), pn b e, ln b e, y3 b e, y4 b e, y5 b e, X 12 b (fun z => e z.1), X 13 b (fun z => e z.1), X 14 b (fun z => e z.1), Rr 1 b (fun z => absurd z.1 (by decide)) (fun z => e z.2)]
      refine ⟨k.1, k.2.1, k.2.2.1, fun z => ?_, fun z => ?_, k.2.2.2.2.2.1, fun j hj => by have := k.2.2.2.2.2.2 j hj; omega⟩
      · obtain ⟨q1, q2, q3, q4, q5, q6, q7, q8, q9⟩ := k.2.2.2.1 z
        have lb : lv b < tc_cnt (va_up pa N p) (N + 1) (pa b) := by
          by_cases w : pa b = p
          · rw [w, cp]; rw [w, hcn] at q5; omega
          · rw [cn _ w]; exact q5
        refine ⟨q1, q2, q3, q4, lb, q6, q7, q8, fun i hi => ?_⟩
        obtain ⟨b', t1, t2, t3, t4⟩ := q9 i hi
        have hne : b' ≠ N := by omega
        exact ⟨b', by omega, t2, by rw [pn b' hne]; exact t3, by rw [ln b' hne]; exact t4⟩
      · obtain ⟨q1, q2, q3, c', c1, c2, c3⟩ := k.2.2.2.2.1 z
        exact ⟨q1, q2, q3, c', c1, c2, by rw [Rr 2 c' (by omega) (by omega)]; exact c3⟩
  · rw [ec] at hi
    have k := hcr i hi
    unfold tc_Rc at k ⊢
    rw [hN0] at k
    rw [en, X 20 i (by omega), X 21 i (by omega), X 22 i (by omega), X 23 i (by omega), X 24 i (by omega), X 25 i (by omega), X 26 i (by omega), Y 7 (by decide) (by decide) (by decide) (by decide), Y 8 (by decide) (by decide) (by decide) (by decide), Y 9 (by decide) (by decide) (by decide) (by decide), Y 10 (by decide) (by decide) (by decide) (by decide), Y 11 (by decide) (by decide) (by decide) (by decide), Y 12 (by decide) (by decide) (by decide) (by decide), Y 13 (by decide) (by decide) (by decide) (by decide), Y 14 (by decide) (by decide) (by decide) (by decide), Rr 2 i (by omega) (by omega)]
    refine ⟨k.1, k.2.1, k.2.2.1, k.2.2.2.1, k.2.2.2.2.1, k.2.2.2.2.2.1, k.2.2.2.2.2.2.1, k.2.2.2.2.2.2.2.1, k.2.2.2.2.2.2.2.2.1, k.2.2.2.2.2.2.2.2.2.1, k.2.2.2.2.2.2.2.2.2.2.1, k.2.2.2.2.2.2.2.2.2.2.2.1, ?_⟩
    intro b hb'
    obtain ⟨t1, t2, t3, t4⟩ := k.2.2.2.2.2.2.2.2.2.2.2.2 b hb'
    have hbj : b ≠ N := by omega
    exact ⟨by omega, t2, by rw [pn b hbj]; exact t3, by rw [X 14 b (by omega)]; exact t4⟩
  · obtain ⟨k1, k2, k3⟩ := hpp q hq
    unfold tc_Rp
    by_cases e : q = p
    · subst e
      rw [en, r0, cp]
      refine ⟨fun z => by omega, fun i hi => ⟨N, by omega, rfl, va_up_self _ _ _, ?_⟩, by omega⟩
      rw [va_up_self]; omega
    · rw [en, Rr 0 q (by omega) (by omega), cn q e]
      rw [hN0] at k1 k2 k3
      refine ⟨k1, fun i hi => ?_, k3⟩
      obtain ⟨b, t1, t2, t3, t4⟩ := k2 i hi
      have hne : b ≠ N := by omega
      exact ⟨b, by omega, t2, by rw [pn b hne]; exact t3, by rw [ln b hne]; exact t4⟩
  · refine ⟨fun q hq => by rw [Rr 0 q (by omega) (by omega)]; exact i1 q hq, fun b b' h1 h2 h3 h4 h5 => ?_, fun q i hq hi => ?_, ?_, fun c' h' => by rw [ec] at h'; rw [Y 11 (by decide) (by decide) (by decide) (by decide)]; exact i5 c' h'⟩
    · rw [en] at h1 h2
      by_cases e1 : b = N
      · by_cases e2 : b' = N
        · rw [e1, e2]
        · exfalso
          rw [e1, va_up_self, pn b' e2] at h3
          rw [e1, va_up_self, ln b' e2] at h5
          have := lvp b' (by omega) h3.symm
          omega
      · by_cases e2 : b' = N
        · exfalso
          rw [e2, va_up_self, pn b e1] at h3
          rw [e2, va_up_self, ln b e1] at h5
          have := lvp b (by omega) h3
          omega
        · rw [pn b e1, pn b' e2] at h3
          rw [pn b e1] at h4
          rw [ln b e1, ln b' e2] at h5
          exact i2 b b' (by omega) (by omega) h3 h4 h5
    · rw [en] at hi ⊢
      have old : i < tc_cnt pa N q → ∃ b, b < N + 1 ∧ va_up pa N p b = q ∧ va_up lv N n b = i := fun z => by
        obtain ⟨b, b1, b2, b3⟩ := i3 q i hq z
        have hne : b ≠ N := by omega
        exact ⟨b, by omega, by rw [pn b hne]; exact b2, by rw [ln b hne]; exact b3⟩
      by_cases e : q = p
      · subst e
        rw [cp] at hi
        by_cases w : i = n
        · exact ⟨N, by omega, va_up_self _ _ _, by rw [va_up_self, w]⟩
        · exact old (by rw [hcn]; omega)
      · rw [cn q e] at hi
        exact old hi
    · rw [en, ec, cn 16 (by omega)]
      rw [i4]
      exact tc_ldc_congr _ (fun i hi => (Rr 2 i (by omega) (by omega)).symm)
end TCLN
theorem tc_op_land : op_land tc_R := by
  intro x y a1 a2 ⟨pa, lv, h⟩
  have h0 := h.th 0
  rcases tc_plc a1 with ⟨e3, e2⟩ | ⟨p, hp, rfl, e3, -, e2⟩
  · exact ⟨1, 0, x, 0, tc_ym (tc_ym y 0 0 0) 0 0 1, by simp only [f_X2_land, e2, Option.bind_some, if_neg tc_k1], by simp only [f_X3_land, tc_leteq, e3, Option.bind_some, if_pos, f_X3_no, tc_b2], by decide, fun _ => rfl, tc_th0, fun z => absurd z (by decide), tc_no h 1⟩
  · rcases tc_in01 a2 1 60 with ⟨r, -⟩ | ⟨r, -, -⟩
    · have ew : f_X2_requireWeight x a2 = some 2 := by unfold f_X2_requireWeight; rw [tc_inR, r]; rfl
      exact ⟨2, 0, x, 0, tc_ym (tc_ym y 0 0 0) 0 0 2, by simp only [f_X2_land, e2, Option.bind_some, if_pos, ew, if_neg tc_k2], by simp only [f_X3_land, tc_leteq, e3, Option.bind_some, if_neg tc_10, r, if_pos, f_X3_no, tc_b2], by decide, fun _ => rfl, tc_th0, fun z => absurd z (by decide), tc_no h 2⟩
    · have ew : f_X2_requireWeight x a2 = some 0 := by unfold f_X2_requireWeight; rw [tc_inR, r]; rfl
      have h40 := h.1.2.2.2.1
      have z0 : tc_ym y 0 0 0 0 0 = 0 := tc_th0
      have no3 := tc_no h 3
      have g2 : tc_ym y 0 0 0 2 0 = nI (tc_nb x) := h0.1.2.1
      have hht := h0.ht hp
      have hhi := h0.hi hp
      have c8 := h0.c8 hp
      have f40 : (40 : Int32) ≤ nI (tc_nb x) ↔ 40 ≤ tc_nb x := nI_leI (a := 40) (by omega) (by omega)
      have g40 : nI (tc_nb x) = (40 : Int32) ↔ tc_nb x = 40 := nI_eq (b := 40) (by omega) (by omega)
      by_cases e40 : tc_nb x = 40
      · exact ⟨3, 0, x, 0, tc_ym (tc_ym y 0 0 0) 0 0 3, by
          simp only [f_X2_land, e2, Option.bind_some, if_pos, ew, if_pos (f40.mpr (show 40 ≤ tc_nb x by omega))], by
          simp only [f_X3_land, tc_leteq, e3, Option.bind_some, if_neg tc_10, r, hhi, g2, if_pos (g40.mpr e40), f_X3_no, tc_b2], by decide, fun _ => rfl, tc_th0, fun z => absurd z (by decide), no3⟩
      · have hN : tc_nb x < 40 := by omega
        have nf : ¬ (40 : Int32) ≤ nI (tc_nb x) := fun z => e40 (by have := f40.mp z; omega)
        have ng : ¬ nI (tc_nb x) = (40 : Int32) := fun z => e40 (g40.mp z)
        generalize hcn : tc_cnt pa (tc_nb x) p = n at hht hhi c8
        have f8 : nI n < 8 ↔ n ≤ 7 := by
          rw [← Int32.not_le]
          exact (not_congr (nI_leI (a := 8) (b := n) (by omega) (by omega))).trans (by omega)
        have g8 : nI n = 8 ↔ n = 8 := nI_eq (b := 8) (by omega) (by omega)
        by_cases e7 : n ≤ 7
        · have n8 : ¬ nI n = 8 := fun z => absurd (g8.mp z) (by omega)
          rcases h0.hk (nI p) (nI n + 1) (-1) with ⟨t2, t3⟩ | ⟨t2, t3⟩
          · have hg := tc_g2 hN (show tc_nb x ≤ 1000 by omega)
            have hNcl := tc_cl (show tc_nb x ≤ 1000 by omega)
            have hX : f_X2_heightOf (tc_nB x (nI (tc_nb x)) a2) (nI p) = some (nI n) := by
              rw [← hht]
              simp only [f_X2_heightOf, tc_up hp, Option.bind_some]
              have rr : (tc_nB x (nI (tc_nb x)) a2).2.1 0 p = x.2.1 0 p := rfl
              rw [rr]
              rcases h0.up0 hp with ⟨u1, -⟩ | ⟨b, l, u1, hb, -⟩
              · rw [u1]; rfl
              · rw [u1]
                show (if b < tc_nb x + 1 then some ((tc_nB x (nI (tc_nb x)) a2).1 13 b + 1) else none) = (if b < tc_nb x then some (x.1 13 b + 1) else none)
                rw [if_pos hb, if_pos (show b < tc_nb x + 1 by omega), show (tc_nB x (nI (tc_nb x)) a2).1 13 b = x.1 13 b from if_neg (fun z => by omega)]
            have put := tc_put9 (x := tc_nB x (nI (tc_nb x)) a2) (j := tc_nb x) hp (show tc_nb x < tc_nb x + 1 by omega) hX
            have rr : (tc_nB x (nI (tc_nb x)) a2).2.1 0 p = x.2.1 0 p := rfl
            rw [rr] at put
            have nn : tc_nb x < tc_nb (tc_sr (tc_sr (tc_si (tc_si (tc_nB x (nI (tc_nb x)) a2) 12 (tc_nb x) (nI p)) 13 (tc_nb x) (nI n)) 1 (tc_nb x) (x.2.1 0 p)) 0 p (some (tc_nb x))) := Nat.lt_succ_self _
            have v10 : (tc_sr (tc_sr (tc_si (tc_si (tc_nB x (nI (tc_nb x)) a2) 12 (tc_nb x) (nI p)) 13 (tc_nb x) (nI n)) 1 (tc_nb x) (x.2.1 0 p)) 0 p (some (tc_nb x))).1 10 (tc_nb x) = nI (tc_nb x) := by
              rw [tc_sr_1, tc_sr_1, tc_si_ne (by omega), tc_si_ne (by omega)]
              exact if_pos ⟨rfl, by decide, by decide⟩
            have s1 : tc_ym (tc_ym y 0 0 0) 3 (tc_nb x) a2 2 0 = nI (tc_nb x) := by rw [tc_ym_ne (by decide)]; exact g2
            have s2 : tc_ym (tc_ym (tc_ym y 0 0 0) 3 (tc_nb x) a2) 4 (tc_nb x) (nI p) 2 0 = nI (tc_nb x) := by rw [tc_ym_ne (by decide)]; exact s1
            have s3 : tc_ym (tc_ym (tc_ym (tc_ym y 0 0 0) 3 (tc_nb x) a2) 4 (tc_nb x) (nI p)) 5 (tc_nb x) (nI n) 2 0 = nI (tc_nb x) := by rw [tc_ym_ne (by decide)]; exact s2
            have s4 : nI (tc_nb x) + 1 - 1 = nI (tc_nb x) := by rw [nI_1]; exact pk_sub (a := tc_nb x + 1) (b := 1) (by omega)
            refine ⟨0, nI (tc_nb x), _, nI (tc_nb x), _, ?_, ?_, by decide, fun z => absurd rfl z, ?_, fun _ => rfl, _, _, h0.landed (v := a2) hp hcn e7 hN⟩
            · simp only [f_X2_land, e2, Option.bind_some, if_pos, ew, if_neg nf, hht, if_pos (f8.mpr e7), t2, if_neg tc_10, if_pos hN, tc_leteq, put, if_pos nn, v10]
            · simp only [f_X3_land, tc_leteq, e3, Option.bind_some, if_neg tc_10, r, hhi, g2, if_neg ng, if_neg n8, t3, if_pos, hNcl, if_pos hg, s1, s2, s3, tc_ymv, s4]
            · rw [tc_ym_ne (by decide), tc_ym_ne (by decide), tc_ym_ne (by decide), tc_ym_ne (by decide)]; exact z0
          · exact ⟨3, 0, x, 0, tc_ym (tc_ym y 0 0 0) 0 0 3, by
              simp only [f_X2_land, e2, Option.bind_some, if_pos, ew, if_neg nf, hht, if_pos (f8.mpr e7), t2], by
              simp only [f_X3_land, tc_leteq, e3, Option.bind_some, if_neg tc_10, r, hhi, g2, if_neg ng, if_neg n8, t3, f_X3_no, tc_b2], by decide, fun _ => rfl, tc_th0, fun z => absurd z (by decide), no3⟩
        · exact ⟨3, 0, x, 0, tc_ym (tc_ym y 0 0 0) 0 0 3, by
            simp only [f_X2_land, e2, Option.bind_some, if_pos, ew, if_neg nf, hht, if_neg (show ¬ nI n < 8 from fun z => e7 (f8.mp z))], by
            simp only [f_X3_land, tc_leteq, e3, Option.bind_some, if_neg tc_10, r, hhi, g2, if_neg ng, if_pos (g8.mpr (show n = 8 by omega)), f_X3_no, tc_b2], by decide, fun _ => rfl, tc_th0, fun z => absurd z (by decide), no3⟩
