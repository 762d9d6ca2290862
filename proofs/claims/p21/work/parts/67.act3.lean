/-! Acts: hoist; the choice of the act. -/
section LKC
variable {pa lv : Nat → Nat} {x : tc_X} {y : tc_Y} {z : tc_Z} {t : Nat}
theorem A_hoist2 (J : tc_J pa lv x y z t) {c A q0 : Nat} (hc : c < tc_nc x) (hA : A ≤ 20) (eq0 : y 12 c = nI q0) (hq0 : q0 < 16) : tc_A (a_hoist2 x z (nI c) (21 + c) (nI (tc_cnt pa (tc_nb x) q0)) (nI A)) pa lv x y t := by
  have J0 := J
  obtain ⟨h, S, E, et⟩ := J
  have h40 := h.n40
  have row := S.2.2.1 c hc
  obtain ⟨po, rr, d, wk, wo, q, H, C, hl⟩ := E.2 c hc
  have C0 := C
  obtain ⟨⟨e7, e8, e9, e10, e11, e12, e13⟩, q1, q2, q3, q4, q5, q6, q7, q8⟩ := C
  have eqq : q0 = q := by rw [e12] at eq0; exact ((nI_eq (by omega) (by omega)).mp eq0).symm
  subst eqq
  have c8 := h.c8 q6
  have s0 : z.1 0 = y 1 0 := S.1.1
  have f2 : tc_zl z 2 = tc_nb x := S.1.2.2.2.1
  have f4 : tc_zf z (21 + c) 4 = nI wo := (row.2 4 (by decide)).trans e11
  have f6 : tc_zf z (21 + c) 6 = nI H := (row.2 6 (by decide)).trans e13
  have f7 : tc_zf z (21 + c) 7 = y 14 c := row.2 7 (by decide)
  have i1 : nI A ≤ nI H ↔ A ≤ H := nI_leI (by omega) (by omega)
  have i2 : nI H ≤ nI A ↔ H ≤ A := nI_leI (by omega) (by omega)
  have wo0 : nI wo + 0 = nI wo := by rw [show (0 : Int32) = nI 0 from rfl, nI_add]; rfl
  have wo99 : nI wo ≤ 99 := (nI_leI (b := 99) (by omega) (by omega)).mpr q5
  have k8 : ∀ i, i < 8 → i < tc_zl z (21 + c) := fun i hi => by rw [row.1]; exact hi
  -- the lowest height
  have hl1 : tc_ld x c ≤ 1 := by unfold tc_ld; split <;> omega
  obtain ⟨lo, elo⟩ : ∃ lo, lo = tc_cnt pa (tc_nb x) q0 + tc_ld x c := ⟨_, rfl⟩
  have yld := h.ld hc
  have H0 : a_hoist2 x z (nI c) (21 + c) (nI (tc_cnt pa (tc_nb x) q0)) (nI A) = a_h1 x z (nI c) (21 + c) (nI A) (nI lo) := by
    rw [lk_ahoist2, row.1, if_pos (show 7 < 8 by decide), f7, elo]
    dsimp only [tc_jn]
    rcases yld with ⟨-, y14, l0⟩ | ⟨j, -, -, -, -, l1, -, ng⟩
    · rw [y14, if_neg (show ¬ (0 : Int32) ≤ -1 by decide), l0, Nat.add_zero]
    · rw [if_pos ng, l1, nI_1]
  rw [H0]
  have i3 : nI A < nI lo ↔ A < lo := nI_ltI (by omega) (by omega)
  have dA := (tc_dA hA q7).2.2
  have jrow : ∀ j w, x.2.1 2 c = some j → y 3 j = nI w → ¬ y 14 c < 0 ∧ (y 14 c).toNatClampNeg = j ∧ j < tc_nb x ∧ tc_zf z 2 j = nI w := fun j w e1 e2 => by
    rcases yld with ⟨w1, -⟩ | ⟨j', w1, w2, w3, -, -, w5, -⟩
    · rw [w1] at e1; cases e1
    · rw [w1] at e1; cases e1
      exact ⟨w5, by rw [w3]; exact tc_cl (by omega), w2, (S.1.2.2.2.2 j w2).trans e2⟩
  have st := lk_strong C0 row.2
  rcases lk_hoist h hc hA C0 E.1 with ⟨rf, e⟩ | ⟨low, T, eT, hT, rest⟩
  · have ez : a_h1 x z (nI c) (21 + c) (nI A) (nI lo) = some (1, x, z) := by
      have k1 : a_h1 x z (nI c) (21 + c) (nI A) (nI lo) = a_h2 x z (nI c) (21 + c) (nI A) 0 := by
        unfold a_h1
        dsimp only [tc_jn]
        by_cases w1 : A < lo
        · rw [if_pos (i3.mpr w1)]
        · rcases rf with v | ⟨v, j, w, ej, e3, w60, wk9⟩
          · omega
          · obtain ⟨g1, g2, g3, g4⟩ := jrow j w ej e3
            have g5 := (lk_wk q4 q3 w60).1.mpr wk9
            rw [if_neg (fun z => w1 (i3.mp z)), row.1, if_pos (show 6 < 8 by decide), f6, if_neg (fun z => absurd (i1.mp z) (show ¬ A ≤ H by omega)), f7, if_neg g1, g2, f2, if_pos (show ¬ y 14 c < 0 ∧ j < tc_nb x from ⟨g1, g3⟩), st, Option.bind_some, g4, if_pos g5]
      rw [k1]
      have k2 : a_h2 x z (nI c) (21 + c) (nI A) 0 = a_h3 x z (nI c) (21 + c) (nI A) 0 (-2) := rfl
      have k3 : a_h3 x z (nI c) (21 + c) (nI A) 0 (-2) = a_h4 x z (nI c) (21 + c) (nI A) 0 (-2) 0 := rfl
      rw [k2, k3]
      simp only [a_h4, tc_jn, tc_b3, row.1, if_pos (show 4 < 8 by decide), f4, wo0, if_pos wo99, if_pos, e, Option.bind_some, if_neg tc_k3, or_true, if_true]
    rw [ez]; exact tc_A.same J0
  · have wnd : f_S_wound 8 (tc_zf z (21 + c)) (tc_abs (nI A - nI H)) = some (nI T) := by
      rw [dA, eT]
      by_cases u : H ≤ A
      · rw [if_pos u, if_pos u, pk_sub u]; exact lk_wound C0 (by omega) row.2
      · rw [if_neg u, if_neg u, pk_sub (show A ≤ H by omega)]; exact lk_wound C0 (by omega) row.2
    have k2 : a_h2 x z (nI c) (21 + c) (nI A) 1 = a_h3 x z (nI c) (21 + c) (nI A) 1 (nI T) := by
      unfold a_h2
      dsimp only [tc_jn, tc_let]
      rw [if_neg tc_10, row.1, if_pos (show 6 < 8 by decide), f6, wnd, Option.bind_some]
    have k4 : ∀ W x', W ≤ 99 → f_X2_hoist x (nI c) (nI A) = some (0, nI T, x') → ∀ v, nI wo + v = nI W → a_h4 x z (nI c) (21 + c) (nI A) 1 (nI T) v = some (1, x', tc_zg (tc_zs (tc_zs z (21 + c) 4 (nI W)) (21 + c) 6 (nI A)) 0 (y 1 0 + nI T)) := fun W x' hW e v ev => by
      have c99 : nI W ≤ 99 := (nI_leI (b := 99) (by omega) (by omega)).mpr hW
      simp only [a_h4, tc_jn, tc_let, tc_b3, row.1, if_pos (show 4 < 8 by decide), f4, ev, if_pos c99, if_neg tc_10, lk_zsl, if_pos (show 6 < 8 by decide), lk_zs1, s0, e, Option.bind_some, if_pos, or_true, if_true]
    have fin : ∀ W x', W ≤ 99 → tc_nb x' = tc_nb x → tc_nc x' = tc_nc x → x'.2.1 2 = x.2.1 2 → tc_Rl pa lv x' (tc_ym (tc_ym (tc_ym y 11 c (nI W)) 13 c (nI A)) 1 0 (y 1 0 + nI T)) → (W = wo ∨ (¬ y 14 c < 0 ∧ 0 ≤ y 14 c ∧ A < H)) → tc_A (some (1, x', tc_zg (tc_zs (tc_zs z (21 + c) 4 (nI W)) (21 + c) 6 (nI A)) 0 (y 1 0 + nI T))) pa lv x y t := fun W x' hW en ec e2 hR hw => by
      have el : ∀ k, tc_ld x' k = tc_ld x k := fun k => by unfold tc_ld; rw [e2]
      refine ⟨_, _, x', _, _, t + T, rfl, ⟨hR, ?_, E.upd c (fun b' hb' => ?_) (fun k hk hkc => ?_) (fun _ => ⟨po, rr, d, wk, W, q0, A, ⟨⟨?_, ?_, ?_, ?_, ?_, ?_, ?_⟩, q1, q2, q3, q4, hW, q6, hA, q8⟩, ?_⟩), ?_⟩, ⟨by omega, by omega⟩, ⟨by omega, by omega⟩, fun b' hb' w => w, ⟨by rw [en]; exact Nat.le_refl _, by rw [en]; exact Nat.le_succ _⟩, c, fun k hk hkc i _ => ?_, fun _ => ⟨⟨?_, ?_, ?_⟩, ?_⟩⟩
      · rw [en, ec]
        exact ((S.cr hc (i := 4) (by decide) (nI W)).cr hc (i := 6) (by decide) (nI A)).tk _
      · rw [en] at hb'
        rw [tc_ym_ne (by decide), tc_ym_ne (by decide), tc_ym_ne (by decide)]; exact E.1 b' hb'
      · rw [ec] at hk
        exact ⟨hk, fun i _ => by rw [tc_ym_ne (by omega), tc_ymi hkc, tc_ymi hkc], fun r H' hr _ _ _ w => by rw [en, el]; exact w⟩
      · rw [tc_ym_ne (by decide), tc_ym_ne (by decide), tc_ym_ne (by decide)]; exact e7
      · rw [tc_ym_ne (by decide), tc_ym_ne (by decide), tc_ym_ne (by decide)]; exact e8
      · rw [tc_ym_ne (by decide), tc_ym_ne (by decide), tc_ym_ne (by decide)]; exact e9
      · rw [tc_ym_ne (by decide), tc_ym_ne (by decide), tc_ym_ne (by decide)]; exact e10
      · rw [tc_ym_ne (by decide), tc_ym_ne (by decide), tc_ymv]
      · rw [tc_ym_ne (by decide), tc_ym_ne (by decide), tc_ym_ne (by decide)]; exact e12
      · rw [tc_ym_ne (by decide), tc_ymv]
      · rw [en, el]; exact low
      · rw [tc_ymv, et, nI_add]
      · rw [tc_ym_ne (by omega), tc_ymi hkc, tc_ymi hkc]
      · rw [tc_ym_ne (by decide), tc_ym_ne (by decide), tc_ym_ne (by decide)]
      · rw [tc_ym_ne (by decide), tc_ym_ne (by decide), tc_ym_ne (by decide)]
      · rw [tc_ym_ne (by decide), tc_ym_ne (by decide), tc_ym_ne (by decide)]
      · rcases hw with u | ⟨u1, u2, u3⟩
        · refine Or.inl ?_
          rw [tc_ym_ne (by decide), tc_ym_ne (by decide), tc_ymv, u, e11]; exact Int32.le_refl _
        · refine Or.inr ⟨u1, Or.inr ?_, Or.inl ?_⟩
          · rw [tc_ym_ne (by decide), tc_ymv, e13]; exact fun v => absurd (i2.mp v) (by omega)
          · rw [tc_ym_ne (by decide), tc_ym_ne (by decide), tc_ym_ne (by decide)]; exact u2
    rcases rest with ⟨nw, can, x', e, en, ec, e2, hR⟩ | ⟨dn, j, w, ej, hj, y14, pj, e3, w60, rest⟩
    · have k1 : a_h1 x z (nI c) (21 + c) (nI A) (nI lo) = a_h2 x z (nI c) (21 + c) (nI A) 1 := by
        unfold a_h1
        dsimp only [tc_jn]
        rw [if_neg (fun z => absurd (i3.mp z) (by omega)), row.1, if_pos (show 6 < 8 by decide), f6, f7]
        rcases can with v | v | ⟨j, w, ej, e3, w60, nwk⟩
        · rw [if_pos (i1.mpr v)]
        · rcases yld with ⟨-, y14, -⟩ | ⟨j, w1, -⟩
          · rw [y14, if_pos (show (-1 : Int32) < 0 by decide)]; split <;> rfl
          · rw [v] at w1; cases w1
        · obtain ⟨g1, g2, g3, g4⟩ := jrow j w ej e3
          rw [if_neg g1, g2, f2, if_pos (show ¬ y 14 c < 0 ∧ j < tc_nb x from ⟨g1, g3⟩), st, Option.bind_some, g4, if_neg (fun z => nwk ((lk_wk q4 q3 w60).1.mp z))]
          split <;> rfl
      have k3 : a_h3 x z (nI c) (21 + c) (nI A) 1 (nI T) = a_h4 x z (nI c) (21 + c) (nI A) 1 (nI T) 0 := by
        unfold a_h3
        dsimp only [tc_jn]
        rw [if_neg tc_10, f7, row.1, if_pos (show 6 < 8 by decide), f6]
        rcases nw with u | u
        · rw [if_pos (i2.mpr u)]; split <;> rfl
        · rcases yld with ⟨-, y14, -⟩ | ⟨j, w1, -⟩
          · rw [y14, if_pos (show (-1 : Int32) < 0 by decide)]
          · rw [u] at w1; cases w1
      rw [e11] at hR
      rw [k1, k2, k3, k4 wo x' q5 e 0 wo0]
      exact fin wo x' q5 en ec e2 hR (Or.inl rfl)
    · obtain ⟨g1, g2, g3, g4⟩ := jrow j w ej e3
      have k1 : a_h1 x z (nI c) (21 + c) (nI A) (nI lo) = a_h2 x z (nI c) (21 + c) (nI A) 1 := by
        unfold a_h1
        dsimp only [tc_jn]
        rw [if_neg (fun z => absurd (i3.mp z) (by omega)), row.1, if_pos (show 6 < 8 by decide), f6, if_pos (i1.mpr (by omega))]
      obtain ⟨wI, w80⟩ := lk_wI hT w60
      have k3 : a_h3 x z (nI c) (21 + c) (nI A) 1 (nI T) = a_h4 x z (nI c) (21 + c) (nI A) 1 (nI T) (nI (T * (w / 20 + 1))) := by
        unfold a_h3
        dsimp only [tc_jn]
        rw [if_neg tc_10, f7, if_neg g1, row.1, if_pos (show 6 < 8 by decide), f6, if_neg (fun z => absurd (i2.mp z) (show ¬ H ≤ A by omega)), g2, f2, if_pos (show ¬ y 14 c < 0 ∧ j < tc_nb x from ⟨g1, g3⟩), g4, wI]
      rw [k1, k2, k3]
      rcases rest with ⟨w99, x', e, en, ec, e2, hR⟩ | ⟨w99, x', e, en, ec, e2, hR⟩
      · rw [k4 _ x' w99 e _ (nI_add _ _)]
        exact fin _ x' w99 en ec e2 hR (Or.inr ⟨g1, Int32.not_lt.mp g1, dn⟩)
      · have n99 : ¬ nI wo + nI (T * (w / 20 + 1)) ≤ 99 := fun z => by
          rw [nI_add] at z
          exact w99 ((nI_leI (b := 99) (by omega) (by omega)).mp z)
        have ez : a_h4 x z (nI c) (21 + c) (nI A) 1 (nI T) (nI (T * (w / 20 + 1))) = some (1, x', tc_zs (tc_zs (tc_zg (tc_zs z 4 j 1) 1 ((tc_zs z 4 j 1).1 1 + 1)) (21 + c) 7 (-1)) (21 + c) 4 99) := by
          simp only [a_h4, tc_jn, tc_let, tc_b3, row.1, if_pos (show 4 < 8 by decide), f4, if_neg n99, f7, g2, if_pos (show ¬ y 14 c < 0 ∧ j < 40 from ⟨g1, by omega⟩), lk_zsl, lk_zgl, if_pos (show 7 < 8 by decide), e, Option.bind_some, if_pos, or_true, if_true]
        rw [ez]
        have cu : ∀ r, r ≠ 16 → tc_cnt (va_up pa j 17) (tc_nb x) r = tc_cnt pa (tc_nb x) r + (if 17 = r then 1 else 0) := fun r hr => by
          have := tc_cnt_up (pa := pa) (q := 17) (p := r) (tc_nb x) hj
          rw [pj, if_neg (fun z => hr z.symm)] at this; omega
        have c17 : tc_cnt (va_up pa j 17) (tc_nb x') 17 = tc_cnt pa (tc_nb x) 17 + 1 := by
          rw [en, cu 17 (by decide), if_pos rfl]
        refine ⟨_, _, x', _, _, t, rfl, ⟨hR, ?_, E.upd c (fun b' hb' => ?_) (fun k hk hkc => ?_) (fun _ => ⟨po, rr, d, wk, 99, q0, H, ⟨⟨?_, ?_, ?_, ?_, ?_, ?_, ?_⟩, q1, q2, q3, q4, Nat.le_refl _, q6, q7, q8⟩, ?_⟩), ?_⟩, ⟨Nat.le_refl _, by omega⟩, ⟨by omega, by omega⟩, fun b' hb' w => ?_, ⟨by omega, by omega⟩, c, fun k hk hkc i _ => ?_, fun _ => ⟨⟨?_, ?_, ?_⟩, Or.inr ⟨g1, Or.inl ?_, Or.inr ?_⟩⟩⟩
        · rw [en, ec]
          exact (((S.c4 (Or.inl rfl) (-2)).fall hj pj).cr hc (i := 7) (by decide) (-1)).cr hc (i := 4) (by decide) 99
        · rw [en] at hb'
          rw [tc_ym_ne (by decide), tc_ym_ne (by decide), tc_ym_ne (by decide)]; exact E.1 b' hb'
        · rw [ec] at hk
          have el' : tc_ld x' k = tc_ld x k := by unfold tc_ld; rw [e2 k, if_neg hkc]
          exact ⟨hk, fun i _ => by rw [tc_ymi hkc, tc_ymi hkc, tc_ym_ne (by omega)], fun r H' hr _ _ _ w => by rw [en, el', cu r (by omega), if_neg (by omega)]; exact w⟩
        · rw [tc_ym_ne (by decide), tc_ym_ne (by decide), tc_ym_ne (by decide)]; exact e7
        · rw [tc_ym_ne (by decide), tc_ym_ne (by decide), tc_ym_ne (by decide)]; exact e8
        · rw [tc_ym_ne (by decide), tc_ym_ne (by decide), tc_ym_ne (by decide)]; exact e9
        · rw [tc_ym_ne (by decide), tc_ym_ne (by decide), tc_ym_ne (by decide)]; exact e10
        · rw [tc_ymv]; rfl
        · rw [tc_ym_ne (by decide), tc_ym_ne (by decide), tc_ym_ne (by decide)]; exact e12
        · rw [tc_ym_ne (by decide), tc_ym_ne (by decide), tc_ym_ne (by decide)]; exact e13
        · have l0 : tc_ld x' c = 0 := by unfold tc_ld; rw [e2 c, if_pos rfl, if_pos rfl]
          rw [en, l0, cu q0 (by omega), if_neg (by omega)]; omega
        · rw [tc_ym_ne (by decide), tc_ym_ne (by decide), tc_ym_ne (by decide)]; exact et
        · rw [va_up_ne _ _ (fun z => by rw [z] at w; omega)]; exact w
        · rw [tc_ymi hkc, tc_ymi hkc, tc_ym_ne (by omega)]
        · rw [tc_ym_ne (by decide), tc_ym_ne (by decide), tc_ym_ne (by decide)]
        · rw [tc_ym_ne (by decide), tc_ym_ne (by decide), tc_ym_ne (by decide)]
        · rw [tc_ym_ne (by decide), tc_ym_ne (by decide), tc_ym_ne (by decide)]
        · rw [tc_ym_ne (by decide), tc_ymv]; decide
        · rw [tc_ymv]
end LKC
