/-! Acts: take, lay, hoist. -/
theorem lk_zgl {z : tc_Z} {c k : Nat} {v : Int32} : tc_zl (tc_zg z c v) k = tc_zl z k := rfl
theorem lk_zgf {z : tc_Z} {c k : Nat} {v : Int32} : tc_zf (tc_zg z c v) k = tc_zf z k := rfl
section LKB
variable {pa lv : Nat → Nat} {x : tc_X} {y : tc_Y} {z : tc_Z} {t : Nat}
theorem tc_S.c4 {N n : Nat} (S : tc_S pa lv N n y z) {a i : Nat} (ha : a = 4 ∨ a = 5) (v : Int32) : tc_S pa lv N n (tc_ym y a i v) z := S.cong (by rw [tc_ym_ne (by omega)]) (fun b _ => by rw [tc_ym_ne (by omega)]) (fun k _ i _ => by rw [tc_ym_ne (by omega)])
theorem A_take (J : tc_J pa lv x y z t) {c : Nat} (hc : c < tc_nc x) : tc_A (a_take x z (nI c) (some (21 + c))) pa lv x y t := by
  have J0 := J
  obtain ⟨h, S, E, et⟩ := J
  have h40 := h.n40
  have row := S.2.2.1 c hc
  obtain ⟨po, rr, d, wk, wo, q, H, ⟨⟨e7, e8, e9, e10, e11, e12, e13⟩, q1, q2, q3, q4, q5, q6, q7, q8⟩, hl⟩ := E.2 c hc
  have f5 : tc_zf z (21 + c) 5 = nI q := (row.2 5 (by decide)).trans e12
  have f6 : tc_zf z (21 + c) 6 = nI H := (row.2 6 (by decide)).trans e13
  have f7 : tc_zf z (21 + c) 7 = y 14 c := row.2 7 (by decide)
  have lP : tc_zl z (5 + q) = tc_cnt pa (tc_nb x) q := (S.2.1 q q6).1
  have hcl := tc_cl (show q ≤ 1000 by omega)
  have hg := tc_g2 q6 (show q ≤ 1000 by omega)
  have c8 := h.c8 q6
  rcases lk_take h hc q6 e12 q7 e13 with ⟨el, b, l, hb, hpb, hlb, hcn, eH, x', e, en, ec, e2, hR⟩ | ⟨nc, e⟩
  · have y14 : y 14 c = -1 := by
      rcases h.ld hc with w | ⟨j, w, -⟩
      · exact w.2.1
      · rw [el] at w; cases w
    have top : tc_zf z (5 + q) l = nI b := by
      have := (S.2.1 q q6).2 b hb hpb
      rw [hlb] at this; exact this
    have sb : nI (l + 1) - 1 = nI l := pk_sub (a := l + 1) (b := 1) (by omega)
    have gl := tc_g2 (show l < l + 1 by omega) (show l ≤ 1000 by omega)
    have g5 : ∀ v, tc_zf (tc_zs z (21 + c) 7 v) (21 + c) 5 = nI q := fun v => by
      rw [tc_zs_s]
      exact (if_neg (by decide)).trans f5
    have n0 : ¬ nI (l + 1) ≤ 0 := fun z => by
      have := (nI_leI (b := 0) (by omega) (by omega)).mp z
      omega
    have cll := tc_cl (show l ≤ 1000 by omega)
    have ez : a_take x z (nI c) (some (21 + c)) = some (1, x', tc_zR (tc_zs z (21 + c) 7 (nI b)) (5 + q) (tc_zl (tc_zs z (21 + c) 7 (nI b)) (5 + q) - 1) (tc_wo2 (tc_zl (tc_zs z (21 + c) 7 (nI b)) (5 + q)) (tc_zf (tc_zs z (21 + c) 7 (nI b)) (5 + q)))) := by
      simp only [a_take, tc_oc, if_pos (lk_isc S hc), row.1, if_pos (show 5 < 8 by decide), if_pos (show 7 < 8 by decide), if_pos (show 6 < 8 by decide), f5, f6, f7, y14, eH, hcl, if_pos hg, tc_let, tc_jn, tc_b3, lP, hcn, if_neg (show ¬ (0 : Int32) ≤ -1 by decide), if_neg n0, e, Option.bind_some, if_neg tc_10, sb, if_pos gl, cll, top, lk_zsl, g5, if_pos (show 0 < l + 1 ∧ l + 1 ≤ 40 by omega), if_pos]
    have cu : ∀ r, tc_cnt (va_up pa b 16) (tc_nb x) r + (if q = r then 1 else 0) = tc_cnt pa (tc_nb x) r + (if 16 = r then 1 else 0) := fun r => by
      have := tc_cnt_up (pa := pa) (q := 16) (p := r) (tc_nb x) hb
      rw [hpb] at this; exact this
    have c17 : tc_cnt (va_up pa b 16) (tc_nb x') 17 = tc_cnt pa (tc_nb x) 17 := by
      have := cu 17
      rw [if_neg (by omega), if_neg (by omega)] at this
      rw [en]; omega
    refine ⟨_, _, x', _, _, t, ez, ⟨hR, ?_, E.upd c (fun b' hb' => ?_) (fun k hk hkc => ?_) (fun _ => ⟨po, rr, d, wk, wo, q, H, ⟨⟨?_, ?_, ?_, ?_, ?_, ?_, ?_⟩, q1, q2, q3, q4, q5, q6, q7, q8⟩, ?_⟩), ?_⟩, ⟨Nat.le_refl _, by omega⟩, ⟨by omega, by omega⟩, fun b' hb' w => ?_, ⟨by omega, by omega⟩, c, fun k hk hkc i _ => ?_, fun _ => ⟨⟨?_, ?_, ?_⟩, Or.inl ?_⟩⟩
    · rw [en, ec]
      exact ((S.cr hc (i := 7) (by decide) (nI b)).take q6 hb hpb hlb hcn (h.lvl q6) (fun b' hb' w1 w2 => h.2.2.2.2.2.1 b' b hb' hb (by rw [w1, hpb]) (by omega) (by rw [w2, hlb]))).c4 (Or.inl rfl) (-1)
    · rw [en] at hb'
      rw [tc_ym_ne (by decide), tc_ym_ne (by decide)]; exact E.1 b' hb'
    · rw [ec] at hk
      refine ⟨hk, fun i _ => by rw [tc_ym_ne (by omega), tc_ymi hkc], fun r H' hr _ _ _ w => ?_⟩
      have el' : tc_ld x' k = tc_ld x k := by unfold tc_ld; rw [e2 k, if_neg hkc]
      have := cu r
      rw [if_neg (show ¬ 16 = r by omega)] at this
      rw [en, el']; omega
    · rw [tc_ym_ne (by decide), tc_ym_ne (by decide)]; exact e7
    · rw [tc_ym_ne (by decide), tc_ym_ne (by decide)]; exact e8
    · rw [tc_ym_ne (by decide), tc_ym_ne (by decide)]; exact e9
    · rw [tc_ym_ne (by decide), tc_ym_ne (by decide)]; exact e10
    · rw [tc_ym_ne (by decide), tc_ym_ne (by decide)]; exact e11
    · rw [tc_ym_ne (by decide), tc_ym_ne (by decide)]; exact e12
    · rw [tc_ym_ne (by decide), tc_ym_ne (by decide)]; exact e13
    · have l1 : tc_ld x' c ≤ 1 := by unfold tc_ld; split <;> omega
      have := cu q
      rw [if_pos rfl, if_neg (show ¬ 16 = q by omega)] at this
      rw [en]; omega
    · rw [tc_ym_ne (by decide), tc_ym_ne (by decide)]; exact et
    · rw [va_up_ne _ _ (fun z => by rw [z] at w; omega)]; exact w
    · rw [tc_ym_ne (by omega), tc_ymi hkc]
    · rw [tc_ym_ne (by decide), tc_ym_ne (by decide)]
    · rw [tc_ym_ne (by decide), tc_ym_ne (by decide)]
    · rw [tc_ym_ne (by decide), tc_ym_ne (by decide)]
    · rw [tc_ym_ne (by decide), tc_ym_ne (by decide)]; exact Int32.le_refl _
  · have ez : a_take x z (nI c) (some (21 + c)) = some (1, x, z) := by
      rcases h.ld hc with ⟨el, y14, -⟩ | ⟨j, -, -, y14, -, -, -, ng⟩
      · by_cases w : tc_cnt pa (tc_nb x) q ≤ 0
        · have n0 : nI (tc_cnt pa (tc_nb x) q) ≤ 0 := (nI_leI (b := 0) (by omega) (by omega)).mpr w
          simp only [a_take, tc_oc, if_pos (lk_isc S hc), row.1, if_pos (show 5 < 8 by decide), if_pos (show 7 < 8 by decide), if_pos (show 6 < 8 by decide), f5, f6, f7, y14, hcl, if_pos hg, tc_let, tc_jn, tc_b3, lP, if_neg (show ¬ (0 : Int32) ≤ -1 by decide), if_pos n0, e, Option.bind_some, if_neg tc_k3, if_pos]
        · have n0 : ¬ nI (tc_cnt pa (tc_nb x) q) ≤ 0 := fun z => w ((nI_leI (b := 0) (by omega) (by omega)).mp z)
          have nh : ¬ nI H = nI (tc_cnt pa (tc_nb x) q) := fun z => nc ⟨el, by omega, (nI_eq (by omega) (by omega)).mp z⟩
          simp only [a_take, tc_oc, if_pos (lk_isc S hc), row.1, if_pos (show 5 < 8 by decide), if_pos (show 7 < 8 by decide), if_pos (show 6 < 8 by decide), f5, f6, f7, y14, hcl, if_pos hg, tc_let, tc_jn, tc_b3, lP, if_neg (show ¬ (0 : Int32) ≤ -1 by decide), if_neg n0, if_neg nh, e, Option.bind_some, if_neg tc_k3, if_pos]
      · simp only [a_take, tc_oc, if_pos (lk_isc S hc), row.1, if_pos (show 5 < 8 by decide), if_pos (show 7 < 8 by decide), if_pos (show 6 < 8 by decide), f5, f6, f7, hcl, if_pos hg, tc_let, tc_jn, tc_b3, lP, if_pos ng, e, Option.bind_some, if_neg tc_k3, if_pos]
    rw [ez]; exact tc_A.same J0
theorem A_lay (J : tc_J pa lv x y z t) {c : Nat} (hc : c < tc_nc x) : tc_A (a_lay x z (nI c) (some (21 + c))) pa lv x y t := by
  have J0 := J
  obtain ⟨h, S, E, et⟩ := J
  have h40 := h.n40
  have h5 := h.n5
  have row := S.2.2.1 c hc
  obtain ⟨po, rr, d, wk, wo, q, H, ⟨⟨e7, e8, e9, e10, e11, e12, e13⟩, q1, q2, q3, q4, q5, q6, q7, q8⟩, hl⟩ := E.2 c hc
  have f5 : tc_zf z (21 + c) 5 = nI q := (row.2 5 (by decide)).trans e12
  have f6 : tc_zf z (21 + c) 6 = nI H := (row.2 6 (by decide)).trans e13
  have f7 : tc_zf z (21 + c) 7 = y 14 c := row.2 7 (by decide)
  have lP : tc_zl z (5 + q) = tc_cnt pa (tc_nb x) q := (S.2.1 q q6).1
  have hcl := tc_cl (show q ≤ 1000 by omega)
  have hg := tc_g2 q6 (show q ≤ 1000 by omega)
  have c8 := h.c8 q6
  have fine := lk_areFine h S (p := q) (v := tc_cnt pa (tc_nb x) q + 1) (e := c) (a3 := some (21 + c)) (by omega) (fun k hk => ⟨fun z => by have := Option.some.inj z; omega, fun z => by rw [z]⟩)
  have hh : nI H = nI (tc_cnt pa (tc_nb x) q + 1) ↔ H = tc_cnt pa (tc_nb x) q + 1 := nI_eq (by omega) (by omega)
  have f8 : (8 : Int32) ≤ nI (tc_cnt pa (tc_nb x) q) ↔ 8 ≤ tc_cnt pa (tc_nb x) q := nI_leI (a := 8) (by omega) (by omega)
  rcases lk_lay h hc q6 e12 q7 e13 with ⟨j, ej, eH, c7, c3, x', e, en, ec, e2, hR⟩ | ⟨nc, e⟩
  · obtain ⟨hj, y14, pj, ng⟩ : j < tc_nb x ∧ y 14 c = nI j ∧ pa j = 16 ∧ ¬ y 14 c < 0 := by
      rcases h.ld hc with ⟨w, -⟩ | ⟨j', w, w1, w2, w3, -, w4, -⟩
      · rw [w] at ej; cases ej
      · rw [w] at ej; cases ej; exact ⟨w1, w2, w3, w4⟩
    have fn : f_S_areFine z (nI q) (nI (tc_cnt pa (tc_nb x) q + 1)) (some (21 + c)) = some 1 := by
      rcases fine with w | w
      · exact w.1
      · exact absurd c3 w.2
    have l8 : ∀ n f, tc_zl (tc_zR z (5 + q) n f) (21 + c) = 8 := fun n f => (tc_zR_l (by omega)).trans row.1
    have ez : a_lay x z (nI c) (some (21 + c)) = some (1, x', tc_zs (tc_zR z (5 + q) (tc_zl z (5 + q) + 1) (tc_wf2 (tc_zl z (5 + q)) (tc_zf z (5 + q)) (y 14 c))) (21 + c) 7 (-1)) := by
      simp only [a_lay, tc_oc, if_pos (lk_isc S hc), row.1, if_pos (show 5 < 8 by decide), if_pos (show 7 < 8 by decide), if_pos (show 6 < 8 by decide), f5, f6, f7, hcl, if_pos hg, tc_let, tc_jn, tc_b3, lP, if_neg ng, nI_1, if_pos (hh.mpr eH), if_neg (fun w => absurd (f8.mp w) (show ¬ 8 ≤ tc_cnt pa (tc_nb x) q by omega)), fn, e, Option.bind_some, if_neg tc_10, if_pos (show tc_cnt pa (tc_nb x) q ≤ 40 by omega), l8, if_pos]
    rw [y14] at ez
    have cu : ∀ r, r ≠ 16 → tc_cnt (va_up pa j q) (tc_nb x) r = tc_cnt pa (tc_nb x) r + (if q = r then 1 else 0) := fun r hr => by
      have := tc_cnt_up (pa := pa) (q := q) (p := r) (tc_nb x) hj
      rw [pj, if_neg (fun z => hr z.symm)] at this; omega
    have c17 : tc_cnt (va_up pa j q) (tc_nb x') 17 = tc_cnt pa (tc_nb x) 17 := by
      rw [en, cu 17 (by decide), if_neg (by omega)]; rfl
    have l0 : tc_ld x' c = 0 := by unfold tc_ld; rw [e2 c, if_pos rfl, if_pos rfl]
    refine ⟨_, _, x', _, _, t, ez, ⟨hR, ?_, E.upd c (fun b' hb' => ?_) (fun k hk hkc => ?_) (fun _ => ⟨po, rr, d, wk, wo, q, H, ⟨⟨?_, ?_, ?_, ?_, ?_, ?_, ?_⟩, q1, q2, q3, q4, q5, q6, q7, q8⟩, ?_⟩), ?_⟩, ⟨Nat.le_refl _, by omega⟩, ⟨by omega, by omega⟩, fun b' hb' w => ?_, ⟨by omega, by omega⟩, c, fun k hk hkc i _ => ?_, fun _ => ⟨⟨?_, ?_, ?_⟩, Or.inl ?_⟩⟩
    · rw [en, ec]
      exact (((S.c4 (Or.inl rfl) (nI q)).c4 (Or.inr rfl) _).lay q6 hj pj (h.lvl q6)).cr hc (i := 7) (by decide) (-1)
    · rw [en] at hb'
      rw [tc_ym_ne (by decide), tc_ym_ne (by decide), tc_ym_ne (by decide)]; exact E.1 b' hb'
    · rw [ec] at hk
      refine ⟨hk, fun i _ => by rw [tc_ymi hkc, tc_ym_ne (by omega), tc_ym_ne (by omega)], fun r H' hr hH' w12 w13 w => ?_⟩
      have el' : tc_ld x' k = tc_ld x k := by unfold tc_ld; rw [e2 k, if_neg hkc]
      rw [en, el', cu r (by omega)]
      by_cases e1 : q = r
      · have g := c3 k hk hkc (by rw [w12, e1])
        rw [w13] at g
        have hl1 : tc_ld x k ≤ 1 := by unfold tc_ld; split <;> omega
        have g2 := (nI_leI (by omega) (by omega)).mp g
        rw [if_pos e1, ← e1]; omega
      · rw [if_neg e1]; exact w
    · rw [tc_ym_ne (by decide), tc_ym_ne (by decide), tc_ym_ne (by decide)]; exact e7
    · rw [tc_ym_ne (by decide), tc_ym_ne (by decide), tc_ym_ne (by decide)]; exact e8
    · rw [tc_ym_ne (by decide), tc_ym_ne (by decide), tc_ym_ne (by decide)]; exact e9
    · rw [tc_ym_ne (by decide), tc_ym_ne (by decide), tc_ym_ne (by decide)]; exact e10
    · rw [tc_ym_ne (by decide), tc_ym_ne (by decide), tc_ym_ne (by decide)]; exact e11
    · rw [tc_ym_ne (by decide), tc_ym_ne (by decide), tc_ym_ne (by decide)]; exact e12
    · rw [tc_ym_ne (by decide), tc_ym_ne (by decide), tc_ym_ne (by decide)]; exact e13
    · rw [en, l0, cu q (by omega), if_pos rfl]; omega
    · rw [tc_ym_ne (by decide), tc_ym_ne (by decide), tc_ym_ne (by decide)]; exact et
    · rw [va_up_ne _ _ (fun z => by rw [z] at w; omega)]; exact w
    · rw [tc_ymi hkc, tc_ym_ne (by omega), tc_ym_ne (by omega)]
    · rw [tc_ym_ne (by decide), tc_ym_ne (by decide), tc_ym_ne (by decide)]
    · rw [tc_ym_ne (by decide), tc_ym_ne (by decide), tc_ym_ne (by decide)]
    · rw [tc_ym_ne (by decide), tc_ym_ne (by decide), tc_ym_ne (by decide)]
    · rw [tc_ym_ne (by decide), tc_ym_ne (by decide), tc_ym_ne (by decide)]; exact Int32.le_refl _
  · have ez : a_lay x z (nI c) (some (21 + c)) = some (1, x, z) := by
      rcases h.ld hc with ⟨el, y14, -⟩ | ⟨j, ej, -, y14, -, -, ng, -⟩
      · simp only [a_lay, tc_oc, if_pos (lk_isc S hc), row.1, if_pos (show 5 < 8 by decide), if_pos (show 7 < 8 by decide), f5, f6, f7, y14, hcl, if_pos hg, tc_let, tc_jn, tc_b3, lP, if_pos (show (-1 : Int32) < 0 by decide), e, Option.bind_some, if_neg tc_k3, if_pos]
      · by_cases w1 : H = tc_cnt pa (tc_nb x) q + 1
        · by_cases w2 : 8 ≤ tc_cnt pa (tc_nb x) q
          · simp only [a_lay, tc_oc, if_pos (lk_isc S hc), row.1, if_pos (show 5 < 8 by decide), if_pos (show 7 < 8 by decide), if_pos (show 6 < 8 by decide), f5, f6, f7, hcl, if_pos hg, tc_let, tc_jn, tc_b3, lP, if_neg ng, nI_1, if_pos (hh.mpr w1), if_pos (f8.mpr w2), e, Option.bind_some, if_neg tc_k3, if_pos]
          · have fn : f_S_areFine z (nI q) (nI (tc_cnt pa (tc_nb x) q + 1)) (some (21 + c)) = some 0 := by
              rcases fine with w | w
              · exact absurd ⟨by rw [ej]; simp, w1, by omega, w.2⟩ nc
              · exact w.1
            simp only [a_lay, tc_oc, if_pos (lk_isc S hc), row.1, if_pos (show 5 < 8 by decide), if_pos (show 7 < 8 by decide), if_pos (show 6 < 8 by decide), f5, f6, f7, hcl, if_pos hg, tc_let, tc_jn, tc_b3, lP, if_neg ng, nI_1, if_pos (hh.mpr w1), if_neg (fun w => w2 (f8.mp w)), fn, e, Option.bind_some, if_neg tc_k3, if_pos]
        · simp only [a_lay, tc_oc, if_pos (lk_isc S hc), row.1, if_pos (show 5 < 8 by decide), if_pos (show 7 < 8 by decide), if_pos (show 6 < 8 by decide), f5, f6, f7, hcl, if_pos hg, tc_let, tc_jn, tc_b3, lP, if_neg ng, nI_1, if_neg (fun w => w1 (hh.mp w)), e, Option.bind_some, if_neg tc_k3, if_pos]
    rw [ez]; exact tc_A.same J0
end LKB
