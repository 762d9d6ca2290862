theorem tc_op_lay : op_lay tc_R := by
  intro x y a1 ⟨pa, lv, h⟩
  have h0 := h.th 0
  rcases tc_crn h0 a1 with ⟨e3, e2⟩ | ⟨c, hc, rfl, e3, e2⟩
  · exact ⟨1, 0, x, 0, tc_ym (tc_ym y 0 0 0) 0 0 1, by simp only [f_X2_lay, e2, Option.bind_some, if_neg tc_k1], by simp only [f_X3_lay, tc_leteq, e3, Option.bind_some, if_pos, f_X3_no, tc_b2], Or.inr (Or.inl rfl), fun _ => rfl, tc_th0, fun z => absurd z (by decide), tc_no h 1⟩
  · have h40 := h.1.2.2.2.1
    have hc5 : c < 5 := Nat.lt_of_lt_of_le hc h.1.2.2.2.2
    have hcl := tc_cl (show c ≤ 1000 by omega)
    have hg5 := tc_g2 hc5 (show c ≤ 1000 by omega)
    have hgn := tc_g2 hc (show c ≤ 1000 by omega)
    have z0 : tc_ym y 0 0 0 0 0 = 0 := tc_th0
    have no2 := tc_no h 2
    have k := h0.2.2.1 c hc
    obtain ⟨p, hp, ep⟩ := k.2.2.2.2.2.2.2.2.2.1
    obtain ⟨H, hH, eH⟩ := k.2.2.2.2.2.2.2.2.2.2.1
    have e25 : x.1 25 c = nI p := k.2.2.2.2.2.1.trans ep
    have e26 : x.1 26 c = nI H := k.2.2.2.2.2.2.1.trans eH
    have hht := h0.ht hp
    have hhi := h0.hi hp
    have c8 := h0.c8 hp
    cases hl : x.2.1 2 c with
    | none =>
      have y14 := k.2.2.2.2.2.2.2.2.2.2.2.1 hl
      refine ⟨3, 0, x, 0, tc_ym (tc_ym y 0 0 0) 0 0 2, by
        simp only [f_X2_lay, e2, Option.bind_some, if_pos, hcl, if_pos hgn, tc_leteq, e25, hl, tc_oc, hht], by
        simp only [f_X3_lay, tc_leteq, e3, Option.bind_some, if_neg tc_10, hcl, if_pos hg5, ep, hhi, y14, if_pos, f_X3_no, tc_b2], Or.inr (Or.inr rfl), fun _ => rfl, tc_th0, fun z => absurd z (by decide), no2⟩
    | some j =>
      obtain ⟨hj, y14, -⟩ := k.2.2.2.2.2.2.2.2.2.2.2.2 j hl
      have hjn := (tc_nIneg (p := j) (by omega)).1
      have hj40 := tc_g2 (show j < 40 by omega) (show j ≤ 1000 by omega)
      have hjcl := tc_cl (show j ≤ 1000 by omega)
      generalize hcn : tc_cnt pa (tc_nb x) p = n at hht hhi c8
      by_cases e : nI H = nI n + 1
      · have f8 : nI n + 1 ≤ 8 ↔ n ≤ 7 := by
          rw [nI_1]
          exact (nI_leI (a := n + 1) (b := 8) (by omega) (by omega)).trans (by omega)
        have g8 : nI n = 8 ↔ n = 8 := nI_eq (b := 8) (by omega) (by omega)
        by_cases e7 : n ≤ 7
        · rcases h0.hk (nI p) (nI n + 1) (nI c) with ⟨t2, t3⟩ | ⟨t2, t3⟩
          · have rr : (tc_si (tc_sr x 2 c none) 14 j (-1)).2.1 0 p = x.2.1 0 p := by rw [tc_si_2, tc_sr_ne (by omega)]
            have v25 : (tc_si (tc_sr x 2 c none) 14 j (-1)).1 25 c = nI p := by rw [tc_si_ne (by omega), tc_sr_1]; exact e25
            have hX : f_X2_heightOf (tc_si (tc_sr x 2 c none) 14 j (-1)) (nI p) = some (nI n) := by
              rw [← hht]
              simp only [f_X2_heightOf, tc_up hp, Option.bind_some, rr]
              cases x.2.1 0 p with
              | none => rfl
              | some b =>
                show (if b < tc_nb x then some ((tc_si (tc_sr x 2 c none) 14 j (-1)).1 13 b + 1) else none) = (if b < tc_nb x then some (x.1 13 b + 1) else none)
                rw [tc_si_ne (by omega), tc_sr_1]
            have n1 : j < tc_nb (tc_sr x 2 c none) := hj
            have put := tc_put9 (x := tc_si (tc_sr x 2 c none) 14 j (-1)) hp hj hX
            rw [rr] at put
            have w14 : tc_ym (tc_ym y 0 0 0) 4 j (nI p) 14 c = nI j := by rw [tc_ym_ne (by decide)]; exact y14
            refine ⟨0, nI n + 1, _, nI n + 1, _, ?_, ?_, Or.inl rfl, fun z => absurd rfl z, ?_, fun _ => rfl, _, _, h0.laid hc hl hp hcn e7⟩
            · simp only [f_X2_lay, e2, Option.bind_some, if_pos, hcl, if_pos hgn, tc_leteq, e25, hl, tc_oc, hht, e26, if_pos e, if_pos (f8.mpr e7), t2, if_neg tc_10, if_pos n1, v25, put]
            · simp only [f_X3_lay, tc_leteq, e3, Option.bind_some, if_neg tc_10, hcl, if_pos hg5, ep, hhi, y14, if_neg hjn, eH, if_pos e, if_neg (show ¬ nI n = 8 from fun z => absurd (g8.mp z) (by omega)), t3, if_pos, hjcl, if_pos hj40, w14]
            · rw [tc_ym_ne (by decide), tc_ym_ne (by decide), tc_ym_ne (by decide)]; exact z0
          · exact ⟨3, 0, x, 0, tc_ym (tc_ym y 0 0 0) 0 0 2, by
              simp only [f_X2_lay, e2, Option.bind_some, if_pos, hcl, if_pos hgn, tc_leteq, e25, hl, tc_oc, hht, e26, if_pos e, if_pos (f8.mpr e7), t2], by
              simp only [f_X3_lay, tc_leteq, e3, Option.bind_some, if_neg tc_10, hcl, if_pos hg5, ep, hhi, y14, if_neg hjn, eH, if_pos e, if_neg (show ¬ nI n = 8 from fun z => absurd (g8.mp z) (by omega)), t3, f_X3_no, tc_b2], Or.inr (Or.inr rfl), fun _ => rfl, tc_th0, fun z => absurd z (by decide), no2⟩
        · exact ⟨3, 0, x, 0, tc_ym (tc_ym y 0 0 0) 0 0 2, by
            simp only [f_X2_lay, e2, Option.bind_some, if_pos, hcl, if_pos hgn, tc_leteq, e25, hl, tc_oc, hht, e26, if_pos e, if_neg (show ¬ nI n + 1 ≤ 8 from fun z => e7 (f8.mp z))], by
            simp only [f_X3_lay, tc_leteq, e3, Option.bind_some, if_neg tc_10, hcl, if_pos hg5, ep, hhi, y14, if_neg hjn, eH, if_pos e, if_pos (g8.mpr (show n = 8 by omega)), f_X3_no, tc_b2], Or.inr (Or.inr rfl), fun _ => rfl, tc_th0, fun z => absurd z (by decide), no2⟩
      · exact ⟨3, 0, x, 0, tc_ym (tc_ym y 0 0 0) 0 0 2, by
          simp only [f_X2_lay, e2, Option.bind_some, if_pos, hcl, if_pos hgn, tc_leteq, e25, hl, tc_oc, hht, e26, if_neg e], by
          simp only [f_X3_lay, tc_leteq, e3, Option.bind_some, if_neg tc_10, hcl, if_pos hg5, ep, hhi, y14, if_neg hjn, eH, if_neg e, f_X3_no, tc_b2], Or.inr (Or.inr rfl), fun _ => rfl, tc_th0, fun z => absurd z (by decide), no2⟩
