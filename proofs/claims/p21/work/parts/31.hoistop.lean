/-! The call hoist. -/
theorem tc_dA {A H : Nat} (hA : A ≤ 20) (hH : H ≤ 20) : ((nI A - nI H ≤ 0) ↔ A ≤ H) ∧ ((0 ≤ nI A - nI H) ↔ H ≤ A) ∧ tc_abs (nI A - nI H) = (if H ≤ A then nI A - nI H else nI H - nI A) := by
  have all : ∀ A, A < 21 → ∀ H, H < 21 → ((nI A - nI H ≤ 0) ↔ A ≤ H) ∧ ((0 ≤ nI A - nI H) ↔ H ≤ A) ∧ tc_abs (nI A - nI H) = (if H ≤ A then nI A - nI H else nI H - nI A) := by decide +kernel
  exact all A (by omega) H (by omega)
section TCHQ
variable {pa lv : Nat → Nat} {x : tc_X} {y : tc_Y}
theorem tc_Rl.raise (h : tc_Rl pa lv x y) {c A H : Nat} (hc : c < tc_nc x) (hA : A ≤ 20) (e26 : x.1 26 c = nI H) : f_X2_raiseHook x c (nI A) = some ((((nI A - nI H) + x.1 22 c) - 1) / x.1 22 c, tc_si (tc_si x 26 c (nI A)) 0 0 (x.1 0 0 + (((nI A - nI H) + x.1 22 c) - 1) / x.1 22 c)) := by
  have t : (tc_si x 26 c (nI A)).1 0 0 = x.1 0 0 := tc_si_ne (by omega)
  simp only [f_X2_raiseHook, if_pos hc, e26, (h.wd hc (nI A - nI H)).1, Option.bind_some, tc_leteq, t]
theorem tc_Rl.lowN (h : tc_Rl pa lv x y) {c A H : Nat} (hc : c < tc_nc x) (hA : A ≤ 20) (e26 : x.1 26 c = nI H) (hl : x.2.1 2 c = none) : f_X2_lowerHook x c (nI A) = some ((((nI H - nI A) + x.1 22 c) - 1) / x.1 22 c, tc_si (tc_si x 26 c (nI A)) 0 0 (x.1 0 0 + (((nI H - nI A) + x.1 22 c) - 1) / x.1 22 c)) := by
  have t : (tc_si x 26 c (nI A)).1 0 0 = x.1 0 0 := tc_si_ne (by omega)
  simp only [f_X2_lowerHook, if_pos hc, e26, (h.wd hc (nI H - nI A)).1, Option.bind_some, tc_leteq, hl, tc_oc, t]
theorem tc_Rl.lowL (h : tc_Rl pa lv x y) {c A H j : Nat} (hc : c < tc_nc x) (hA : A ≤ 20) (e26 : x.1 26 c = nI H) (hl : x.2.1 2 c = some j) (hj : j < tc_nb x) : f_X2_lowerHook x c (nI A) = (if x.1 24 c + (((nI H - nI A) + x.1 22 c) - 1) / x.1 22 c * (x.1 11 j / 20 + 1) ≤ 99 then some ((((nI H - nI A) + x.1 22 c) - 1) / x.1 22 c, tc_si (tc_si (tc_si x 24 c (x.1 24 c + (((nI H - nI A) + x.1 22 c) - 1) / x.1 22 c * (x.1 11 j / 20 + 1))) 26 c (nI A)) 0 0 (x.1 0 0 + (((nI H - nI A) + x.1 22 c) - 1) / x.1 22 c)) else some (-1, tc_si (tc_sr (tc_si (tc_si x 14 j (-1)) 15 j 1) 2 c none) 24 c 99)) := by
  have t : ∀ W, (tc_si (tc_si x 24 c W) 26 c (nI A)).1 0 0 = x.1 0 0 := fun W => by rw [tc_si_ne (by omega), tc_si_ne (by omega)]
  simp only [f_X2_lowerHook, if_pos hc, e26, (h.wd hc (nI H - nI A)).1, Option.bind_some, tc_leteq, hl, tc_oc, if_pos hj, t, f_X1_wornAfterLowering, f_X2_wearInATick, f_X2_dropLoad]
end TCHQ
theorem tc_op_hoist : op_hoist tc_R := by
  intro x y a1 a2 ⟨pa, lv, h⟩
  have h0 := h.th 0
  rcases tc_crn h0 a1 with ⟨e3, e2⟩ | ⟨c, hc, rfl, e3, e2⟩
  · exact ⟨1, 0, x, 0, tc_ym (tc_ym y 0 0 0) 0 0 1, by simp only [f_X2_hoist, e2, Option.bind_some, if_neg tc_k1], by simp only [f_X3_hoist, tc_leteq, e3, Option.bind_some, if_pos, f_X3_no, tc_b2], by decide, fun _ => rfl, tc_th0, fun z => absurd z (by decide), tc_no h 1⟩
  · rcases tc_in01 a2 0 20 with ⟨r3, -⟩ | ⟨r3, l1, l2⟩
    · exact ⟨2, 0, x, 0, tc_ym (tc_ym y 0 0 0) 0 0 2, by simp only [f_X2_hoist, e2, Option.bind_some, if_pos, tc_inR, r3], by simp only [f_X3_hoist, tc_leteq, e3, Option.bind_some, if_neg tc_10, r3, if_pos, f_X3_no, tc_b2], by decide, fun _ => rfl, tc_th0, fun z => absurd z (by decide), tc_no h 2⟩
    · obtain ⟨A, hA, rfl⟩ := tc_nat (n := 20) (by decide) l1 l2
      have h40 := h.1.2.2.2.1
      have hc5 : c < 5 := Nat.lt_of_lt_of_le hc h.1.2.2.2.2
      have hcl := tc_cl (show c ≤ 1000 by omega)
      have hg5 := tc_g2 hc5 (show c ≤ 1000 by omega)
      have hgn := tc_g2 hc (show c ≤ 1000 by omega)
      have z0 : tc_ym y 0 0 0 0 0 = 0 := tc_th0
      have no3 := tc_no h 3
      have n3 : tc_ym (tc_ym y 0 0 0) 0 0 3 0 0 = 3 := tc_th0
      have k := h0.2.2.1 c hc
      obtain ⟨p, hp, ep⟩ := k.2.2.2.2.2.2.2.2.2.1
      obtain ⟨H, hH, eH⟩ := k.2.2.2.2.2.2.2.2.2.2.1
      have e25 : x.1 25 c = nI p := k.2.2.2.2.2.1.trans ep
      have e26 : x.1 26 c = nI H := k.2.2.2.2.2.2.1.trans eH
      have e24 := k.2.2.2.2.1
      obtain ⟨d1, d2, d3⟩ := tc_dA hA hH
      have ht := h0.ht hp
      have hi := h0.hi hp
      have lo := h0.lo hc
      have low := tc_low hc (nI (tc_cnt pa (tc_nb x) p))
      have cmp : (nI A ≤ nI H ↔ A ≤ H) ∧ (nI H ≤ nI A ↔ H ≤ A) := ⟨nI_leI (by omega) (by omega), nI_leI (by omega) (by omega)⟩
      by_cases w : nI A < nI (tc_cnt pa (tc_nb x) p) + nI (tc_ld x c)
      · exact ⟨3, 0, x, 0, tc_ym (tc_ym y 0 0 0) 0 0 3, by simp only [f_X2_hoist, e2, Option.bind_some, if_pos, tc_inR, r3, if_neg tc_10, hcl, if_pos hgn, tc_leteq, e25, ht, low, if_neg (Int32.not_le.mpr w)], by simp only [f_X3_hoist, tc_leteq, e3, Option.bind_some, if_neg tc_10, r3, hcl, if_pos hg5, eH, ep, hi, lo, if_pos w, f_X3_no, tc_b2], by decide, fun _ => rfl, tc_th0, fun z => absurd z (by decide), no3⟩
      · have w' := Int32.not_lt.mp w
        have S : f_X2_hoist x (nI c) (nI A) = (tc_oc (x.2.1 2 c) (if A ≤ H then (if H ≤ A then tc_b2 (f_X2_raiseHook x c (nI A)) (fun r19 x20 => some (0, r19, x20)) else tc_b2 (f_X2_lowerHook x c (nI A)) (fun r22 x23 => some (0, r22, x23))) else (if H ≤ A then tc_b2 (f_X2_raiseHook x c (nI A)) (fun r26 x27 => some (0, r26, x27)) else tc_b2 (f_X2_lowerHook x c (nI A)) (fun r29 x30 => some (0, r29, x30)))) (fun j16 => (if A ≤ H then (if H ≤ A then tc_b2 (f_X2_raiseHook x c (nI A)) (fun r34 x35 => some (0, r34, x35)) else tc_b2 (f_X2_lowerHook x c (nI A)) (fun r37 x38 => some (0, r37, x38))) else (if j16 < tc_nb x then Option.bind (f_X1_canLift x c (x.1 11 j16)) (fun r41 => (if r41 = 0 then some (3, 0, x) else (if H ≤ A then tc_b2 (f_X2_raiseHook x c (nI A)) (fun r45 x46 => some (0, r45, x46)) else tc_b2 (f_X2_lowerHook x c (nI A)) (fun r48 x49 => some (0, r48, x49))))) else none)))) := by
          simp only [f_X2_hoist, e2, Option.bind_some, if_pos, tc_inR, r3, if_neg tc_10, hcl, if_pos hgn, tc_leteq, e25, ht, low, if_pos w', e26, cmp.1, cmp.2]
        have wd3 := fun v => (h0.wd hc v).2
        rcases (show A = H ∨ A < H ∨ H < A by omega) with e | e | e
        · -- neither up nor down
          have rz := h0.raise hc hA e26
          refine ⟨0, _, _, _, _, by
            rw [S, if_pos (show A ≤ H by omega), if_pos (show H ≤ A by omega), rz]
            cases x.2.1 2 c with
            | none => rfl
            | some j =>
              simp only [tc_oc, if_pos (show A ≤ H by omega)]
              rfl, by
            simp only [f_X3_hoist, tc_leteq, e3, Option.bind_some, if_neg tc_10, r3, hcl, if_pos hg5, eH, ep, hi, lo, if_neg w, if_pos (d1.mpr (show A ≤ H by omega)), d3, if_pos (show H ≤ A by omega), wd3, if_pos (d2.mpr (show H ≤ A by omega))]
            rfl, by decide, fun z => absurd rfl z, ?_, fun _ => rfl, pa, lv, h0.setU hc hA _⟩
          rw [tc_ym_ne (by decide), tc_ym_ne (by decide)]; exact z0
        · -- down
          cases hl : x.2.1 2 c with
          | none =>
            have y14 := k.2.2.2.2.2.2.2.2.2.2.2.1 hl
            have rz := h0.lowN hc hA e26 hl
            refine ⟨0, _, _, _, _, by
              rw [S, if_pos (show A ≤ H by omega), if_neg (show ¬ H ≤ A by omega), rz, hl]
              rfl, by
              simp only [f_X3_hoist, tc_leteq, e3, Option.bind_some, if_neg tc_10, r3, hcl, if_pos hg5, eH, ep, hi, lo, if_neg w, if_pos (d1.mpr (show A ≤ H by omega)), d3, if_neg (show ¬ H ≤ A by omega), wd3, if_neg (show ¬ (0 ≤ nI A - nI H) from fun z => absurd (d2.mp z) (by omega)), y14, if_pos]
              rfl, by decide, fun z => absurd rfl z, ?_, fun _ => rfl, pa, lv, h0.setU hc hA _⟩
            rw [tc_ym_ne (by decide), tc_ym_ne (by decide)]; exact z0
          | some j =>
            obtain ⟨hj, y14, -⟩ := k.2.2.2.2.2.2.2.2.2.2.2.2 j hl
            have rz := h0.lowL hc hA e26 hl hj
            have e11 := (h0.2.1 j hj).2.1
            have hj40 := tc_g2 (show j < 40 by omega) (show j ≤ 1000 by omega)
            have hjcl := tc_cl (show j ≤ 1000 by omega)
            have hjn := (tc_nIneg (p := j) (by omega)).1
            rw [e24, e11] at rz
            by_cases wv : tc_ym y 0 0 0 11 c + (((nI H - nI A) + x.1 22 c) - 1) / x.1 22 c * (tc_ym y 0 0 0 3 j / 20 + 1) ≤ 99
            · rw [if_pos wv] at rz
              refine ⟨0, _, _, _, _, by
                rw [S, if_pos (show A ≤ H by omega), if_neg (show ¬ H ≤ A by omega), rz, hl]
                simp only [tc_oc, if_pos (show A ≤ H by omega)]
                rfl, by
                simp only [f_X3_hoist, tc_leteq, e3, Option.bind_some, if_neg tc_10, r3, hcl, if_pos hg5, eH, ep, hi, lo, if_neg w, if_pos (d1.mpr (show A ≤ H by omega)), d3, if_neg (show ¬ H ≤ A by omega), wd3, if_neg (show ¬ (0 ≤ nI A - nI H) from fun z => absurd (d2.mp z) (by omega)), y14, hjcl, if_pos hj40, if_neg hjn, if_pos wv]
                rfl, by decide, fun z => absurd rfl z, ?_, fun _ => rfl, pa, lv, h0.setV hc hA _ _⟩
              rw [tc_ym_ne (by decide), tc_ym_ne (by decide), tc_ym_ne (by decide)]; exact z0
            · rw [if_neg wv] at rz
              refine ⟨0, _, _, _, _, by
                rw [S, if_pos (show A ≤ H by omega), if_neg (show ¬ H ≤ A by omega), rz, hl]
                simp only [tc_oc, if_pos (show A ≤ H by omega)]
                rfl, by
                simp only [f_X3_hoist, tc_leteq, e3, Option.bind_some, if_neg tc_10, r3, hcl, if_pos hg5, eH, ep, hi, lo, if_neg w, if_pos (d1.mpr (show A ≤ H by omega)), d3, if_neg (show ¬ H ≤ A by omega), wd3, if_neg (show ¬ (0 ≤ nI A - nI H) from fun z => absurd (d2.mp z) (by omega)), y14, hjcl, if_pos hj40, if_neg hjn, if_neg wv, f_X3_fall, tc_b2], by decide, fun z => absurd rfl z, ?_, fun _ => rfl, _, lv, h0.fall hc hl⟩
              rw [tc_ym_ne (by decide), tc_ym_ne (by decide), tc_ym_ne (by decide)]; exact z0
        · -- up
          have rz := h0.raise hc hA e26
          cases hl : x.2.1 2 c with
          | none =>
            have y14 := k.2.2.2.2.2.2.2.2.2.2.2.1 hl
            have can : f_X3_canLift (tc_ym y 0 0 0) (nI c) = some 1 := by simp only [f_X3_canLift, hcl, if_pos hg5, y14, if_pos]
            refine ⟨0, _, _, _, _, by
              rw [S, if_neg (show ¬ A ≤ H by omega), if_pos (show H ≤ A by omega), rz, hl]
              rfl, by
              simp only [f_X3_hoist, tc_leteq, e3, Option.bind_some, if_neg tc_10, r3, hcl, if_pos hg5, eH, ep, hi, lo, if_neg w, if_neg (show ¬ (nI A - nI H ≤ 0) from fun z => absurd (d1.mp z) (by omega)), can, d3, if_pos (show H ≤ A by omega), wd3, if_pos (d2.mpr (show H ≤ A by omega))]
              rfl, by decide, fun z => absurd rfl z, ?_, fun _ => rfl, pa, lv, h0.setU hc hA _⟩
            rw [tc_ym_ne (by decide), tc_ym_ne (by decide)]; exact z0
          | some j =>
            obtain ⟨hj, y14, -⟩ := k.2.2.2.2.2.2.2.2.2.2.2.2 j hl
            have e11 := (h0.2.1 j hj).2.1
            have hj40 := tc_g2 (show j < 40 by omega) (show j ≤ 1000 by omega)
            have hjcl := tc_cl (show j ≤ 1000 by omega)
            have hjn := (tc_nIneg (p := j) (by omega)).1
            have cl := h0.cl hc (x.1 11 j)
            have s2 := (h0.st2 hc).2
            rw [e11] at cl
            by_cases ws : 12 * x.1 23 c / x.1 22 c < tc_ym y 0 0 0 3 j
            · have can : f_X3_canLift (tc_ym y 0 0 0) (nI c) = some 0 := by simp only [f_X3_canLift, hcl, if_pos hg5, y14, if_neg hjn, hjcl, if_pos hj40, s2, Option.bind_some, if_pos ws]
              rw [if_pos ws] at cl
              exact ⟨3, 0, x, 0, tc_ym (tc_ym y 0 0 0) 0 0 3, by
                rw [S, hl, if_neg (show ¬ A ≤ H by omega)]
                simp only [tc_oc, if_neg (show ¬ A ≤ H by omega), if_pos hj, e11, cl, Option.bind_some, if_pos], by
                simp only [f_X3_hoist, tc_leteq, e3, Option.bind_some, if_neg tc_10, r3, hcl, if_pos hg5, eH, ep, hi, lo, if_neg w, if_neg (show ¬ (nI A - nI H ≤ 0) from fun z => absurd (d1.mp z) (by omega)), can, if_pos, f_X3_no, tc_b2], by decide, fun _ => rfl, tc_th0, fun z => absurd z (by decide), no3⟩
            · have can : f_X3_canLift (tc_ym y 0 0 0) (nI c) = some 1 := by simp only [f_X3_canLift, hcl, if_pos hg5, y14, if_neg hjn, hjcl, if_pos hj40, s2, Option.bind_some, if_neg ws]
              rw [if_neg ws] at cl
              refine ⟨0, _, _, _, _, by
                rw [S, hl]
                simp only [tc_oc, if_neg (show ¬ A ≤ H by omega), if_pos hj, e11, cl, Option.bind_some, if_neg tc_10, if_pos (show H ≤ A by omega), rz, tc_b2]
                rfl, by
                simp only [f_X3_hoist, tc_leteq, e3, Option.bind_some, if_neg tc_10, r3, hcl, if_pos hg5, eH, ep, hi, lo, if_neg w, if_neg (show ¬ (nI A - nI H ≤ 0) from fun z => absurd (d1.mp z) (by omega)), can, d3, if_pos (show H ≤ A by omega), wd3, if_pos (d2.mpr (show H ≤ A by omega))]
                rfl, by decide, fun z => absurd rfl z, ?_, fun _ => rfl, pa, lv, h0.setU hc hA _⟩
              rw [tc_ym_ne (by decide), tc_ym_ne (by decide)]; exact z0
