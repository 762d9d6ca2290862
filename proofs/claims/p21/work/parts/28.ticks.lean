/-! How long a crane would need; move, best. -/
section TCTK
variable {pa lv : Nat → Nat} {x : tc_X} {y : tc_Y}
theorem tc_fo8 {H : Nat → Nat} (n k : Nat) (h : ∀ q, k ≤ q → q < k + n → H q ≤ 8) : tc_fo H n k 0 ≤ 8 := by
  obtain ⟨-, -, h3⟩ := tc_fo_spec H n k 0
  rcases h3 with z | ⟨q, q1, q2, q3⟩
  · omega
  · rw [q3]; exact h q q1 q2
/-- f with one less, and the rest of the way -/
theorem tc_mx2 {H H1 : Nat → Nat} {n k n' k' f : Nat} (hf : k ≤ f ∧ f < k + n) (h1 : H1 f = H f - 1) (ho : ∀ q, q ≠ f → H1 q = H q) (hr : ∀ q, (k' ≤ q ∧ q < k' + n') ↔ ((k ≤ q ∧ q < k + n) ∧ q ≠ f)) (hpos : 1 ≤ H f) : max (H f) (tc_fo H1 n k 0 + 1) = max (H f) (tc_fo H n' k' 0 + 1) := by
  obtain ⟨-, a2, a3⟩ := tc_fo_spec H1 n k 0
  obtain ⟨-, b2, b3⟩ := tc_fo_spec H n' k' 0
  have c1 : tc_fo H n' k' 0 ≤ tc_fo H1 n k 0 := by
    rcases b3 with z | ⟨q, q1, q2, q3⟩
    · rw [z]; exact Nat.zero_le _
    · have w := (hr q).mp ⟨q1, q2⟩
      rw [q3, ← ho q w.2]; exact a2 q w.1.1 w.1.2
  have c2 : tc_fo H1 n k 0 ≤ max (H f - 1) (tc_fo H n' k' 0) := by
    rcases a3 with z | ⟨q, q1, q2, q3⟩
    · rw [z]; exact Nat.zero_le _
    · by_cases e : q = f
      · rw [q3, e, h1]; exact Nat.le_max_left _ _
      · have w := (hr q).mpr ⟨⟨q1, q2⟩, e⟩
        rw [q3, ho q e]; exact Nat.le_trans (b2 q w.1 w.2) (Nat.le_max_right _ _)
  clear a2 a3 b2 b3 h1 ho hr hf
  generalize tc_fo H1 n k 0 = A at c1 c2 ⊢
  generalize tc_fo H n' k' 0 = B at c1 c2 ⊢
  generalize H f = F at c2 hpos ⊢
  omega
theorem tc_Rl.mx (h : tc_Rl pa lv x y) {f t i : Nat} (hf : f < 16) (ht : t < 16) (hne : f ≠ t) (hc : tc_cnt pa (tc_nb x) f = i + 1) : ∃ M r3 : Nat, tc_cnt pa (tc_nb x) t + 1 ≤ M ∧ M ≤ 9 ∧ f_X3_highest y (nI f) (nI t) (nI f) = some (nI r3) ∧ tc_max (nI (i + 1)) (nI r3 + 1) = nI M ∧ (t < f → ∃ r2 : Nat, f_X2_highestBetween x (nI f - 1) (nI t) = some (nI r2) ∧ tc_max (nI (i + 1)) (nI r2 + 1) = nI M) ∧ (f < t → ∃ r2 : Nat, f_X2_highestBetween x (nI f + 1) (nI t) = some (nI r2) ∧ tc_max (nI (i + 1)) (nI r2 + 1) = nI M) := by
  have H8 : ∀ q, q < 16 → tc_cnt pa (tc_nb x) q ≤ 8 := fun q hq => h.c8 hq
  have hx3 := h.h3 hf ht (a := nI f) (fun p hp z => by rw [(nI_eq (by omega) (by omega)).mp z, hc]; omega)
  have e1 : tc_H1 (tc_cnt pa (tc_nb x)) (nI f) f = tc_cnt pa (tc_nb x) f - 1 := if_pos rfl
  have e0 : ∀ q, q < 16 → q ≠ f → tc_H1 (tc_cnt pa (tc_nb x)) (nI f) q = tc_cnt pa (tc_nb x) q := fun q hq hn => if_neg (fun z => hn ((nI_eq (by omega) (by omega)).mp z))
  have H1c := tc_fo_congr (H := tc_H1 (tc_cnt pa (tc_nb x)) (nI f)) (H' := fun q => if q = f then tc_cnt pa (tc_nb x) f - 1 else tc_cnt pa (tc_nb x) q) (max f t + 1 - min f t) (min f t) 0 (fun q q1 q2 => by
    by_cases w : q = f
    · subst w; rw [e1, if_pos rfl]
    · rw [e0 q (by omega) w, if_neg w])
  rw [H1c] at hx3
  have b3 : tc_fo (fun q => if q = f then tc_cnt pa (tc_nb x) f - 1 else tc_cnt pa (tc_nb x) q) (max f t + 1 - min f t) (min f t) 0 ≤ 8 := tc_fo8 _ _ (fun q q1 q2 => by
    show (if q = f then tc_cnt pa (tc_nb x) f - 1 else tc_cnt pa (tc_nb x) q) ≤ 8
    split
    · have := H8 f hf; omega
    · exact H8 q (by omega))
  have tge : tc_cnt pa (tc_nb x) t ≤ tc_fo (fun q => if q = f then tc_cnt pa (tc_nb x) f - 1 else tc_cnt pa (tc_nb x) q) (max f t + 1 - min f t) (min f t) 0 := by
    have w := (tc_fo_spec (fun q => if q = f then tc_cnt pa (tc_nb x) f - 1 else tc_cnt pa (tc_nb x) q) (max f t + 1 - min f t) (min f t) 0).2.1 t (by omega) (by omega)
    have w2 : (if t = f then tc_cnt pa (tc_nb x) f - 1 else tc_cnt pa (tc_nb x) t) ≤ _ := w
    rw [if_neg (fun z => hne z.symm)] at w2
    exact w2
  have hi8 := H8 f hf
  refine ⟨max (i + 1) (tc_fo (fun q => if q = f then tc_cnt pa (tc_nb x) f - 1 else tc_cnt pa (tc_nb x) q) (max f t + 1 - min f t) (min f t) 0 + 1), _, by omega, by omega, hx3, by rw [nI_1, tc_maxI (by omega) (by omega)], fun hlt => ?_, fun hlt => ?_⟩
  · have q2 := h.hb (i := f - 1) (j := t) (by omega) ht
    have b2 : tc_fo (tc_cnt pa (tc_nb x)) (max (f - 1) t + 1 - min (f - 1) t) (min (f - 1) t) 0 ≤ 8 := tc_fo8 _ _ (fun q q1 q2 => H8 q (by omega))
    refine ⟨_, by rw [show nI f - 1 = nI (f - 1) from pk_sub (a := f) (b := 1) (by omega)]; exact q2, ?_⟩
    rw [nI_1, tc_maxI (by omega) (by omega), ← hc]
    congr 1
    symm
    exact tc_mx2 (H := tc_cnt pa (tc_nb x)) ⟨by omega, by omega⟩ (if_pos rfl) (fun q hq => if_neg hq) (fun q => by omega) (by omega)
  · have q2 := h.hb (i := f + 1) (j := t) (by omega) ht
    have b2 : tc_fo (tc_cnt pa (tc_nb x)) (max (f + 1) t + 1 - min (f + 1) t) (min (f + 1) t) 0 ≤ 8 := tc_fo8 _ _ (fun q q1 q2 => H8 q (by omega))
    refine ⟨_, by rw [nI_1]; exact q2, ?_⟩
    rw [nI_1, tc_maxI (by omega) (by omega), ← hc]
    congr 1
    symm
    exact tc_mx2 (H := tc_cnt pa (tc_nb x)) ⟨by omega, by omega⟩ (if_pos rfl) (fun q hq => if_neg hq) (fun q => by omega) (by omega)
theorem tc_Rl.cl (h : tc_Rl pa lv x y) {c : Nat} (hc : c < tc_nc x) (v : Int32) : f_X1_canLift x c v = some (if 12 * x.1 23 c / x.1 22 c < v then 0 else 1) := by
  obtain ⟨s1, -⟩ := h.st2 hc
  simp only [f_X1_canLift, if_pos hc, s1, Option.bind_some]
  split <;> rfl
theorem tc_Rl.tk (h : tc_Rl pa lv x y) {c f t : Nat} (hc : c < tc_nc x) (hf : f < 16) (ht : t < 16) : ∃ v, f_X2_ticksToMove x c (nI f) (nI t) = some v ∧ f_X3_ticksOf y (nI c) (nI f) (nI t) = some v := by
  have h40 := h.1.2.2.2.1
  have h5 := h.1.2.2.2.2
  have hc5 : c < 5 := by omega
  have k := h.2.2.1 c hc
  obtain ⟨s1, s2⟩ := h.st2 hc
  have hg := tc_g2 hc5 (show c ≤ 1000 by omega)
  have hcl := tc_cl (show c ≤ 1000 by omega)
  -- the wharf's side fails: whoever asks first
  have fail : ∀ (hfree : ∀ b, x.2.1 0 f = some b → f_X1_canLift x c (x.1 11 b) = some 0 ∨ f_X2_isFreeToMove x c (nI f) (nI t) = some 0), f_X2_ticksToMove x c (nI f) (nI t) = some (-1) := fun hfree => by
    unfold f_X2_ticksToMove
    rw [tc_up hf]
    rcases h.up0 hf with ⟨e1, e2⟩ | ⟨b, i, e1, e2, e3, e4, e5⟩
    · rw [e1]; rfl
    · rw [e1]
      show (if b < tc_nb x then _ else _) = _
      rw [if_pos e2, if_pos hc]
      rcases hfree b e1 with z | z
      · rw [z]; rfl
      · rw [h.cl hc, z]
        by_cases w : 12 * x.1 23 c / x.1 22 c < x.1 11 b
        · rw [if_pos w]; rfl
        · rw [if_neg w]; rfl
  unfold f_X3_ticksOf
  rw [h.hi hf, h.hi ht]
  simp only [Option.bind_some, hcl, if_pos hg]
  cases hl : x.2.1 2 c with
  | some b' =>
    obtain ⟨j1, j2, -⟩ := k.2.2.2.2.2.2.2.2.2.2.2.2 b' hl
    rw [j2, if_neg (tc_nIneg (by omega)).1]
    exact ⟨-1, fail (fun b _ => Or.inr (by unfold f_X2_isFreeToMove; rw [if_pos hc, hl]; rfl)), rfl⟩
  | none =>
    rw [k.2.2.2.2.2.2.2.2.2.2.2.1 hl, if_pos rfl]
    have free : f_X2_isFreeToMove x c (nI f) (nI t) = (if nI f = nI t then some 0 else Option.bind (f_X1_reaches x c (nI f)) (fun r5 => (if r5 = 0 then some 0 else Option.bind (f_X1_reaches x c (nI t)) (fun r8 => (if r8 = 0 then some 0 else Option.bind (f_X2_heightOf x (nI t)) (fun r11 => (if 8 ≤ r11 then some 0 else some 1))))))) := by
      unfold f_X2_isFreeToMove; rw [if_pos hc, hl]; rfl
    by_cases hft : nI f = nI t
    · rw [if_pos hft]
      exact ⟨-1, fail (fun b _ => Or.inr (by rw [free, if_pos hft])), rfl⟩
    · rw [if_neg hft] at free ⊢
      have hne : f ≠ t := fun z => hft (by rw [z])
      rcases h.rc hc hf with ⟨r2, r3⟩ | ⟨r2, r3⟩
      · rw [r3]
        exact ⟨-1, fail (fun b _ => Or.inr (by rw [free, r2]; rfl)), rfl⟩
      · rw [r2] at free
        rw [r3]
        simp only [Option.bind_some, if_neg tc_10] at free ⊢
        rcases h.rc hc ht with ⟨u2, u3⟩ | ⟨u2, u3⟩
        · rw [u3]
          exact ⟨-1, fail (fun b _ => Or.inr (by rw [free, u2]; rfl)), rfl⟩
        · rw [u2, h.ht ht] at free
          rw [u3]
          simp only [Option.bind_some, if_neg tc_10] at free ⊢
          rcases h.up0 hf with ⟨e1, e2⟩ | ⟨b, i, e1, e2, e3, e4, e5⟩
          · rw [e2, if_pos (show nI 0 = (0 : Int32) from nI_0)]
            exact ⟨-1, fail (fun b hb => by rw [e1] at hb; cases hb), rfl⟩
          · have hi8 := h.c8 hf
            have ht8 := h.c8 ht
            rw [e5, if_neg (nI_ne0 (n := i + 1) (by omega) (by omega))]
            have e8 : ((8 : Int32) ≤ nI (tc_cnt pa (tc_nb x) t)) ↔ 8 ≤ tc_cnt pa (tc_nb x) t := nI_leI (a := 8) (by omega) (by omega)
            have e8' : (nI (tc_cnt pa (tc_nb x) t) = (8 : Int32)) ↔ tc_cnt pa (tc_nb x) t = 8 := nI_eq (b := 8) (by omega) (by omega)
            by_cases ef : tc_cnt pa (tc_nb x) t = 8
            · rw [if_pos (e8'.mpr ef)]
              exact ⟨-1, fail (fun b _ => Or.inr (by rw [free, if_pos (e8.mpr (by omega))])), rfl⟩
            · rw [if_neg (fun z => ef (e8'.mp z)), h.top hf, e1]
              rw [if_neg (fun z => absurd (e8.mp z) (by omega))] at free
              simp only [Option.bind_some]
              rw [tc_cl (show b ≤ 1000 by omega), if_pos (tc_g2 (show b < 40 by omega) (show b ≤ 1000 by omega)), tc_leteq, s2]
              simp only [Option.bind_some]
              have kb := h.2.1 b e2
              by_cases el : 12 * x.1 23 c / x.1 22 c < y 3 b
              · rw [if_neg (Int32.not_le.mpr el)]
                exact ⟨-1, fail (fun b'' hb'' => by
                  rw [e1] at hb''; cases hb''
                  exact Or.inl (by rw [h.cl hc, kb.2.1, if_pos el])), rfl⟩
              · rw [if_pos (Int32.not_lt.mp el)]
                obtain ⟨hp, hp16, ehp⟩ := k.2.2.2.2.2.2.2.2.2.1
                obtain ⟨M, m3, hM1, hM9, hx3, hxm, hlo, hhi⟩ := h.mx hf ht hne e5
                have ex25 : x.1 25 c = nI hp := k.2.2.2.2.2.1.trans ehp
                have ewound : ∀ v, f_X3_wound y (nI c) v = some (((v + x.1 22 c) - 1) / x.1 22 c) := fun v => (h.wd hc v).2
                have ewind : ∀ v, f_X1_ticksToWind x c v = some (((v + x.1 22 c) - 1) / x.1 22 c) := fun v => (h.wd hc v).1
                have esub : nI M - nI (tc_cnt pa (tc_nb x) t) - 1 = nI M - (nI (tc_cnt pa (tc_nb x) t) + 1) := by
                  rw [nI_1, pk_sub (by omega), pk_sub (by omega), show (1 : Int32) = nI 1 from rfl, pk_sub (by omega)]
                  congr 1
                have e26 := k.2.2.2.2.2.2.1
                have e24 := k.2.2.2.2.1
                have e11 := kb.2.1
                refine ⟨if y 11 c + (((nI M - (nI (tc_cnt pa (tc_nb x) t) + 1)) + x.1 22 c) - 1) / x.1 22 c * (y 3 b / 20 + 1) ≤ 99 then (((((((tc_max (y 13 c) (nI (tc_fo (tc_cnt pa (tc_nb x)) (max hp f + 1 - min hp f) (min hp f) 0)) - y 13 c) + x.1 22 c) - 1) / x.1 22 c + tc_abs (nI hp - nI f)) + ((tc_max (y 13 c) (nI (tc_fo (tc_cnt pa (tc_nb x)) (max hp f + 1 - min hp f) (min hp f) 0)) - nI (i + 1)) + x.1 22 c - 1) / x.1 22 c) + ((nI M - nI (i + 1)) + x.1 22 c - 1) / x.1 22 c) + tc_abs (nI f - nI t)) + (((nI M - (nI (tc_cnt pa (tc_nb x) t) + 1)) + x.1 22 c) - 1) / x.1 22 c else -1, ?_, ?_⟩
                · unfold f_X2_ticksToMove
                  rw [tc_up hf, e1]
                  show (if b < tc_nb x then _ else _) = _
                  rw [if_pos e2, if_pos hc, h.cl hc, e11, if_neg el]
                  simp only [Option.bind_some, if_neg tc_10, free, h.ht hf, h.ht ht, e5, tc_leteq, ex25, h.hb hp16 hf, e26]
                  by_cases hle : t ≤ f
                  · obtain ⟨m2, hm2, hm2x⟩ := hlo (by omega)
                    rw [if_pos (show nI t ≤ nI f from nI_le hle (by omega)), hm2]
                    simp only [Option.bind_some, hm2x, ewind, f_X1_wornAfterLowering, if_pos hc, f_X2_wearInATick, e24, f_X2_distance, tc_leteq]
                    split <;> rfl
                  · obtain ⟨m2, hm2, hm2x⟩ := hhi (by omega)
                    rw [if_neg (nI_ge (show f < t by omega) (by omega)), hm2]
                    simp only [Option.bind_some, hm2x, ewind, f_X1_wornAfterLowering, if_pos hc, f_X2_wearInATick, e24, f_X2_distance, tc_leteq]
                    split <;> rfl
                · rw [ehp, h.h3n hp16 hf]
                  simp only [Option.bind_some, tc_leteq, hx3, hxm, esub, ewound]
                  split <;> rfl
end TCTK
theorem tc_op_move : op_move tc_R := by
  intro x y a1 a2 a3 ⟨pa, lv, h⟩
  have h0 := h.th 0
  have h5 := h.1.2.2.2.2
  rcases tc_crn h0 a1 with ⟨e3, e2⟩ | ⟨c, hc, rfl, e3, e2⟩
  · exact ⟨1, 0, 0, tc_ym (tc_ym y 0 0 0) 0 0 1, by simp only [f_X2_move, e2, Option.bind_some, if_neg tc_k1], by simp only [f_X3_move, tc_leteq, e3, Option.bind_some, if_pos, f_X3_no, tc_b2], by decide, tc_th0, fun z => absurd z (by decide), tc_no h 1⟩
  · rcases tc_plc a2 with ⟨p3, p2⟩ | ⟨f, hf, rfl, p3, -, p2⟩
    · exact ⟨1, 0, 0, tc_ym (tc_ym y 0 0 0) 0 0 1, by simp only [f_X2_move, e2, Option.bind_some, if_pos, p2, if_neg tc_k1], by simp only [f_X3_move, tc_leteq, e3, Option.bind_some, if_neg tc_10, p3, if_pos, f_X3_no, tc_b2], by decide, tc_th0, fun z => absurd z (by decide), tc_no h 1⟩
    · rcases tc_plc a3 with ⟨q3, q2⟩ | ⟨t, ht, rfl, q3, -, q2⟩
      · exact ⟨1, 0, 0, tc_ym (tc_ym y 0 0 0) 0 0 1, by simp only [f_X2_move, e2, Option.bind_some, if_pos, p2, q2, if_neg tc_k1], by simp only [f_X3_move, tc_leteq, e3, Option.bind_some, if_neg tc_10, p3, q3, if_pos, f_X3_no, tc_b2], by decide, tc_th0, fun z => absurd z (by decide), tc_no h 1⟩
      · obtain ⟨v, v2, v3⟩ := h0.tk hc hf ht
        exact ⟨0, v, v, tc_ym y 0 0 0, by simp only [f_X2_move, e2, Option.bind_some, if_pos, p2, q2, tc_cl (show c ≤ 1000 by omega), if_pos (tc_g2 hc (show c ≤ 1000 by omega)), tc_leteq, v2], by simp only [f_X3_move, tc_leteq, e3, Option.bind_some, if_neg tc_10, p3, q3, v3], by decide, tc_th0, fun _ => rfl, pa, lv, h0⟩
theorem tc_Rl.beL {pa lv : Nat → Nat} {x : tc_X} {y : tc_Y} (h : tc_Rl pa lv x y) {f t : Nat} (hf : f < 16) (ht : t < 16) (n : Nat) : ∀ (k : Nat) (w u u' : Int32), k ≤ tc_nc x → tc_nc x - k < n → (w = -1 ∨ u = u') → ∃ v : Int32, lp_X2_best_16 n x (nI f) (nI t) w u (nI k) = some (0, v) ∧ lp_X3_best_33 n (nI f) (nI t) y w u' (nI k) = some (v, y) := by
  have h5 := h.1.2.2.2.2
  induction n with
  | zero => intro k w u u' _ h; omega
  | succ n ih =>
    intro k w u u' hk hn hw
    rw [lp_X2_best_16, lp_X3_best_33, h.1.2.2.1]
    by_cases e : k = tc_nc x
    · subst e
      rw [if_pos (nI_le (Nat.le_refl _) (by omega)), if_pos (nI_le (Nat.le_refl _) (by omega))]
      exact ⟨w, rfl, rfl⟩
    · have hkc : k < tc_nc x := by omega
      obtain ⟨v, v2, v3⟩ := h.tk hkc hf ht
      rw [if_neg (nI_ge (a := k) (by omega) (by omega)), if_neg (nI_ge (a := k) (by omega) (by omega)), tc_cl (show k ≤ 1000 by omega), if_pos (tc_g2 hkc (show k ≤ 1000 by omega)), tc_leteq, v2, v3]
      simp only [Option.bind_some, tc_leteq, nI_1]
      by_cases e1 : v = -1
      · rw [if_pos e1, if_pos e1]; exact ih (k + 1) w u u' (by omega) (by omega) hw
      · rw [if_neg e1, if_neg e1]
        by_cases e2 : w = -1
        · rw [if_pos e2, if_pos e2]; exact ih (k + 1) (nI k) v v (by omega) (by omega) (Or.inr rfl)
        · rw [if_neg e2, if_neg e2]
          have eu : u = u' := hw.elim (fun z => absurd z e2) (fun z => z)
          subst eu
          by_cases e3 : u ≤ v
          · rw [if_pos e3, if_neg (Int32.not_lt.mpr e3)]; exact ih (k + 1) w u u (by omega) (by omega) (Or.inr rfl)
          · rw [if_neg e3, if_pos (Int32.not_le.mp e3)]; exact ih (k + 1) (nI k) v v (by omega) (by omega) (Or.inr rfl)
theorem tc_op_best : op_best tc_R := by
  intro x y a2 a3 ⟨pa, lv, h⟩
  have h0 := h.th 0
  have h5 := h.1.2.2.2.2
  rcases tc_plc a2 with ⟨p3, p2⟩ | ⟨f, hf, rfl, p3, -, p2⟩
  · exact ⟨1, 0, 0, tc_ym (tc_ym y 0 0 0) 0 0 1, by simp only [f_X2_best, Option.bind_some, p2, if_neg tc_k1], by simp only [f_X3_best, tc_leteq, Option.bind_some, p3, if_pos, f_X3_no, tc_b2], by decide, tc_th0, fun z => absurd z (by decide), tc_no h 1⟩
  · rcases tc_plc a3 with ⟨q3, q2⟩ | ⟨t, ht, rfl, q3, -, q2⟩
    · exact ⟨1, 0, 0, tc_ym (tc_ym y 0 0 0) 0 0 1, by simp only [f_X2_best, Option.bind_some, if_pos, p2, q2, if_neg tc_k1], by simp only [f_X3_best, tc_leteq, Option.bind_some, if_neg tc_10, p3, q3, if_pos, f_X3_no, tc_b2], by decide, tc_th0, fun z => absurd z (by decide), tc_no h 1⟩
    · obtain ⟨v, v2, v3⟩ := h0.beL hf ht 100 0 (-1) (-1) 0 (Nat.zero_le _) (by omega) (Or.inl rfl)
      rw [nI_0] at v2 v3
      exact ⟨0, v, v, tc_ym y 0 0 0, by simp only [f_X2_best, Option.bind_some, if_pos, p2, q2]; exact v2, by simp only [f_X3_best, tc_leteq, Option.bind_some, if_neg tc_10, p3, q3]; exact v3, by decide, tc_th0, fun _ => rfl, pa, lv, h0⟩
