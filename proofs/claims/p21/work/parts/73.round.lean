/-! The cranes after an act; the rounds. -/
section LKG
variable {pa lv : Nat → Nat} {x : tc_X} {y : tc_Y}
theorem P_958 (h : tc_Rl pa lv x y) (E : tc_Ex pa x y) {f t : Nat} (hf : f < 16) (ht : t < 16) {bv : Int32} (B : lk_B (lk_m x f t) (tc_nc x) bv) (kc : Option Int32) (n : Nat) : ∀ c, c ≤ tc_nc x → tc_nc x - c < n → lp_L_law_958 n x (nI (tc_nc x)) (nI (tc_s16 (tc_cnt pa (tc_nb x)) 16)) (nI f) (nI t) bv kc (nI c) = kc := by
  have h40 := h.n40
  have h5 := h.n5
  have hall := h.all
  induction n with
  | zero => intro c _ h; omega
  | succ n ih =>
    intro c hc0 hn
    rw [lp_L_law_958]
    by_cases e1 : c = tc_nc x
    · subst e1; rw [if_pos (nI_le (Nat.le_refl _) (by omega))]
    · have hc : c < tc_nc x := by omega
      have st := ih (c + 1) (by omega) (by omega)
      obtain ⟨po, rr, d, wk, wo, q, H, ⟨⟨e7, e8, e9, e10, e11, e12, e13⟩, q1, q2, q3, q4, q5, q6, q7, q8⟩, hl⟩ := E.2 c hc
      have m1 := lk_move h E hc hf ht
      have a0 : tc_rd (f_X2_crane x (nI c) 0) = some (y 7 c) := h.crane hc (w := 0) (by decide)
      have a1 : tc_rd (f_X2_crane x (nI c) 1) = some (y 8 c) := h.crane hc (w := 1) (by decide)
      have a2 : tc_rd (f_X2_crane x (nI c) 2) = some (y 9 c) := h.crane hc (w := 2) (by decide)
      have a3 : tc_rd (f_X2_crane x (nI c) 3) = some (y 10 c) := h.crane hc (w := 3) (by decide)
      have a4 : tc_rd (f_X2_crane x (nI c) 4) = some (y 11 c) := h.crane hc (w := 4) (by decide)
      have a5 : tc_rd (f_X2_crane x (nI c) 5) = some (y 12 c) := h.crane hc (w := 5) (by decide)
      have a6 : tc_rd (f_X2_crane x (nI c) 6) = some (y 13 c) := h.crane hc (w := 6) (by decide)
      have a7 : tc_rd (f_X2_crane x (nI c) 7) = some (y 14 c) := h.crane hc (w := 7) (by decide)
      have a8 := h.crane8 hc
      obtain ⟨wi, ewi, hwi⟩ := lk_within h hc
      have ela := h.lasts hc
      have hl1 : tc_ld x c ≤ 1 := by unfold tc_ld; split <;> omega
      have c8 := h.c8 q6
      have nd : ¬ nI d = 0 := nI_ne0 (n := d) (by omega) (by omega)
      have nlow : ∀ l, l = tc_ld x c → ¬ nI H < nI (tc_cnt pa (tc_nb x) q) + nI l := fun l el z => by
        rw [nI_add] at z
        have := (nI_ltI (by omega) (by omega)).mp z
        omega
      have nrch : ¬ nI rr < tc_abs (nI q - nI po) := fun z => by
        rw [lk_absI q6 q1] at z
        have := (nI_ltI (by omega) (by omega)).mp z
        omega
      have nwi : ¬ nI (tc_s16 (tc_cnt pa (tc_nb x)) 16) < nI wi := fun z => by
        have := (nI_ltI (by omega) (by omega)).mp z
        omega
      rw [if_neg (nI_ge (a := c) (by omega) (by omega)), m1, Option.bind_some, a5, Option.bind_some, a6, Option.bind_some, e12, h.place0 q6, Option.bind_some, a7, Option.bind_some]
      dsimp only [tc_jn, tc_let]
      rw [a0, a1, a2, a3, a4, a8, ewi, ela, e7, e8, e9, e10, e11, e13]
      dsimp only [Option.bind_some]
      have M := (lk_mS h E hc hf ht).2
      -- what follows the checks of the crane itself
      have tail : ∀ K : Option Int32, (if lk_m x f t c < 0 then K else (if bv < 0 then none else Option.bind (tc_rd (f_X2_move x bv (nI f) (nI t))) (fun r191 => (if lk_m x f t c < r191 then none else Option.bind (tc_rd (f_X2_move x bv (nI f) (nI t))) (fun r194 => (if r194 = lk_m x f t c then (if nI c < bv then none else Option.bind (tc_rd (f_X2_place x (nI f) 0)) (fun r199 => (if r199 = 0 then none else (if tc_abs (nI f - nI t) ≤ lk_m x f t c then K else none)))) else Option.bind (tc_rd (f_X2_place x (nI f) 0)) (fun r199 => (if r199 = 0 then none else (if tc_abs (nI f - nI t) ≤ lk_m x f t c then K else none))))))))) = K := fun K => by
        rcases M with w | ⟨T, w1, w2, w3, w4⟩
        · rw [w, if_pos (show (-1 : Int32) < 0 by decide)]
        · have mne : lk_m x f t c ≠ -1 := by rw [w1]; exact (tc_nIneg (by omega)).1
          rcases B with ⟨-, b2⟩ | ⟨b, b1, b2, b3, b4⟩
          · exact absurd (b2 c hc) mne
          · obtain ⟨g1, g2⟩ := b4 c hc mne
            have f8 := h.c8 hf
            have n0 : ¬ nI (tc_cnt pa (tc_nb x) f) = 0 := nI_ne0 (by omega) (by omega)
            have ab : tc_abs (nI f - nI t) ≤ nI T := by rw [lk_absI hf ht]; exact (nI_leI (by omega) (by omega)).mpr w4
            have hin : Option.bind (tc_rd (f_X2_place x (nI f) 0)) (fun r199 => (if r199 = 0 then none else (if tc_abs (nI f - nI t) ≤ lk_m x f t c then K else none))) = K := by
              rw [h.place0 hf, Option.bind_some, if_neg n0, w1, if_pos ab]
            rw [hin, if_neg (show ¬ lk_m x f t c < 0 by rw [w1]; exact nI_pos (by omega)), b1, if_neg (show ¬ nI b < 0 from nI_pos (by omega)), lk_move h E b2 hf ht, Option.bind_some, Option.bind_some, if_neg (Int32.not_lt.mpr g1)]
            by_cases g : lk_m x f t b = lk_m x f t c
            · rw [if_pos g, if_neg (fun z => by have := (nI_ltI (by omega) (by omega)).mp z; have := g2 g; omega)]
            · rw [if_neg g]
      rcases h.ld hc with ⟨-, y14, l0⟩ | ⟨j, -, -, -, -, l1, -, ng⟩
      · rw [y14, if_neg (show ¬ (0 : Int32) ≤ -1 by decide), if_neg (show ¬ nI H < nI (tc_cnt pa (tc_nb x) q) + 0 from nlow 0 l0.symm), if_neg nrch, if_pos nd, if_pos rfl, if_neg nwi, if_pos rfl, nI_1]
        rw [tail]; exact st
      · rw [if_pos ng, if_neg (show ¬ nI H < nI (tc_cnt pa (tc_nb x) q) + 1 from nlow 1 l1.symm), if_neg nrch, if_pos nd, if_pos rfl, if_neg nwi, if_pos rfl, nI_1]
        rw [tail]; exact st
theorem P_958a (h : tc_Rl pa lv x y) (E : tc_Ex pa x y) {f t : Nat} (hf : f < 16) (ht : t < 16) {bv : Int32} (B : lk_B (lk_m x f t) (tc_nc x) bv) (kc : Option Int32) (a : Int32) (ha : a = nI 0) : lp_L_law_958 6 x (nI (tc_nc x)) (nI (tc_s16 (tc_cnt pa (tc_nb x)) 16)) (nI f) (nI t) bv kc a = kc := by
  subst ha
  have h5 := h.n5
  exact P_958 h E hf ht B kc 6 0 (Nat.zero_le _) (by omega)
end LKG
