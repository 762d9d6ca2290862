/-! The law's loops after an act: barrels, places, cranes. -/
section LKE
variable {pa lv : Nat → Nat} {x : tc_X} {y : tc_Y}
theorem P_526 (h : tc_Rl pa lv x y) (kc : Int32 → Int32 → Option Int32) (n : Nat) : ∀ b, b ≤ tc_nb x → tc_nb x - b < n → lp_L_law_526 n x (nI (tc_nb x)) kc (nI b) (nI (tc_cnt pa b 16)) (nI (tc_s16 (tc_cnt pa b) 16)) = kc (nI (tc_cnt pa (tc_nb x) 16)) (nI (tc_s16 (tc_cnt pa (tc_nb x)) 16)) := by
  have h40 := h.n40
  have h5 := h.n5
  induction n with
  | zero => intro b _ h; omega
  | succ n ih =>
    intro b hb hn
    rw [lp_L_law_526]
    by_cases e1 : b = tc_nb x
    · subst e1; rw [if_pos (nI_le (Nat.le_refl _) (by omega))]
    · have hbn : b < tc_nb x := by omega
      have st := ih (b + 1) (by omega) (by omega)
      have k := h.2.1 b hbn
      have ec : tc_cnt pa (b + 1) 16 = tc_cnt pa b 16 + (if pa b = 16 then 1 else 0) := rfl
      have es := lk_s16 pa b
      have c1 := h.barrel1 hbn
      have c2 := h.barrel2 hbn
      have c3 := h.barrel3 hbn
      have c4 := h.barrel4 hbn
      have z0 : ∀ m, nI m + 0 = nI m := fun m => by rw [show (0 : Int32) = nI 0 from rfl, nI_add]; rfl
      rw [if_neg (nI_ge (a := b) (by omega) (by omega)), c1, Option.bind_some, c3, Option.bind_some]
      dsimp only [tc_jn, tc_let]
      rw [c4, c2]
      rcases (show pa b < 16 ∨ pa b = 16 ∨ pa b = 17 by have := k.2.2.1; omega) with w | w | w
      · obtain ⟨-, -, -, -, q5, q6, -⟩ := k.2.2.2.1 w
        have hng : ¬ nI (pa b) < 0 := nI_pos (by omega)
        have hge : 0 ≤ nI (pa b) := Int32.not_lt.mp hng
        have c8 := h.c8 w
        have hlt : ¬ nI (tc_cnt pa (tc_nb x) (pa b)) ≤ nI (tc_cnt pa (tc_nb x) (pa b) - 1 - lv b) := fun z => by
          have := (nI_leI (by omega) (by omega)).mp z
          omega
        rw [if_pos w, if_pos w, q6, if_neg hng, if_pos (show (-1 : Int32) < 0 by decide), if_neg (show ¬ pa b = 17 by omega), Option.bind_some]
        rw [if_pos (show (1 : Int32) + 0 + 0 = 1 by decide), if_pos (show (-1 : Int32) < 0 by decide), if_neg hng, Option.bind_some, h.place0 w, Option.bind_some, if_neg hlt, if_pos hge, if_neg hng, Option.bind_some]
        rw [ec, es, if_neg (show ¬ pa b = 16 by omega), if_pos w, Nat.add_zero] at st
        rcases h.place1 w with ⟨v, -⟩ | ⟨t, i, ht, hpt, hlt2, hcn, e⟩
        · omega
        · have hm : (-1 : Int32) < 0 := by decide
          have i1 : nI (tc_cnt pa (tc_nb x) (pa b) - 1 - lv b) = 0 ↔ tc_cnt pa (tc_nb x) (pa b) - 1 - lv b = 0 := nI_eq (b := 0) (by omega) (by omega)
          have i2 : nI t = nI b ↔ t = b := nI_eq (by omega) (by omega)
          have i3 : t = b ↔ tc_cnt pa (tc_nb x) (pa b) - 1 - lv b = 0 := ⟨fun z => by rw [z] at hlt2; omega, fun z => h.2.2.2.2.2.1 t b ht hbn hpt (by omega) (by omega)⟩
          by_cases g : t = b
          · simp only [e, Option.bind_some, if_pos (i2.mpr g), if_pos (i1.mpr (i3.mp g)), if_neg hng, if_pos hm, if_pos, nI_1, z0]; exact st
          · simp only [e, Option.bind_some, if_neg (fun z => g (i2.mp z)), if_neg (fun z => g (i3.mpr (i1.mp z))), if_neg hng, if_pos hm, if_pos, nI_1, z0]; exact st
      · obtain ⟨-, -, -, c, hc, e14, e2⟩ := k.2.2.2.2.1 w
        have hng : ¬ nI c < 0 := nI_pos (by omega)
        have e7 : tc_rd (f_X2_crane x (nI c) 7) = some (nI b) := by
          have q : tc_rd (f_X2_crane x (nI c) 7) = some (y 14 c) := h.crane hc (w := 7) (by decide)
          rw [q, ((h.2.2.1 c hc).2.2.2.2.2.2.2.2.2.2.2.2 b e2).2.1]
        rw [ec, es, if_pos w, if_neg (show ¬ pa b < 16 by omega), Nat.add_zero] at st
        rw [if_neg (show ¬ pa b < 16 by omega), if_neg (show ¬ pa b < 16 by omega), e14, if_pos (show (-1 : Int32) < 0 by decide), if_neg hng, if_neg (show ¬ pa b = 17 by omega), Option.bind_some]
        rw [if_pos (show (0 : Int32) + 1 + 0 = 1 by decide), if_neg hng, e7, Option.bind_some, if_pos rfl, if_pos (show (-1 : Int32) < 0 by decide), if_neg (show ¬ (0 : Int32) ≤ -1 by decide), Option.bind_some, if_pos rfl, if_pos (show (-1 : Int32) < 0 by decide), if_neg hng, nI_1, nI_1, z0]
        exact st
      · obtain ⟨-, -, -, e14⟩ := k.2.2.2.2.2.1 w
        rw [ec, es, if_neg (show ¬ pa b = 16 by omega), if_neg (show ¬ pa b < 16 by omega), Nat.add_zero, Nat.add_zero] at st
        rw [if_neg (show ¬ pa b < 16 by omega), if_neg (show ¬ pa b < 16 by omega), e14, if_pos (show (-1 : Int32) < 0 by decide), if_pos w, Option.bind_some]
        rw [if_pos (show (0 : Int32) + 0 + 1 = 1 by decide), if_pos (show (-1 : Int32) < 0 by decide), if_neg (show ¬ (0 : Int32) ≤ -1 by decide), Option.bind_some, if_pos rfl, nI_1, z0, z0]
        exact st
theorem P_526a (h : tc_Rl pa lv x y) (kc : Int32 → Int32 → Option Int32) (a : Int32) (ha : a = nI 0) : lp_L_law_526 41 x (nI (tc_nb x)) kc a a a = kc (nI (tc_cnt pa (tc_nb x) 16)) (nI (tc_s16 (tc_cnt pa (tc_nb x)) 16)) := by
  subst ha
  have h40 := h.n40
  have e : tc_s16 (tc_cnt pa 0) 16 = 0 := tc_s16_0 16
  have st := P_526 h kc 41 0 (Nat.zero_le _) (by omega)
  rw [e] at st
  exact st
/-- what stands upon a place weighs something -/
theorem lk_sm (h : tc_Rl pa lv x y) (E : tc_Ex pa x y) {p : Nat} (hp : p < 16) : ∀ n, n ≤ tc_nb x → ∃ W, W ≤ 60 * n ∧ tc_sm (fun b => decide (y 4 b = nI p)) (y 3) n = nI W ∧ (W = 0 ↔ tc_cnt pa n p = 0) := by
  have h40 := h.n40
  intro n
  induction n with
  | zero => intro _; exact ⟨0, Nat.le_refl _, rfl, ⟨fun _ => rfl, fun _ => rfl⟩⟩
  | succ n ih =>
    intro hn
    obtain ⟨W, w1, w2, w3⟩ := ih (by omega)
    obtain ⟨w, g1, g2, g3⟩ := E.1 n (by omega)
    have k := h.2.1 n (by omega)
    have e4 : y 4 n = nI p ↔ pa n = p := by
      rcases (show pa n < 16 ∨ pa n = 16 ∨ pa n = 17 by have := k.2.2.1; omega) with e | e | e
      · rw [(k.2.2.2.1 e).1]; exact nI_eq (by omega) (by omega)
      · rw [(k.2.2.2.2.1 e).1]
        exact ⟨fun z => absurd z.symm (tc_nIneg (p := p) (by omega)).1, fun z => by omega⟩
      · rw [(k.2.2.2.2.2.1 e).1]
        exact ⟨fun z => absurd z.symm (tc_nIneg (p := p) (by omega)).2.1, fun z => by omega⟩
    have ec : tc_cnt pa (n + 1) p = tc_cnt pa n p + (if pa n = p then 1 else 0) := rfl
    have em : tc_sm (fun b => decide (y 4 b = nI p)) (y 3) (n + 1) = tc_sm (fun b => decide (y 4 b = nI p)) (y 3) n + (if decide (y 4 n = nI p) = true then y 3 n else 0) := rfl
    rw [ec, em, w2]
    by_cases e : pa n = p
    · rw [if_pos e, if_pos (decide_eq_true (e4.mpr e)), g3, nI_add]
      exact ⟨W + w, by omega, rfl, by omega⟩
    · rw [if_neg e, if_neg (fun z => e (e4.mp (of_decide_eq_true z))), show nI W + 0 = nI W from by rw [show (0 : Int32) = nI 0 from rfl, nI_add]; rfl]
      exact ⟨W, by omega, rfl, by omega⟩
/-- the hooks, place by place -/
def lk_hk (y : tc_Y) (n : Nat) : Nat → Nat
  | 0 => 0
  | p + 1 => lk_hk y n p + tc_cy (y 12) (nI p) n
theorem lk_hkS (y : tc_Y) (P : Nat) (hP : P ≤ 16) : ∀ n, (∀ k, k < n → ∃ q, q < P ∧ y 12 k = nI q) → lk_hk y n P = n := by
  have a1 : ∀ n q P, q < 16 → P ≤ 16 → y 12 n = nI q → lk_hk y (n + 1) P = lk_hk y n P + (if q < P then 1 else 0) := by
    intro n q P hq
    induction P with
    | zero => intro _ _; rfl
    | succ P ih =>
      intro hP e
      show lk_hk y (n + 1) P + (tc_cy (y 12) (nI P) n + (if y 12 n = nI P then 1 else 0)) = lk_hk y n P + tc_cy (y 12) (nI P) n + _
      rw [ih (by omega) e, e]
      by_cases g : q = P
      · rw [if_neg (show ¬ q < P by omega), if_pos (show nI q = nI P by rw [g]), if_pos (show q < P + 1 by omega)]; omega
      · rw [if_neg (fun z => g ((nI_eq (by omega) (by omega)).mp z))]
        by_cases g2 : q < P
        · rw [if_pos g2, if_pos (by omega)]; omega
        · rw [if_neg g2, if_neg (by omega)]; omega
  intro n
  induction n with
  | zero =>
    intro _
    have z : ∀ P, lk_hk y 0 P = 0 := fun P => by
      induction P with
      | zero => rfl
      | succ P ih => show lk_hk y 0 P + 0 = 0; rw [ih]
    exact z P
  | succ n ih =>
    intro hq
    obtain ⟨q, q1, q2⟩ := hq n (by omega)
    rw [a1 n q P (by omega) hP q2, ih (fun k hk => hq k (by omega)), if_pos q1]
theorem P_730 (h : tc_Rl pa lv x y) (E : tc_Ex pa x y) (kc : Int32 → Int32 → Option Int32) (n : Nat) : ∀ p, p ≤ 16 → 16 - p < n → lp_L_law_730 n x kc (nI p) (nI (lk_hk y (tc_nc x) p)) (nI (tc_s16 (tc_cnt pa (tc_nb x)) p)) = kc (nI (lk_hk y (tc_nc x) 16)) (nI (tc_s16 (tc_cnt pa (tc_nb x)) 16)) := by
  have h40 := h.n40
  induction n with
  | zero => intro p _ h; omega
  | succ n ih =>
    intro p hp hn
    rw [lp_L_law_730]
    have c16 : (16 : Int32) ≤ nI p ↔ 16 ≤ p := nI_leI (a := 16) (by omega) (by omega)
    by_cases e1 : p = 16
    · subst e1; rw [if_pos (c16.mpr (by omega))]
    · have hp16 : p < 16 := by omega
      have st := ih (p + 1) (by omega) (by omega)
      have eh : lk_hk y (tc_nc x) (p + 1) = lk_hk y (tc_nc x) p + tc_cy (y 12) (nI p) (tc_nc x) := rfl
      have es : tc_s16 (tc_cnt pa (tc_nb x)) (p + 1) = tc_s16 (tc_cnt pa (tc_nb x)) p + tc_cnt pa (tc_nb x) p := rfl
      rw [eh, es] at st
      have c8 := h.c8 hp16
      have fs := tc_fo_spec (tc_cnt pa (tc_nb x)) 16 0 0
      have f8 : tc_fo (tc_cnt pa (tc_nb x)) 16 0 0 ≤ 8 := tc_fo8 _ _ (fun s _ _ => h.c8 (by omega))
      have g1 : ¬ (8 : Int32) < nI (tc_cnt pa (tc_nb x) p) := fun z => by
        have := (nI_ltI (a := 8) (by omega) (by omega)).mp z
        omega
      have g2 : ¬ nI (tc_fo (tc_cnt pa (tc_nb x)) 16 0 0) < nI (tc_cnt pa (tc_nb x) p) := fun z => by
        have := (nI_ltI (by omega) (by omega)).mp z
        have := fs.2.1 p (Nat.zero_le _) (by omega)
        omega
      have i0 : nI (tc_cnt pa (tc_nb x) p) = 0 ↔ tc_cnt pa (tc_nb x) p = 0 := nI_eq (b := 0) (by omega) (by omega)
      obtain ⟨W, w1, w2, w3⟩ := lk_sm h E hp16 _ (Nat.le_refl _)
      have iW : nI W = 0 ↔ W = 0 := nI_eq (b := 0) (by omega) (by omega)
      have p2 := h.place2 hp16
      rw [w2] at p2
      rw [if_neg (fun z => e1 (by have := c16.mp z; omega)), h.place0 hp16, h.place3 hp16, h.count6]
      dsimp only [tc_jn, tc_let, Option.bind_some]
      rw [if_neg g1, if_neg g2, p2]
      rcases h.place1 hp16 with ⟨v, e⟩ | ⟨t, i, ht, hpt, hlt2, hcn, e⟩
      · rw [e]
        dsimp only [Option.bind_some]
        rw [if_pos (i0.mpr v), if_neg (show ¬ (0 : Int32) ≤ -1 by decide), if_pos rfl, if_pos (i0.mpr v), if_pos (iW.mpr (w3.mpr v)), if_pos rfl, nI_add, nI_add, nI_1]
        exact st
      · rw [e]
        dsimp only [Option.bind_some]
        have n0 : ¬ tc_cnt pa (tc_nb x) p = 0 := by omega
        rw [if_neg (fun z => n0 (i0.mp z)), if_pos (show (0 : Int32) ≤ nI t from Int32.not_lt.mp (nI_pos (by omega))), if_pos rfl, if_neg (fun z => n0 (i0.mp z)), if_neg (fun z => n0 (w3.mp (iW.mp z))), if_pos rfl, nI_add, nI_add, nI_1]
        exact st
theorem P_730a (h : tc_Rl pa lv x y) (E : tc_Ex pa x y) (kc : Int32 → Int32 → Option Int32) (a : Int32) (ha : a = nI 0) : lp_L_law_730 17 x kc a a a = kc (nI (tc_nc x)) (nI (tc_s16 (tc_cnt pa (tc_nb x)) 16)) := by
  subst ha
  have st := P_730 h E kc 17 0 (by decide) (by decide)
  rw [lk_hkS y 16 (Nat.le_refl _) (tc_nc x) (fun k hk => (h.2.2.1 k hk).2.2.2.2.2.2.2.2.2.1)] at st
  exact st
end LKE
