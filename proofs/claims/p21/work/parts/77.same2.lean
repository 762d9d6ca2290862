/-! The last look, second half. -/
theorem lk_sm_add {q q' q'' : Nat → Bool} {f : Nat → Int32} (n : Nat) (h : ∀ b, b < n → (q'' b = false ∧ q b = false ∧ q' b = false) ∨ (q'' b = true ∧ q b = true ∧ q' b = false) ∨ (q'' b = true ∧ q b = false ∧ q' b = true)) : tc_sm q f n + tc_sm q' f n = tc_sm q'' f n := by
  induction n with
  | zero => rfl
  | succ n ih =>
    show (tc_sm q f n + (if q n = true then f n else 0)) + (tc_sm q' f n + (if q' n = true then f n else 0)) = tc_sm q'' f n + (if q'' n = true then f n else 0)
    rw [← ih (fun b hb => h b (by omega))]
    have ft : ¬ (false = true) := by decide
    rcases h n (by omega) with ⟨a, b, c⟩ | ⟨a, b, c⟩ | ⟨a, b, c⟩
    · rw [a, b, c, if_neg ft, Int32.add_zero, Int32.add_zero, Int32.add_zero]
    · rw [a, b, c, if_neg ft, if_pos rfl, Int32.add_zero, Int32.add_assoc, Int32.add_comm (f n), ← Int32.add_assoc]
    · rw [a, b, c, if_neg ft, if_pos rfl, Int32.add_zero, ← Int32.add_assoc]
def lk_U4 (a b c d : Int32) : Nat → Int32 := upd (upd (upd (upd (fun _ : Nat => (0 : Int32)) 0 a) 1 b) 2 c) 3 d
theorem lk_U4v (a b c d : Int32) : lk_U4 a b c d 0 = a ∧ lk_U4 a b c d 1 = b ∧ lk_U4 a b c d 2 = c ∧ lk_U4 a b c d 3 = d := by
  unfold lk_U4
  refine ⟨?_, ?_, ?_, ?_⟩ <;> simp [upd]
def lk_U7 (a b c d e f g : Int32) : Nat → Int32 := upd (upd (upd (upd (upd (upd (upd (fun _ : Nat => (0 : Int32)) 0 a) 1 b) 2 c) 3 d) 4 e) 5 f) 6 g
theorem lk_U7v (a b c d e f g : Int32) : lk_U7 a b c d e f g 0 = a ∧ lk_U7 a b c d e f g 1 = b ∧ lk_U7 a b c d e f g 2 = c ∧ lk_U7 a b c d e f g 3 = d ∧ lk_U7 a b c d e f g 4 = e ∧ lk_U7 a b c d e f g 5 = f ∧ lk_U7 a b c d e f g 6 = g := by
  unfold lk_U7
  refine ⟨?_, ?_, ?_, ?_, ?_, ?_, ?_⟩ <;> simp [upd]
section LKT
variable {pa lv : Nat → Nat} {x : tc_X} {y : tc_Y} {z : tc_Z}
theorem lk_u4 (h : tc_Rl pa lv x y) {p : Nat} (hp : p < 16) {top : Int32} (et : tc_rd (f_X2_place x (nI p) 1) = some top) : ∀ w, w < 4 → tc_rd (f_X2_place x (nI p) (nI w)) = some (lk_U4 (nI (tc_cnt pa (tc_nb x) p)) top (tc_sm (fun b => decide (pa b = p)) (y 3) (tc_nb x)) (nI (tc_cy (y 12) (nI p) (tc_nc x))) w) := by
  intro w hw
  obtain ⟨g0, g1, g2, g3⟩ := lk_U4v (nI (tc_cnt pa (tc_nb x) p)) top (tc_sm (fun b => decide (pa b = p)) (y 3) (tc_nb x)) (nI (tc_cy (y 12) (nI p) (tc_nc x)))
  rcases (show w = 0 ∨ w = 1 ∨ w = 2 ∨ w = 3 by omega) with rfl | rfl | rfl | rfl
  · rw [g0]; exact h.place0 hp
  · rw [g1]; exact et
  · rw [g2]
    have e : tc_sm (fun b => decide (y 4 b = nI p)) (y 3) (tc_nb x) = tc_sm (fun b => decide (pa b = p)) (y 3) (tc_nb x) := tc_sm_congr _ (fun b hb => by
      by_cases w : pa b = p
      · rw [decide_eq_true w, decide_eq_true ((lk_y4 h hp hb).mpr w)]
      · rw [decide_eq_false w, decide_eq_false (fun z => w ((lk_y4 h hp hb).mp z))]) (fun _ _ => rfl)
    rw [← e]; exact h.place2 hp
  · rw [g3]; exact h.place3 hp
theorem S_13 (h : tc_Rl pa lv x y) (S : tc_S pa lv (tc_nb x) (tc_nc x) y z) (kc : Int32 → Int32 → Int32 → Option Int32) (n : Nat) : ∀ p m, p ≤ 16 → 16 - p < n → m ≤ 8 → tc_fo (tc_cnt pa (tc_nb x)) (16 - p) p m = tc_fo (tc_cnt pa (tc_nb x)) 16 0 0 → lp_S_isSame_13 n x z kc (nI p) (tc_sm (fun b => decide (pa b < p)) (y 3) (tc_nb x)) (nI m) (nI (tc_s16 (tc_cnt pa (tc_nb x)) p)) = kc (tc_sm (fun b => decide (pa b < 16)) (y 3) (tc_nb x)) (nI (tc_fo (tc_cnt pa (tc_nb x)) 16 0 0)) (nI (tc_s16 (tc_cnt pa (tc_nb x)) 16)) := by
  have en : tc_zn z = tc_nc x := S.1.2.2.1
  have B := S.2.1
  induction n with
  | zero => intro p m _ h; omega
  | succ n ih =>
    intro p m hp hn hm hF
    rw [lp_S_isSame_13]
    have c16 : (16 : Int32) ≤ nI p ↔ 16 ≤ p := nI_leI (a := 16) (by omega) (by omega)
    by_cases e1 : p = 16
    · subst e1
      rw [if_pos (c16.mpr (by omega))]
      have : m = tc_fo (tc_cnt pa (tc_nb x)) 16 0 0 := hF
      rw [this]
    · have hp16 : p < 16 := by omega
      have c8 := h.c8 hp16
      have i0 : nI (tc_cnt pa (tc_nb x) p) = 0 ↔ tc_cnt pa (tc_nb x) p = 0 := nI_eq (b := 0) (by omega) (by omega)
      have st := ih (p + 1) (max m (tc_cnt pa (tc_nb x) p)) (by omega) (by omega) (by omega) (by
        have e : 16 - p = (16 - (p + 1)) + 1 := by omega
        rw [e] at hF
        exact hF)
      have es : tc_s16 (tc_cnt pa (tc_nb x)) (p + 1) = tc_s16 (tc_cnt pa (tc_nb x)) p + tc_cnt pa (tc_nb x) p := rfl
      have ea : tc_sm (fun b => decide (pa b < p)) (y 3) (tc_nb x) + tc_sm (fun b => decide (pa b = p)) (y 3) (tc_nb x) = tc_sm (fun b => decide (pa b < p + 1)) (y 3) (tc_nb x) := lk_sm_add _ (fun b _ => by
        rcases (show p < pa b ∨ pa b < p ∨ pa b = p by omega) with w | w | w
        · exact Or.inl ⟨decide_eq_false (by omega), decide_eq_false (by omega), decide_eq_false (by omega)⟩
        · exact Or.inr (Or.inl ⟨decide_eq_true (by omega), decide_eq_true (by omega), decide_eq_false (by omega)⟩)
        · exact Or.inr (Or.inr ⟨decide_eq_true (by omega), decide_eq_false (by omega), decide_eq_true (by omega)⟩))
      rw [es, ← ea] at st
      rw [if_neg (fun z => e1 (by have := c16.mp z; omega)), tc_jneq, S_29a h S hp16 _ 0 rfl, tc_leteq, en, tc_jneq, S_163a h S _ 0 rfl, tc_cl (show p ≤ 1000 by omega), if_pos (tc_g2 hp16 (by omega)), (B p hp16).1, tc_leteq, tc_leteq, tc_leteq, tc_leteq, tc_leteq, tc_jneq, nI_add, tc_maxI (by omega) (by omega)]
      have fin : ∀ top, tc_rd (f_X2_place x (nI p) 1) = some top → tc_let (upd (upd (fun _ : Nat => (0 : Int32)) 0 (nI (tc_cnt pa (tc_nb x) p))) 1 top) (fun u160 => tc_let (upd u160 2 (tc_sm (fun b => decide (pa b = p)) (y 3) (tc_nb x))) (fun u161 => tc_let (upd u161 3 (nI (tc_cy (y 12) (nI p) (tc_nc x)))) (fun u162 => tc_jn (tc_let (nI p + 1) (fun v167 => lp_S_isSame_13 n x z kc v167 (tc_sm (fun b => decide (pa b < p)) (y 3) (tc_nb x) + tc_sm (fun b => decide (pa b = p)) (y 3) (tc_nb x)) (nI (max m (tc_cnt pa (tc_nb x) p))) (nI (tc_s16 (tc_cnt pa (tc_nb x)) p + tc_cnt pa (tc_nb x) p)))) (fun kc166 => lp_S_isSame_300 5 x (nI p) u162 kc166 0)))) = kc (tc_sm (fun b => decide (pa b < 16)) (y 3) (tc_nb x)) (nI (tc_fo (tc_cnt pa (tc_nb x)) 16 0 0)) (nI (tc_s16 (tc_cnt pa (tc_nb x)) 16)) := fun top et => by
        rw [tc_leteq, tc_leteq, tc_leteq, tc_jneq]
        have e300 := S_300a (lk_u4 h hp16 et) (tc_let (nI p + 1) (fun v167 => lp_S_isSame_13 n x z kc v167 (tc_sm (fun b => decide (pa b < p)) (y 3) (tc_nb x) + tc_sm (fun b => decide (pa b = p)) (y 3) (tc_nb x)) (nI (max m (tc_cnt pa (tc_nb x) p))) (nI (tc_s16 (tc_cnt pa (tc_nb x)) p + tc_cnt pa (tc_nb x) p)))) 0 rfl
        unfold lk_U4 at e300
        rw [e300, tc_leteq, nI_1]
        exact st
      rcases h.place1 hp16 with ⟨v, e⟩ | ⟨t, i, ht, hpt, hlt2, hcn, e⟩
      · rw [if_pos (i0.mpr v)]; exact fin _ e
      · have top : tc_zf z (5 + p) i = nI t := by
          have := (B p hp16).2 t ht hpt
          rw [hlt2] at this; exact this
        have e9 : nI (tc_cnt pa (tc_nb x) p) - (1 : Int32) = nI i := by
          rw [hcn]; exact pk_sub (a := i + 1) (b := 1) (by omega)
        rw [if_neg (fun z => by have := i0.mp z; omega), e9, tc_cl (show i ≤ 1000 by omega), if_pos (tc_g2 (show i < tc_cnt pa (tc_nb x) p by omega) (by omega)), top]
        exact fin _ e
theorem S_13a (h : tc_Rl pa lv x y) (S : tc_S pa lv (tc_nb x) (tc_nc x) y z) (kc : Int32 → Int32 → Int32 → Option Int32) (a : Int32) (ha : a = nI 0) : lp_S_isSame_13 17 x z kc a a a a = kc (tc_sm (fun b => decide (pa b < 16)) (y 3) (tc_nb x)) (nI (tc_fo (tc_cnt pa (tc_nb x)) 16 0 0)) (nI (tc_s16 (tc_cnt pa (tc_nb x)) 16)) := by
  subst ha
  have k := S_13 h S kc 17 0 0 (by decide) (by decide) (by decide) rfl
  rw [tc_sm_no _ (fun b _ => decide_eq_false (Nat.not_lt_zero _))] at k
  exact k
theorem S_339 (h : tc_Rl pa lv x y) (S : tc_S pa lv (tc_nb x) (tc_nc x) y z) (E : tc_Ex pa x y) (kc : Int32 → Int32 → Option Int32) (n : Nat) : ∀ k, k ≤ tc_nc x → tc_nc x - k < n → lp_S_isSame_339 n x z kc (nI k) (tc_sm (fun b => decide (pa b < 16 ∨ (pa b = 16 ∧ (x.1 14 b).toNatClampNeg < k))) (y 3) (tc_nb x)) (nI (tc_ldc (x.2.1 2) k)) = kc (tc_sm (fun b => decide (pa b < 16 ∨ (pa b = 16 ∧ (x.1 14 b).toNatClampNeg < tc_nc x))) (y 3) (tc_nb x)) (nI (tc_ldc (x.2.1 2) (tc_nc x))) := by
  have h5 := h.n5
  have h40 := h.n40
  have en : tc_zn z = tc_nc x := S.1.2.2.1
  have f2 := S.1.2.2.2.2
  have lN : tc_zl z 2 = tc_nb x := S.1.2.2.2.1
  induction n with
  | zero => intro k _ h; omega
  | succ n ih =>
    intro k hk hn
    rw [lp_S_isSame_339, en]
    by_cases e1 : k = tc_nc x
    · rw [e1, if_pos (nI_le (Nat.le_refl _) (by omega))]
    · have hkc : k < tc_nc x := by omega
      have row := S.2.2.1 k hkc
      obtain ⟨po, rr, d, wk, wo, q, H, C, hl⟩ := E.2 k hkc
      have str := lk_strong C row.2
      have f7 : tc_zf z (21 + k) 7 = y 14 k := row.2 7 (by decide)
      have st := ih (k + 1) (by omega) (by omega)
      have ec : tc_ldc (x.2.1 2) (k + 1) = tc_ldc (x.2.1 2) k + (if x.2.1 2 k = none then 0 else 1) := rfl
      have c14 : ∀ b, b < tc_nb x → pa b = 16 → (x.1 14 b).toNatClampNeg = k → x.2.1 2 k = some b := fun b hb w g => by
        rcases h.b14 hb with ⟨a, -⟩ | ⟨-, c, hc, a1, a2, -⟩
        · exact absurd w a
        · rw [a1, tc_cl (by omega)] at g
          rw [← g]; exact a2
      rw [if_neg (nI_ge (a := k) (by omega) (by omega)), tc_cl (show k ≤ 1000 by omega), if_pos (tc_g2 hkc (by omega)), tc_jneq, S_361a h hkc row _ 0 rfl, h.crane8 hkc, Option.bind_some, row.1, str, Option.bind_some, C.1.2.2.1, C.1.2.2.2.1, if_pos rfl, if_pos (show 7 < 8 by decide), tc_jneq, f7]
      rcases h.ld hkc with ⟨lnone, y14, -⟩ | ⟨j, ls, hj, y14, pj, -, ng, ge⟩
      · rw [y14, if_neg (show ¬ (0 : Int32) ≤ -1 by decide)]
        dsimp only
        rw [tc_leteq, nI_1]
        rw [ec, if_pos lnone, Nat.add_zero] at st
        have es : tc_sm (fun b => decide (pa b < 16 ∨ (pa b = 16 ∧ (x.1 14 b).toNatClampNeg < k))) (y 3) (tc_nb x) = tc_sm (fun b => decide (pa b < 16 ∨ (pa b = 16 ∧ (x.1 14 b).toNatClampNeg < k + 1))) (y 3) (tc_nb x) := tc_sm_congr _ (fun b hb => decide_eq_decide.mpr (by
          constructor
          · rintro (w | ⟨w1, w2⟩)
            · exact Or.inl w
            · exact Or.inr ⟨w1, by omega⟩
          · rintro (w | ⟨w1, w2⟩)
            · exact Or.inl w
            · refine Or.inr ⟨w1, ?_⟩
              by_cases g : (x.1 14 b).toNatClampNeg = k
              · have := c14 b hb w1 g
                rw [lnone] at this; cases this
              · omega)) (fun _ _ => rfl)
        rw [es]; exact st
      · have e14 : x.1 14 j = nI k := ((h.2.2.1 k hkc).2.2.2.2.2.2.2.2.2.2.2.2 j ls).2.2.2
        rw [ec, if_neg (show ¬ x.2.1 2 k = none by rw [ls]; simp)] at st
        have ub := lk_u5 h hj (a1 := tc_zf z 2 j) (a2 := -1) (a3 := 0) (a4 := nI k) (f2 j hj) (by rw [if_neg (show ¬ pa j < 16 by omega)]) (by rw [if_neg (show ¬ pa j < 16 by omega)]) e14.symm (by omega)
        have f7' : tc_zf z (21 + k) 7 = nI j := f7.trans y14
        have cj := tc_cl (show j ≤ 1000 by omega)
        rw [y14] at ge
        rw [y14, if_pos ge, tc_leteq, cj, lN, if_pos (tc_g2 hj (show j ≤ 1000 by omega)), tc_leteq, tc_leteq, tc_leteq, tc_leteq, tc_leteq, tc_leteq, tc_leteq]
        have e478 := S_478a (z := z) (k := k) (by omega) f7' ub (fun (w92 : Int32) (w93 : Int32) => tc_let (nI k + 1) (fun v97 => lp_S_isSame_339 n x z kc v97 w92 w93)) (nI (tc_ldc (x.2.1 2) k) + 1) (tc_sm (fun b => decide (pa b < 16 ∨ (pa b = 16 ∧ (x.1 14 b).toNatClampNeg < k))) (y 3) (tc_nb x) + tc_zf z 2 j) 0 rfl
        unfold lk_U5 at e478
        rw [e478, tc_leteq, nI_1, nI_1, f2 j hj]
        have hm : ∀ b, b < tc_nb x → b ≠ j → ¬ (pa b = 16 ∧ (x.1 14 b).toNatClampNeg = k) := fun b hb hne g => by
          have := c14 b hb g.1 g.2
          rw [ls] at this
          exact hne (Option.some.inj this).symm
        have es : tc_sm (fun b => decide (pa b < 16 ∨ (pa b = 16 ∧ (x.1 14 b).toNatClampNeg < k + 1))) (y 3) (tc_nb x) = y 3 j + tc_sm (fun b => decide (pa b < 16 ∨ (pa b = 16 ∧ (x.1 14 b).toNatClampNeg < k))) (y 3) (tc_nb x) := tc_sm_one _ hj (decide_eq_false (by
            rw [e14, tc_cl (by omega)]
            omega)) (decide_eq_true (Or.inr ⟨pj, by rw [e14, tc_cl (by omega)]; omega⟩)) (fun b hb hne => decide_eq_decide.mpr (by
          have := hm b hb hne
          omega))
        rw [Int32.add_comm, ← es]
        exact st
theorem S_339a (h : tc_Rl pa lv x y) (S : tc_S pa lv (tc_nb x) (tc_nc x) y z) (E : tc_Ex pa x y) (kc : Int32 → Int32 → Option Int32) (a : Int32) (ha : a = nI 0) : lp_S_isSame_339 6 x z kc a (tc_sm (fun b => decide (pa b < 16)) (y 3) (tc_nb x)) a = kc (tc_sm (fun b => decide (pa b ≠ 17)) (y 3) (tc_nb x)) (nI (tc_cnt pa (tc_nb x) 16)) := by
  subst ha
  have h5 := h.n5
  have k := S_339 h S E kc 6 0 (Nat.zero_le _) (by omega)
  have e1 : tc_sm (fun b => decide (pa b < 16 ∨ (pa b = 16 ∧ (x.1 14 b).toNatClampNeg < 0))) (y 3) (tc_nb x) = tc_sm (fun b => decide (pa b < 16)) (y 3) (tc_nb x) := tc_sm_congr _ (fun b _ => decide_eq_decide.mpr (by omega)) (fun _ _ => rfl)
  have e2 : tc_sm (fun b => decide (pa b < 16 ∨ (pa b = 16 ∧ (x.1 14 b).toNatClampNeg < tc_nc x))) (y 3) (tc_nb x) = tc_sm (fun b => decide (pa b ≠ 17)) (y 3) (tc_nb x) := tc_sm_congr _ (fun b hb => decide_eq_decide.mpr (by
    have k17 := (h.2.1 b hb).2.2.1
    rcases h.b14 hb with ⟨w, -⟩ | ⟨w, c, hc, w1, -⟩
    · omega
    · rw [w1, tc_cl (by omega)]; omega)) (fun _ _ => rfl)
  rw [e1, e2, ← h.2.2.2.2.2.2.2.1] at k
  exact k
theorem S_520 (h : tc_Rl pa lv x y) (S : tc_S pa lv (tc_nb x) (tc_nc x) y z) (kc : Option Int32) (n : Nat) : ∀ b, b ≤ tc_nb x → tc_nb x - b < n → lp_S_isSame_520 n x z kc (nI b) = kc := by
  have h40 := h.n40
  have lN : tc_zl z 2 = tc_nb x := S.1.2.2.2.1
  have f4 := S.2.2.2
  induction n with
  | zero => intro b _ h; omega
  | succ n ih =>
    intro b hb hn
    rw [lp_S_isSame_520, lN]
    by_cases e1 : b = tc_nb x
    · rw [e1, if_pos (nI_le (Nat.le_refl _) (by omega))]
    · have hbn : b < tc_nb x := by omega
      have st := ih (b + 1) (by omega) (by omega)
      rw [if_neg (nI_ge (a := b) (by omega) (by omega)), h.barrel4 hbn, Option.bind_some, tc_cl (show b ≤ 1000 by omega), if_pos (tc_g2 (show b < 40 by omega) (by omega)), f4 b (by omega)]
      dsimp only [tc_jn, tc_let]
      rw [nI_1]
      by_cases w : pa b = 17
      · have e14 : x.1 14 b = -1 := ((h.2.1 b hbn).2.2.2.2.2.1 w).2.2.2
        have c1 := h.barrel1 hbn
        have c2 := h.barrel2 hbn
        have c3 := h.barrel3 hbn
        rw [if_neg (show ¬ pa b < 16 by omega)] at c1 c2
        rw [e14] at c3
        rw [if_pos w, if_pos (show b < tc_nb x ∧ pa b = 17 from ⟨hbn, w⟩), if_neg tc_10, if_pos rfl, if_neg tc_10, c1, Option.bind_some, if_pos rfl, c2, Option.bind_some, if_pos rfl, c3, Option.bind_some, if_pos rfl]
        exact st
      · rw [if_neg w, if_neg (show ¬ (b < tc_nb x ∧ pa b = 17) from fun z => w z.2), if_pos rfl, if_pos rfl, if_pos rfl]
        exact st
theorem S_520a (h : tc_Rl pa lv x y) (S : tc_S pa lv (tc_nb x) (tc_nc x) y z) (kc : Option Int32) (a : Int32) (ha : a = nI 0) : lp_S_isSame_520 41 x z kc a = kc := by
  subst ha
  have h40 := h.n40
  exact S_520 h S kc 41 0 (Nat.zero_le _) (by omega)
theorem M_loop (h : tc_Rl pa lv x y) (n : Nat) : ∀ k, k ≤ tc_nb x → tc_nb x - k < n → lp_X2_mean_6 n x (tc_sm (fun b => decide (pa b ≠ 17)) (y 3) k) (nI (tc_s16 (tc_cnt pa k) 16 + tc_cnt pa k 16)) (nI k) = some (if nI (tc_s16 (tc_cnt pa (tc_nb x)) 16 + tc_cnt pa (tc_nb x) 16) = 0 then FP.dconst0 else FP.ddiv (FP.i2d (tc_sm (fun b => decide (pa b ≠ 17)) (y 3) (tc_nb x))) (FP.i2d (nI (tc_s16 (tc_cnt pa (tc_nb x)) 16 + tc_cnt pa (tc_nb x) 16)))) := by
  have h40 := h.n40
  induction n with
  | zero => intro k _ h; omega
  | succ n ih =>
    intro k hk hn
    rw [lp_X2_mean_6]
    by_cases e : k = tc_nb x
    · subst e
      rw [if_pos (nI_le (Nat.le_refl _) (by omega))]
      split <;> rfl
    · have hkb : k < tc_nb x := by omega
      have kb := h.2.1 k hkb
      have st := ih (k + 1) (by omega) (by omega)
      have em : tc_sm (fun b => decide (pa b ≠ 17)) (y 3) (k + 1) = tc_sm (fun b => decide (pa b ≠ 17)) (y 3) k + (if decide (pa k ≠ 17) = true then y 3 k else 0) := rfl
      have ec : tc_cnt pa (k + 1) 16 = tc_cnt pa k 16 + (if pa k = 16 then 1 else 0) := rfl
      rw [em, lk_s16, ec] at st
      rw [if_neg (nI_ge (a := k) (by omega) (by omega)), tc_cl (show k ≤ 1000 by omega), if_pos (tc_g2 hkb (show k ≤ 1000 by omega)), tc_leteq]
      dsimp only [tc_let]
      by_cases e1 : pa k = 17
      · rw [(kb.2.2.2.2.2.1 e1).2.2.1, if_neg tc_10, nI_1]
        rw [if_neg (show ¬ decide (pa k ≠ 17) = true by rw [e1]; decide), if_neg (show ¬ pa k < 16 by omega), if_neg (show ¬ pa k = 16 by omega), Int32.add_zero, Nat.add_zero, Nat.add_zero] at st
        exact st
      · have e15 : x.1 15 k = 0 := by
          rcases (show pa k < 16 ∨ pa k = 16 by have := kb.2.2.1; omega) with z | z
          · exact (kb.2.2.2.1 z).2.2.2.2.2.2.1
          · exact (kb.2.2.2.2.1 z).2.2.1
        rw [e15, if_pos rfl, nI_1, nI_1, kb.2.1]
        rw [if_pos (decide_eq_true e1), show tc_s16 (tc_cnt pa k) 16 + (if pa k < 16 then 1 else 0) + (tc_cnt pa k 16 + (if pa k = 16 then 1 else 0)) = tc_s16 (tc_cnt pa k) 16 + tc_cnt pa k 16 + 1 from by
          rcases (show pa k < 16 ∨ pa k = 16 by have := kb.2.2.1; omega) with z | z
          · rw [if_pos z, if_neg (show ¬ pa k = 16 by omega)]; omega
          · rw [if_neg (show ¬ pa k < 16 by omega), if_pos z]; omega] at st
        exact st
theorem lk_same {t : Nat} (J : tc_J pa lv x y z t) : f_S_isSame x z = some 1 := by
  obtain ⟨h, S, E, et⟩ := J
  have h40 := h.n40
  have hall := h.all
  have en : tc_zn z = tc_nc x := S.1.2.2.1
  have lN : tc_zl z 2 = tc_nb x := S.1.2.2.2.1
  have s0 : z.1 0 = y 1 0 := S.1.1
  have s1 : z.1 1 = nI (tc_cnt pa (tc_nb x) 17) := S.1.2.1
  have hu : ∀ w, w < 7 → tc_rd (f_X2_count x (nI w)) = some (lk_U7 (y 1 0) (nI (tc_nb x)) (nI (tc_s16 (tc_cnt pa (tc_nb x)) 16)) (nI (tc_cnt pa (tc_nb x) 16)) (nI (tc_cnt pa (tc_nb x) 17)) (nI (tc_nc x)) (nI (tc_fo (tc_cnt pa (tc_nb x)) 16 0 0)) w) := by
    intro w hw
    obtain ⟨g0, g1, g2, g3, g4, g5, g6⟩ := lk_U7v (y 1 0) (nI (tc_nb x)) (nI (tc_s16 (tc_cnt pa (tc_nb x)) 16)) (nI (tc_cnt pa (tc_nb x) 16)) (nI (tc_cnt pa (tc_nb x) 17)) (nI (tc_nc x)) (nI (tc_fo (tc_cnt pa (tc_nb x)) 16 0 0))
    rcases (show w = 0 ∨ w = 1 ∨ w = 2 ∨ w = 3 ∨ w = 4 ∨ w = 5 ∨ w = 6 by omega) with rfl | rfl | rfl | rfl | rfl | rfl | rfl
    · rw [g0]; exact h.count0
    · rw [g1]; exact h.count1
    · rw [g2]; exact h.count2
    · rw [g3]; exact h.count3
    · rw [g4]; exact h.count4
    · rw [g5]; exact h.count5
    · rw [g6]; exact h.count6
  have em : f_X2_mean x = some (if nI (tc_s16 (tc_cnt pa (tc_nb x)) 16 + tc_cnt pa (tc_nb x) 16) = 0 then FP.dconst0 else FP.ddiv (FP.i2d (tc_sm (fun b => decide (pa b ≠ 17)) (y 3) (tc_nb x))) (FP.i2d (nI (tc_s16 (tc_cnt pa (tc_nb x)) 16 + tc_cnt pa (tc_nb x) 16)))) := by
    have k := M_loop h 100 0 (Nat.zero_le _) (by omega)
    rw [show tc_s16 (tc_cnt pa 0) 16 = 0 from tc_s16_0 16] at k
    exact k
  unfold f_S_isSame
  rw [tc_jneq, S_13a h S _ 0 rfl, tc_jneq, S_339a h S E _ 0 rfl, tc_jneq, S_520a h S _ 0 rfl, tc_leteq, tc_leteq, tc_leteq, tc_leteq, tc_leteq, tc_leteq, tc_leteq, tc_leteq, tc_jneq, s0, lN, s1, en, nI_add]
  have e658 := S_658a hu (Option.bind (f_X2_mean x) (fun v37 => (if isNaN64 v37 = false ∧ Op.cmpValue (FP.dcmp v37 v37) .l = 0 ∧ v37 = (if nI (tc_s16 (tc_cnt pa (tc_nb x)) 16 + tc_cnt pa (tc_nb x) 16) = 0 then FP.dconst0 else FP.ddiv (FP.i2d (tc_sm (fun b => decide (pa b ≠ 17)) (y 3) (tc_nb x))) (FP.i2d (nI (tc_s16 (tc_cnt pa (tc_nb x)) 16 + tc_cnt pa (tc_nb x) 16)))) then some (1 : Int32) else none))) 0 rfl
  unfold lk_U7 at e658
  rw [e658, em, Option.bind_some]
  obtain ⟨n1, n2⟩ := lk_mean0 (tc_sm (fun b => decide (pa b ≠ 17)) (y 3) (tc_nb x)) (m := tc_s16 (tc_cnt pa (tc_nb x)) 16 + tc_cnt pa (tc_nb x) 16) (by omega) rfl
  rw [if_pos ⟨n1, n2, rfl⟩]
end LKT
