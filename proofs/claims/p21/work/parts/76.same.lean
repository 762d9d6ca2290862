/-! The last look: every call of the class tells what the law's own wharf holds. -/
section LKQ
variable {pa lv : Nat → Nat} {x : tc_X} {y : tc_Y} {z : tc_Z}
theorem S_113 {b : Nat} {u : Nat → Int32} (hu : ∀ w, w < 5 → tc_rd (f_X2_barrel x (nI b) (nI w)) = some (u w)) (kc : Option Int32) (n : Nat) : ∀ w, w ≤ 5 → 5 - w < n → lp_S_isSame_113 n x (nI b) u kc (nI w) = kc := by
  induction n with
  | zero => intro w _ h; omega
  | succ n ih =>
    intro w hw hn
    rw [lp_S_isSame_113]
    have c5 : (5 : Int32) ≤ nI w ↔ 5 ≤ w := nI_leI (a := 5) (by omega) (by omega)
    by_cases e1 : w = 5
    · rw [if_pos (c5.mpr (by omega))]
    · rw [if_neg (fun z => e1 (by have := c5.mp z; omega)), hu w (by omega), Option.bind_some, tc_cl (show w ≤ 1000 by omega), if_pos (tc_g2 (show w < 5 by omega) (by omega)), if_pos rfl, tc_leteq, nI_1]
      exact ih (w + 1) (by omega) (by omega)
theorem S_113a {b : Nat} {u : Nat → Int32} (hu : ∀ w, w < 5 → tc_rd (f_X2_barrel x (nI b) (nI w)) = some (u w)) (kc : Option Int32) (a : Int32) (ha : a = nI 0) : lp_S_isSame_113 6 x (nI b) u kc a = kc := by
  subst ha; exact S_113 hu kc 6 0 (by decide) (by decide)
theorem S_478 {b k : Nat} {u : Nat → Int32} (hk : k ≤ 1000) (hb : tc_zf z (21 + k) 7 = nI b) (hu : ∀ w, w < 5 → tc_rd (f_X2_barrel x (nI b) (nI w)) = some (u w)) (kc : Int32 → Int32 → Option Int32) (v1 v2 : Int32) (n : Nat) : ∀ w, w ≤ 5 → 5 - w < n → lp_S_isSame_478 n x z (nI k) kc v1 v2 u (nI w) = kc v2 v1 := by
  induction n with
  | zero => intro w _ h; omega
  | succ n ih =>
    intro w hw hn
    rw [lp_S_isSame_478]
    have c5 : (5 : Int32) ≤ nI w ↔ 5 ≤ w := nI_leI (a := 5) (by omega) (by omega)
    by_cases e1 : w = 5
    · rw [if_pos (c5.mpr (by omega))]
    · rw [if_neg (fun z => e1 (by have := c5.mp z; omega)), tc_cl hk, hb, hu w (by omega), Option.bind_some, tc_cl (show w ≤ 1000 by omega), if_pos (tc_g2 (show w < 5 by omega) (by omega)), if_pos rfl, tc_leteq, nI_1]
      exact ih (w + 1) (by omega) (by omega)
theorem S_478a {b k : Nat} {u : Nat → Int32} (hk : k ≤ 1000) (hb : tc_zf z (21 + k) 7 = nI b) (hu : ∀ w, w < 5 → tc_rd (f_X2_barrel x (nI b) (nI w)) = some (u w)) (kc : Int32 → Int32 → Option Int32) (v1 v2 : Int32) (a : Int32) (ha : a = nI 0) : lp_S_isSame_478 6 x z (nI k) kc v1 v2 u a = kc v2 v1 := by
  subst ha; exact S_478 hk hb hu kc v1 v2 6 0 (by decide) (by decide)
theorem S_361 (h : tc_Rl pa lv x y) {k : Nat} (hk : k < tc_nc x) (row : tc_zl z (21 + k) = 8 ∧ ∀ i, i < 8 → tc_zf z (21 + k) i = y (7 + i) k) (kc : Option Int32) (n : Nat) : ∀ w, w ≤ 8 → 8 - w < n → lp_S_isSame_361 n x z (nI k) kc (nI w) = kc := by
  have h5 := h.n5
  induction n with
  | zero => intro w _ h; omega
  | succ n ih =>
    intro w hw hn
    rw [lp_S_isSame_361]
    have c8 : (8 : Int32) ≤ nI w ↔ 8 ≤ w := nI_leI (a := 8) (by omega) (by omega)
    by_cases e1 : w = 8
    · rw [if_pos (c8.mpr (by omega))]
    · rw [if_neg (fun z => e1 (by have := c8.mp z; omega)), h.crane hk (show w < 8 by omega), Option.bind_some, tc_cl (show k ≤ 1000 by omega), tc_cl (show w ≤ 1000 by omega), row.1, if_pos (tc_g2 (show w < 8 by omega) (by omega)), row.2 w (by omega), if_pos rfl, tc_leteq, nI_1]
      exact ih (w + 1) (by omega) (by omega)
theorem S_361a (h : tc_Rl pa lv x y) {k : Nat} (hk : k < tc_nc x) (row : tc_zl z (21 + k) = 8 ∧ ∀ i, i < 8 → tc_zf z (21 + k) i = y (7 + i) k) (kc : Option Int32) (a : Int32) (ha : a = nI 0) : lp_S_isSame_361 9 x z (nI k) kc a = kc := by
  subst ha; exact S_361 h hk row kc 9 0 (by decide) (by decide)
theorem S_300 {p : Nat} {u : Nat → Int32} (hu : ∀ w, w < 4 → tc_rd (f_X2_place x (nI p) (nI w)) = some (u w)) (kc : Option Int32) (n : Nat) : ∀ w, w ≤ 4 → 4 - w < n → lp_S_isSame_300 n x (nI p) u kc (nI w) = kc := by
  induction n with
  | zero => intro w _ h; omega
  | succ n ih =>
    intro w hw hn
    rw [lp_S_isSame_300]
    have c5 : (4 : Int32) ≤ nI w ↔ 4 ≤ w := nI_leI (a := 4) (by omega) (by omega)
    by_cases e1 : w = 4
    · rw [if_pos (c5.mpr (by omega))]
    · rw [if_neg (fun z => e1 (by have := c5.mp z; omega)), hu w (by omega), Option.bind_some, tc_cl (show w ≤ 1000 by omega), if_pos (tc_g2 (show w < 4 by omega) (by omega)), if_pos rfl, tc_leteq, nI_1]
      exact ih (w + 1) (by omega) (by omega)
theorem S_300a {p : Nat} {u : Nat → Int32} (hu : ∀ w, w < 4 → tc_rd (f_X2_place x (nI p) (nI w)) = some (u w)) (kc : Option Int32) (a : Int32) (ha : a = nI 0) : lp_S_isSame_300 5 x (nI p) u kc a = kc := by
  subst ha; exact S_300 hu kc 5 0 (by decide) (by decide)
theorem S_658 {u : Nat → Int32} (hu : ∀ w, w < 7 → tc_rd (f_X2_count x (nI w)) = some (u w)) (kc : Option Int32) (n : Nat) : ∀ w, w ≤ 7 → 7 - w < n → lp_S_isSame_658 n x u kc (nI w) = kc := by
  induction n with
  | zero => intro w _ h; omega
  | succ n ih =>
    intro w hw hn
    rw [lp_S_isSame_658]
    have c5 : (7 : Int32) ≤ nI w ↔ 7 ≤ w := nI_leI (a := 7) (by omega) (by omega)
    by_cases e1 : w = 7
    · rw [if_pos (c5.mpr (by omega))]
    · rw [if_neg (fun z => e1 (by have := c5.mp z; omega)), hu w (by omega), Option.bind_some, tc_cl (show w ≤ 1000 by omega), if_pos (tc_g2 (show w < 7 by omega) (by omega)), if_pos rfl, tc_leteq, nI_1]
      exact ih (w + 1) (by omega) (by omega)
theorem S_658a {u : Nat → Int32} (hu : ∀ w, w < 7 → tc_rd (f_X2_count x (nI w)) = some (u w)) (kc : Option Int32) (a : Int32) (ha : a = nI 0) : lp_S_isSame_658 8 x u kc a = kc := by
  subst ha; exact S_658 hu kc 8 0 (by decide) (by decide)
theorem lk_y4 (h : tc_Rl pa lv x y) {p n : Nat} (hp : p < 16) (hn : n < tc_nb x) : y 4 n = nI p ↔ pa n = p := by
  have h40 := h.n40
  have k := h.2.1 n hn
  rcases (show pa n < 16 ∨ pa n = 16 ∨ pa n = 17 by have := k.2.2.1; omega) with e | e | e
  · rw [(k.2.2.2.1 e).1]; exact nI_eq (by omega) (by omega)
  · rw [(k.2.2.2.2.1 e).1]
    exact ⟨fun z => absurd z.symm (tc_nIneg (p := p) (by omega)).1, fun z => by omega⟩
  · rw [(k.2.2.2.2.2.1 e).1]
    exact ⟨fun z => absurd z.symm (tc_nIneg (p := p) (by omega)).2.1, fun z => by omega⟩
/-- the five answers of a barrel -/
def lk_U5 (a b c d : Int32) : Nat → Int32 := upd (upd (upd (upd (upd (fun _ : Nat => (0 : Int32)) 0 a) 1 b) 2 c) 3 d) 4 0
theorem lk_U5v (a b c d : Int32) : lk_U5 a b c d 0 = a ∧ lk_U5 a b c d 1 = b ∧ lk_U5 a b c d 2 = c ∧ lk_U5 a b c d 3 = d ∧ lk_U5 a b c d 4 = 0 := by
  unfold lk_U5
  refine ⟨?_, ?_, ?_, ?_, ?_⟩ <;> simp [upd]
theorem lk_u5 (h : tc_Rl pa lv x y) {b : Nat} (hb : b < tc_nb x) {a1 a2 a3 a4 : Int32} (e0 : a1 = y 3 b) (e1 : a2 = if pa b < 16 then nI (pa b) else -1) (e2 : a3 = if pa b < 16 then nI (tc_cnt pa (tc_nb x) (pa b) - 1 - lv b) else 0) (e3 : a4 = x.1 14 b) (e4 : pa b ≠ 17) : ∀ w, w < 5 → tc_rd (f_X2_barrel x (nI b) (nI w)) = some (lk_U5 a1 a2 a3 a4 w) := by
  intro w hw
  obtain ⟨g0, g1, g2, g3, g4⟩ := lk_U5v a1 a2 a3 a4
  rcases (show w = 0 ∨ w = 1 ∨ w = 2 ∨ w = 3 ∨ w = 4 by omega) with rfl | rfl | rfl | rfl | rfl
  · rw [g0, e0]; exact h.barrel0 hb
  · rw [g1, e1]; exact h.barrel1 hb
  · rw [g2, e2]; exact h.barrel2 hb
  · rw [g3, e3]; exact h.barrel3 hb
  · rw [g4]
    have := h.barrel4 hb
    rw [if_neg e4] at this; exact this
theorem S_29 (h : tc_Rl pa lv x y) (S : tc_S pa lv (tc_nb x) (tc_nc x) y z) {p : Nat} (hp : p < 16) (kc : Int32 → Option Int32) (n : Nat) : ∀ i, i ≤ tc_cnt pa (tc_nb x) p → tc_cnt pa (tc_nb x) p - i < n → lp_S_isSame_29 n x z (nI p) kc (nI i) (tc_sm (fun b => decide (pa b = p ∧ lv b < i)) (y 3) (tc_nb x)) = kc (tc_sm (fun b => decide (pa b = p)) (y 3) (tc_nb x)) := by
  have h40 := h.n40
  have c8 := h.c8 hp
  obtain ⟨⟨-, -, -, lN, f2⟩, B, -, -⟩ := S
  induction n with
  | zero => intro i _ h; omega
  | succ n ih =>
    intro i hi hn
    rw [lp_S_isSame_29, tc_cl (show p ≤ 1000 by omega), if_pos (tc_g2 hp (by omega)), (B p hp).1]
    by_cases e1 : i = tc_cnt pa (tc_nb x) p
    · rw [e1, if_pos (nI_le (Nat.le_refl _) (by omega))]
      congr 1
      exact tc_sm_congr _ (fun b hb => by
        by_cases w : pa b = p
        · rw [decide_eq_true w]; exact decide_eq_true ⟨w, h.lvl hp b hb w⟩
        · rw [decide_eq_false w]; exact decide_eq_false (fun z => w z.1)) (fun _ _ => rfl)
    · have hic : i < tc_cnt pa (tc_nb x) p := by omega
      obtain ⟨b, hb, hpb, hlb⟩ := h.2.2.2.2.2.2.1 p i hp hic
      have ev : tc_zf z (5 + p) i = nI b := by
        have := (B p hp).2 b hb hpb
        rw [hlb] at this; exact this
      have q6 := ((h.2.1 b hb).2.2.2.1 (by omega)).2.2.2.2.2.1
      rw [if_neg (nI_ge (a := i) (by omega) (by omega)), tc_cl (show i ≤ 1000 by omega), if_pos (tc_g2 hic (by omega)), tc_leteq, ev, tc_cl (show b ≤ 1000 by omega), lN, if_pos (tc_g2 hb (by omega)), tc_leteq, tc_leteq, tc_leteq, tc_leteq, tc_leteq, tc_leteq, tc_leteq, tc_jneq]
      have u5 := lk_u5 h hb (a1 := tc_zf z 2 b) (a2 := nI p) (a3 := nI (tc_cnt pa (tc_nb x) p) - 1 - nI i) (a4 := -1) (f2 b hb) (by rw [hpb, if_pos hp]) (by rw [hpb, if_pos hp, hlb, show (1 : Int32) = nI 1 from rfl, pk_sub (by omega), pk_sub (by omega)]) q6.symm (by omega)
      have e113 := S_113a u5 (tc_let (nI i + 1) (fun v215 => lp_S_isSame_29 n x z (nI p) kc v215 (tc_sm (fun b => decide (pa b = p ∧ lv b < i)) (y 3) (tc_nb x) + tc_zf z 2 b))) 0 rfl
      unfold lk_U5 at e113
      rw [e113, tc_leteq, nI_1, f2 b hb]
      have es : tc_sm (fun b => decide (pa b = p ∧ lv b < i + 1)) (y 3) (tc_nb x) = y 3 b + tc_sm (fun b => decide (pa b = p ∧ lv b < i)) (y 3) (tc_nb x) := tc_sm_one _ hb (decide_eq_false (fun z => by omega)) (decide_eq_true ⟨hpb, by omega⟩) (fun b' hb' hne => by
        have : pa b' = p → lv b' ≠ i := fun w1 w2 => hne (h.2.2.2.2.2.1 b' b hb' hb (by rw [w1, hpb]) (by omega) (by rw [w2, hlb]))
        by_cases w : pa b' = p
        · have g := this w
          by_cases w2 : lv b' < i
          · rw [decide_eq_true (show pa b' = p ∧ lv b' < i from ⟨w, w2⟩), decide_eq_true (show pa b' = p ∧ lv b' < i + 1 from ⟨w, by omega⟩)]
          · rw [decide_eq_false (show ¬ (pa b' = p ∧ lv b' < i) from fun z => w2 z.2), decide_eq_false (show ¬ (pa b' = p ∧ lv b' < i + 1) from fun z => by omega)]
        · rw [decide_eq_false (show ¬ (pa b' = p ∧ lv b' < i) from fun z => w z.1), decide_eq_false (show ¬ (pa b' = p ∧ lv b' < i + 1) from fun z => w z.1)])
      rw [Int32.add_comm, ← es]
      exact ih (i + 1) (by omega) (by omega)
theorem S_29a (h : tc_Rl pa lv x y) (S : tc_S pa lv (tc_nb x) (tc_nc x) y z) {p : Nat} (hp : p < 16) (kc : Int32 → Option Int32) (a : Int32) (ha : a = nI 0) : lp_S_isSame_29 9 x z (nI p) kc a a = kc (tc_sm (fun b => decide (pa b = p)) (y 3) (tc_nb x)) := by
  subst ha
  have c8 := h.c8 hp
  have k := S_29 h S hp kc 9 0 (Nat.zero_le _) (by omega)
  rw [tc_sm_no _ (fun b _ => decide_eq_false (fun z => absurd z.2 (Nat.not_lt_zero _)))] at k
  exact k
theorem S_163 (h : tc_Rl pa lv x y) (S : tc_S pa lv (tc_nb x) (tc_nc x) y z) {p : Nat} (kc : Int32 → Option Int32) (n : Nat) : ∀ k, k ≤ tc_nc x → tc_nc x - k < n → lp_S_isSame_163 n z (nI p) (nI (tc_nc x)) kc (nI k) (nI (tc_cy (y 12) (nI p) k)) = kc (nI (tc_cy (y 12) (nI p) (tc_nc x))) := by
  have h5 := h.n5
  obtain ⟨⟨-, -, en, -, -⟩, -, cc, -⟩ := S
  induction n with
  | zero => intro k _ h; omega
  | succ n ih =>
    intro k hk hn
    rw [lp_S_isSame_163]
    by_cases e1 : k = tc_nc x
    · rw [e1, if_pos (nI_le (Nat.le_refl _) (by omega))]
    · have hkc : k < tc_nc x := by omega
      have row := cc k hkc
      have f5 : tc_zf z (21 + k) 5 = y 12 k := row.2 5 (by decide)
      have st := ih (k + 1) (by omega) (by omega)
      have ec : tc_cy (y 12) (nI p) (k + 1) = tc_cy (y 12) (nI p) k + (if y 12 k = nI p then 1 else 0) := rfl
      rw [ec] at st
      rw [if_neg (nI_ge (a := k) (by omega) (by omega)), tc_cl (show k ≤ 1000 by omega), en, if_pos (tc_g2 hkc (by omega)), row.1, if_pos (show 5 < 8 by decide), f5]
      dsimp only [tc_jn, tc_let]
      by_cases w : y 12 k = nI p
      · rw [if_pos w] at st ⊢; rw [nI_1, nI_1]; exact st
      · rw [if_neg w] at st ⊢; rw [nI_1, show ∀ m, nI m + 0 = nI m from fun m => by rw [show (0 : Int32) = nI 0 from rfl, nI_add]; rfl]; exact st
theorem S_163a (h : tc_Rl pa lv x y) (S : tc_S pa lv (tc_nb x) (tc_nc x) y z) {p : Nat} (kc : Int32 → Option Int32) (a : Int32) (ha : a = nI 0) : lp_S_isSame_163 6 z (nI p) (nI (tc_nc x)) kc a a = kc (nI (tc_cy (y 12) (nI p) (tc_nc x))) := by
  subst ha
  have h5 := h.n5
  exact S_163 h S kc 6 0 (Nat.zero_le _) (by omega)
end LKQ
