/-! What the readers are worth under the relation. -/
theorem tc_pl1 {p : Nat} (hp : p < 16) : f_X2_isPlace (nI p) = some 1 ∧ f_X3_isPlace (nI p) = some 1 := by
  have all : ∀ p, p < 16 → f_X2_isPlace (nI p) = some 1 ∧ f_X3_isPlace (nI p) = some 1 := by decide
  exact all p hp
def tc_cy (f : Nat → Int32) (a : Int32) : Nat → Nat
  | 0 => 0
  | n + 1 => tc_cy f a n + (if f n = a then 1 else 0)
theorem tc_cy_le (f : Nat → Int32) (a : Int32) (n : Nat) : tc_cy f a n ≤ n := by
  induction n with
  | zero => exact Nat.le_refl _
  | succ n ih => show tc_cy f a n + (if f n = a then 1 else 0) ≤ n + 1; split <;> omega
theorem tc_cnt_le (pa : Nat → Nat) (p n : Nat) : tc_cnt pa n p ≤ n := by
  induction n with
  | zero => exact Nat.le_refl _
  | succ n ih => show tc_cnt pa n p + (if pa n = p then 1 else 0) ≤ n + 1; split <;> omega
theorem tc_nIneg {p : Nat} (hp : p ≤ 1000) : ¬ nI p = -1 ∧ ¬ nI p = -2 ∧ ¬ nI p < 0 := by
  have h := nI_pos (n := p) (by omega)
  exact ⟨fun z => by rw [z] at h; exact h (by decide), fun z => by rw [z] at h; exact h (by decide), h⟩
theorem tc_maxI {a b : Nat} (ha : a ≤ 1000) (hb : b ≤ 1000) : tc_max (nI a) (nI b) = nI (max a b) := by
  show (if nI a < nI b then nI b else nI a) = _
  by_cases h : a < b
  · rw [if_pos (nI_lt h (by omega)), Nat.max_eq_right (by omega)]
  · rw [if_neg (nI_nlt (by omega) (by omega)), Nat.max_eq_left (by omega)]
theorem tc_minI {a b : Nat} (ha : a ≤ 1000) (hb : b ≤ 1000) : tc_min (nI a) (nI b) = nI (min a b) := by
  show (if nI b < nI a then nI b else nI a) = _
  by_cases h : b < a
  · rw [if_pos (nI_lt h (by omega)), Nat.min_eq_right (by omega)]
  · rw [if_neg (nI_nlt (by omega) (by omega)), Nat.min_eq_left (by omega)]
section TCVL
variable {pa lv : Nat → Nat} {x : tc_X} {y : tc_Y}
theorem tc_up {p : Nat} (hp : p < 16) : f_X2_uppermostAt x (nI p) = some (x.2.1 0 p) := by
  simp only [f_X2_uppermostAt, (tc_pl1 hp).1, Option.bind_some, if_neg tc_10, tc_cl (show p ≤ 1000 by omega), if_pos (tc_g2 hp (show p ≤ 1000 by omega))]
  cases x.2.1 0 p <;> rfl
theorem tc_Rl.ht (h : tc_Rl pa lv x y) {p : Nat} (hp : p < 16) : f_X2_heightOf x (nI p) = some (nI (tc_cnt pa (tc_nb x) p)) := by
  obtain ⟨-, hb, -, hpp, -⟩ := h
  obtain ⟨a1, a2, -⟩ := hpp p hp
  simp only [f_X2_heightOf, tc_up hp, Option.bind_some]
  cases hc : tc_cnt pa (tc_nb x) p with
  | zero => rw [a1 hc]; rfl
  | succ i =>
    obtain ⟨b, b1, b2, b3, b4⟩ := a2 i hc
    rw [b2]
    show (if b < tc_nb x then some (x.1 13 b + 1) else none) = _
    rw [if_pos b1, ((hb b b1).2.2.2.1 (by omega)).2.2.2.1, b4, nI_1]
theorem tc_Rl.up0 (h : tc_Rl pa lv x y) {p : Nat} (hp : p < 16) : (x.2.1 0 p = none ∧ tc_cnt pa (tc_nb x) p = 0) ∨ ∃ b i, x.2.1 0 p = some b ∧ b < tc_nb x ∧ pa b = p ∧ lv b = i ∧ tc_cnt pa (tc_nb x) p = i + 1 := by
  obtain ⟨a1, a2, -⟩ := h.2.2.2.1 p hp
  cases hc : tc_cnt pa (tc_nb x) p with
  | zero => exact Or.inl ⟨a1 hc, rfl⟩
  | succ i =>
    obtain ⟨b, b1, b2, b3, b4⟩ := a2 i hc
    exact Or.inr ⟨b, i, b2, b1, b3, b4, rfl⟩
theorem tc_highL {nb : Nat} (h2 : y 2 0 = nI nb) (h40 : nb ≤ 40) (a : Int32) (n : Nat) : ∀ k, k ≤ nb → nb - k < n → lp_X3_high_4 n y a (nI (tc_cy (y 4) a k)) (nI k) = some (nI (tc_cy (y 4) a nb)) := by
  induction n with
  | zero => intro k _ h; omega
  | succ n ih =>
    intro k hk hn
    rw [lp_X3_high_4, h2]
    by_cases e : k = nb
    · subst e; rw [if_pos (nI_le (Nat.le_refl _) (by omega))]
    · rw [if_neg (nI_ge (a := k) (by omega) (by omega)), if_pos (by rw [tc_cl (show k ≤ 1000 by omega)]; exact tc_g2 (show k < 40 by omega) (by omega)), tc_cl (show k ≤ 1000 by omega)]
      have st := ih (k + 1) (by omega) (by omega)
      rw [show tc_cy (y 4) a (k + 1) = tc_cy (y 4) a k + (if y 4 k = a then 1 else 0) from rfl] at st
      by_cases e4 : y 4 k = a
      · rw [if_pos e4] at st ⊢
        unfold tc_let
        rw [nI_1, nI_1]; exact st
      · rw [if_neg e4] at st ⊢
        unfold tc_let
        rw [show nI (tc_cy (y 4) a k) + 0 = nI (tc_cy (y 4) a k + 0) from nI_add _ 0, nI_1]; exact st
theorem tc_highA {nb : Nat} (h2 : y 2 0 = nI nb) (h40 : nb ≤ 40) (a : Int32) : f_X3_high y a = some (nI (tc_cy (y 4) a nb)) := tc_highL h2 h40 a 100 0 (Nat.zero_le _) (by omega)
theorem tc_Rl.at_iff (h : tc_Rl pa lv x y) {b p : Nat} (hb : b < tc_nb x) (hp : p < 16) : y 4 b = nI p ↔ pa b = p := by
  have k := h.2.1 b hb
  have hpn := tc_nIneg (p := p) (by omega)
  rcases (show pa b < 16 ∨ pa b = 16 ∨ pa b = 17 by have := k.2.2.1; omega) with e | e | e
  · rw [(k.2.2.2.1 e).1, nI_eq (by omega) (by omega)]
  · rw [(k.2.2.2.2.1 e).1]
    exact ⟨fun z => absurd z.symm hpn.1, fun z => by omega⟩
  · rw [(k.2.2.2.2.2.1 e).1]
    exact ⟨fun z => absurd z.symm hpn.2.1, fun z => by omega⟩
theorem tc_Rl.cy (h : tc_Rl pa lv x y) {p : Nat} (hp : p < 16) (n : Nat) (hn : n ≤ tc_nb x) : tc_cy (y 4) (nI p) n = tc_cnt pa n p := by
  induction n with
  | zero => rfl
  | succ n ih =>
    show tc_cy (y 4) (nI p) n + (if y 4 n = nI p then 1 else 0) = tc_cnt pa n p + (if pa n = p then 1 else 0)
    rw [ih (by omega)]
    congr 1
    by_cases e : pa n = p
    · rw [if_pos e, if_pos ((h.at_iff (by omega) hp).mpr e)]
    · rw [if_neg e, if_neg (fun z => e ((h.at_iff (by omega) hp).mp z))]
theorem tc_Rl.hi (h : tc_Rl pa lv x y) {p : Nat} (hp : p < 16) : f_X3_high y (nI p) = some (nI (tc_cnt pa (tc_nb x) p)) := by
  rw [tc_highA h.1.2.1 h.1.2.2.2.1, h.cy hp _ (Nat.le_refl _)]
theorem tc_Rl.c8 (h : tc_Rl pa lv x y) {p : Nat} (hp : p < 16) : tc_cnt pa (tc_nb x) p ≤ 8 := (h.2.2.2.1 p hp).2.2
theorem tc_Rl.topL (h : tc_Rl pa lv x y) {p t i : Nat} (hp : p < 16) (ht : t < tc_nb x) (hpt : pa t = p) (hlt : lv t = i) (hc : tc_cnt pa (tc_nb x) p = i + 1) (n : Nat) : ∀ k, k ≤ t → t - k < n → lp_X3_top_2 n y (nI p) (nI k) = some (nI t) := by
  have h40 := h.1.2.2.2.1
  induction n with
  | zero => intro k _ h; omega
  | succ n ih =>
    intro k hk hn
    rw [lp_X3_top_2, h.1.2.1, if_neg (nI_ge (a := k) (by omega) (by omega)), if_pos (by rw [tc_cl (show k ≤ 1000 by omega)]; exact tc_g2 (show k < 40 by omega) (by omega)), tc_cl (show k ≤ 1000 by omega)]
    unfold tc_let
    rw [nI_1]
    by_cases e : pa k = p
    · rw [if_pos ((h.at_iff (by omega) hp).mpr e), h.hi hp, hc]
      simp only [Option.bind_some]
      rw [show nI (i + 1) - 1 = nI i from pk_sub (a := i + 1) (b := 1) (by omega), ((h.2.1 k (by omega)).2.2.2.1 (by omega)).2.2.1]
      by_cases el : lv k = i
      · have ek : k = t := h.2.2.2.2.2.1 k t (by omega) ht (by omega) (by omega) (by omega)
        subst ek
        rw [el, if_pos rfl]
      · rw [if_neg (fun z => el ((nI_eq (by have := ((h.2.1 k (by omega)).2.2.2.1 (by omega)).2.2.2.2.1; have := tc_cnt_le pa (pa k) (tc_nb x); omega) (by have := h.c8 hp; omega)).mp z))]
        have hkt : k ≠ t := fun z => by subst z; exact el hlt
        exact ih (k + 1) (by omega) (by omega)
    · rw [if_neg (fun z => e ((h.at_iff (by omega) hp).mp z))]
      have hkt : k ≠ t := fun z => by subst z; exact e hpt
      exact ih (k + 1) (by omega) (by omega)
theorem tc_Rl.topN (h : tc_Rl pa lv x y) {p : Nat} (hp : p < 16) (hc : tc_cnt pa (tc_nb x) p = 0) (n : Nat) : ∀ k, k ≤ tc_nb x → tc_nb x - k < n → lp_X3_top_2 n y (nI p) (nI k) = some (-1) := by
  have h40 := h.1.2.2.2.1
  induction n with
  | zero => intro k _ h; omega
  | succ n ih =>
    intro k hk hn
    rw [lp_X3_top_2, h.1.2.1]
    by_cases e : k = tc_nb x
    · rw [e, if_pos (nI_le (Nat.le_refl _) (by omega))]
    · rw [if_neg (nI_ge (a := k) (by omega) (by omega)), if_pos (by rw [tc_cl (show k ≤ 1000 by omega)]; exact tc_g2 (show k < 40 by omega) (by omega)), tc_cl (show k ≤ 1000 by omega)]
      unfold tc_let
      rw [nI_1, if_neg (fun z => by
        have e2 := (h.at_iff (by omega) hp).mp z
        have k2 := ((h.2.1 k (by omega)).2.2.2.1 (by omega)).2.2.2.2.1
        rw [e2, hc] at k2; omega)]
      exact ih (k + 1) (by omega) (by omega)
theorem tc_Rl.top (h : tc_Rl pa lv x y) {p : Nat} (hp : p < 16) : f_X3_top y (nI p) = some (match x.2.1 0 p with | none => -1 | some t => nI t) := by
  have h40 := h.1.2.2.2.1
  rcases h.up0 hp with ⟨e1, e2⟩ | ⟨b, i, e1, e2, e3, e4, e5⟩
  · rw [e1]; exact h.topN hp e2 100 0 (Nat.zero_le _) (by omega)
  · rw [e1]; exact h.topL hp e2 e3 e4 e5 100 0 (Nat.zero_le _) (by omega)
def tc_ld (x : tc_X) (c : Nat) : Nat := if x.2.1 2 c = none then 0 else 1
theorem tc_low {c : Nat} (hc : c < tc_nc x) (v : Int32) : f_X1_lowestHook x c v = some (v + nI (tc_ld x c)) := by
  unfold f_X1_lowestHook tc_ld
  rw [if_pos hc]
  cases x.2.1 2 c with
  | none => show some v = some (v + nI 0); rw [show nI 0 = (0 : Int32) from rfl, Int32.add_zero]
  | some j => rfl
theorem tc_Rl.lo (h : tc_Rl pa lv x y) {c : Nat} (hc : c < tc_nc x) : f_X3_loaded y (nI c) = some (nI (tc_ld x c)) := by
  have k := h.2.2.1 c hc
  have h40 := h.1.2.2.2.1
  have hc5 : c < 5 := Nat.lt_of_lt_of_le hc h.1.2.2.2.2
  unfold f_X3_loaded tc_ld
  rw [if_pos (by rw [tc_cl (show c ≤ 1000 by omega)]; exact tc_g2 hc5 (by omega)), tc_cl (show c ≤ 1000 by omega)]
  cases e : x.2.1 2 c with
  | none => rw [if_pos (k.2.2.2.2.2.2.2.2.2.2.2.1 e)]; rfl
  | some j =>
    obtain ⟨j1, j2, -⟩ := k.2.2.2.2.2.2.2.2.2.2.2.2 j e
    rw [j2, if_neg (tc_nIneg (by omega)).1]; rfl
theorem tc_Rl.d0 (h : tc_Rl pa lv x y) {c : Nat} (hc : c < tc_nc x) : 1 ≤ x.1 22 c ∧ ¬ x.1 22 c = 0 ∧ y 9 c = x.1 22 c := by
  have k := h.2.2.1 c hc
  have e := k.2.2.1
  have d := k.2.2.2.2.2.2.2.2.1
  rw [← e] at d
  exact ⟨d, fun z => by rw [z] at d; exact absurd d (by decide), e.symm⟩
theorem tc_Rl.st2 (h : tc_Rl pa lv x y) {c : Nat} (hc : c < tc_nc x) : f_X1_strength x c = some ((12 * x.1 23 c) / x.1 22 c) ∧ f_X3_strength y (nI c) = some ((12 * x.1 23 c) / x.1 22 c) := by
  have k := h.2.2.1 c hc
  have hc5 : c < 5 := Nat.lt_of_lt_of_le hc h.1.2.2.2.2
  obtain ⟨d1, d2, d3⟩ := h.d0 hc
  refine ⟨?_, ?_⟩
  · simp only [f_X1_strength, if_pos hc, if_pos d1, if_pos d2]
  · simp only [f_X3_strength, tc_cl (show c ≤ 1000 by omega), if_pos (tc_g2 hc5 (show c ≤ 1000 by omega)), d3, if_pos d2, k.2.2.2.1]
theorem tc_Rl.wd (h : tc_Rl pa lv x y) {c : Nat} (hc : c < tc_nc x) (v : Int32) : f_X1_ticksToWind x c v = some (((v + x.1 22 c) - 1) / x.1 22 c) ∧ f_X3_wound y (nI c) v = some (((v + x.1 22 c) - 1) / x.1 22 c) := by
  have hc5 : c < 5 := Nat.lt_of_lt_of_le hc h.1.2.2.2.2
  obtain ⟨d1, d2, d3⟩ := h.d0 hc
  refine ⟨?_, ?_⟩
  · simp only [f_X1_ticksToWind, if_pos hc, if_pos d1, if_pos d2]
  · simp only [f_X3_wound, tc_cl (show c ≤ 1000 by omega), if_pos (tc_g2 hc5 (show c ≤ 1000 by omega)), d3, if_pos d2]
/-- hooks over a place -/
theorem tc_Rl.hooks (h : tc_Rl pa lv x y) (a v e : Int32) (n : Nat) : ∀ k, k ≤ tc_nc x → tc_nc x - k < n → (lp_X2_hooksAllow_3 n x a v e (nI k) = some 1 ∧ lp_X3_isTooLow_3 n y a v e (nI k) = some 0) ∨ (lp_X2_hooksAllow_3 n x a v e (nI k) = some 0 ∧ lp_X3_isTooLow_3 n y a v e (nI k) = some 1) := by
  have h5 := h.1.2.2.2.2
  induction n with
  | zero => intro k _ h; omega
  | succ n ih =>
    intro k hk hn
    rw [lp_X2_hooksAllow_3, lp_X3_isTooLow_3, h.1.2.2.1]
    by_cases e1 : k = tc_nc x
    · rw [e1, if_pos (nI_le (Nat.le_refl _) (by omega)), if_pos (nI_le (Nat.le_refl _) (by omega))]
      exact Or.inl ⟨rfl, rfl⟩
    · have hkc : k < tc_nc x := by omega
      have kc := h.2.2.1 k hkc
      rw [if_neg (nI_ge (a := k) (by omega) (by omega)), if_neg (nI_ge (a := k) (by omega) (by omega)), tc_cl (show k ≤ 1000 by omega), if_pos (tc_g2 hkc (show k ≤ 1000 by omega))]
      simp only [tc_let, nI_1]
      have st := ih (k + 1) (by omega) (by omega)
      by_cases e2 : nI k = e
      · rw [if_pos e2, if_pos e2]; exact st
      · rw [if_neg e2, if_neg e2, if_pos (tc_g2 (show k < 5 by omega) (show k ≤ 1000 by omega)), kc.2.2.2.2.2.1]
        by_cases e3 : y 12 k = a
        · rw [if_pos e3, if_pos e3, tc_low hkc, h.lo hkc]
          simp only [Option.bind_some]
          rw [kc.2.2.2.2.2.2.1]
          by_cases e4 : v + nI (tc_ld x k) ≤ y 13 k
          · rw [if_pos e4, if_pos e4]; exact st
          · rw [if_neg e4, if_neg e4]; exact Or.inr ⟨rfl, rfl⟩
        · rw [if_neg e3, if_neg e3]; exact st
theorem tc_Rl.hk (h : tc_Rl pa lv x y) (a v e : Int32) : (f_X2_hooksAllow x a v e = some 1 ∧ f_X3_isTooLow y a v e = some 0) ∨ (f_X2_hooksAllow x a v e = some 0 ∧ f_X3_isTooLow y a v e = some 1) := h.hooks a v e 100 0 (Nat.zero_le _) (by have := h.1.2.2.2.2; omega)
end TCVL
