/-! What the class tells of moves. -/
theorem lk_max_ge (a b : Int32) : a ≤ tc_max a b := by
  unfold tc_max
  by_cases w : a < b
  · rw [if_pos w]; exact Int32.le_of_lt w
  · rw [if_neg w]; exact Int32.le_refl _
theorem lk_absI {q p : Nat} (hq : q < 16) (hp : p < 16) : tc_abs (nI q - nI p) = nI ((q - p) + (p - q)) := by
  have all : ∀ q, q < 16 → ∀ p, p < 16 → tc_abs (nI q - nI p) = nI ((q - p) + (p - q)) := by decide +kernel
  exact all q hq p hp
section LKM
variable {pa lv : Nat → Nat} {x : tc_X} {y : tc_Y}
theorem lk_tk (h : tc_Rl pa lv x y) (E : tc_Ex pa x y) {c f t : Nat} (hc : c < tc_nc x) (hf : f < 16) (ht : t < 16) : ∃ v, f_X2_ticksToMove x c (nI f) (nI t) = some v ∧ (v = -1 ∨ ∃ T, v = nI T ∧ T ≤ 200 ∧ 0 < tc_cnt pa (tc_nb x) f ∧ (f - t) + (t - f) ≤ T) := by
  obtain ⟨v, v2, v3⟩ := h.tk hc hf ht
  refine ⟨v, v2, ?_⟩
  have h40 := h.n40
  have h5 := h.n5
  have hg := tc_g2 (show c < 5 by omega) (show c ≤ 1000 by omega)
  have hcl := tc_cl (show c ≤ 1000 by omega)
  have k := h.2.2.1 c hc
  have s2 := (h.st2 hc).2
  have no : ∀ {u : Int32}, some (-1 : Int32) = some u → u = -1 := fun e => (Option.some.inj e).symm
  unfold f_X3_ticksOf at v3
  rw [h.hi hf, h.hi ht, Option.bind_some, Option.bind_some, hcl, if_pos hg] at v3
  by_cases w1 : y 14 c = -1
  case neg => rw [if_neg w1] at v3; exact Or.inl (no v3)
  rw [if_pos w1] at v3
  by_cases w2 : nI f = nI t
  · rw [if_pos w2] at v3; exact Or.inl (no v3)
  rw [if_neg w2] at v3
  have hne : f ≠ t := fun z => w2 (by rw [z])
  rcases h.rc hc hf with ⟨-, r3⟩ | ⟨-, r3⟩
  · rw [r3] at v3; exact Or.inl (no v3)
  rw [r3, Option.bind_some, if_neg tc_10] at v3
  rcases h.rc hc ht with ⟨-, u3⟩ | ⟨-, u3⟩
  · rw [u3] at v3; exact Or.inl (no v3)
  rw [u3, Option.bind_some, if_neg tc_10] at v3
  rcases h.up0 hf with ⟨e1, e2⟩ | ⟨b, i, e1, e2, e3, e4, e5⟩
  · rw [e2, if_pos (show nI 0 = (0 : Int32) from nI_0)] at v3; exact Or.inl (no v3)
  have hi8 := h.c8 hf
  have ht8 := h.c8 ht
  have hn0 : ¬ nI (i + 1) = 0 := nI_ne0 (n := i + 1) (by omega) (by omega)
  rw [e5, if_neg hn0] at v3
  by_cases w3 : nI (tc_cnt pa (tc_nb x) t) = (8 : Int32)
  · rw [if_pos w3] at v3; exact Or.inl (no v3)
  have etop : f_X3_top y (nI f) = some (nI b) := by rw [h.top hf, e1]
  rw [if_neg w3, etop, Option.bind_some, tc_cl (show b ≤ 1000 by omega), if_pos (tc_g2 (show b < 40 by omega) (show b ≤ 1000 by omega)), tc_leteq, s2, Option.bind_some] at v3
  by_cases w4 : y 3 b ≤ 12 * x.1 23 c / x.1 22 c
  case neg => rw [if_neg w4] at v3; exact Or.inl (no v3)
  obtain ⟨po, rr, d, wk, wo, q, H, ⟨⟨e7, e8, e9, e10, e11, e12, e13⟩, q1, q2, q3, q4, q5, q6, q7, q8⟩, hl⟩ := E.2 c hc
  obtain ⟨M, m3, hM1, hM9, hx3, hxm, -, -⟩ := h.mx hf ht hne e5
  have ewound : ∀ v, f_X3_wound y (nI c) v = some (((v + nI d) - 1) / nI d) := fun v => by rw [(h.wd hc v).2, k.2.2.1, e9]
  have fs := tc_fo_spec (tc_cnt pa (tc_nb x)) (max q f + 1 - min q f) (min q f) 0
  have hF8 : tc_fo (tc_cnt pa (tc_nb x)) (max q f + 1 - min q f) (min q f) 0 ≤ 8 := tc_fo8 _ _ (fun s _ _ => h.c8 (by omega))
  have hFf : i + 1 ≤ tc_fo (tc_cnt pa (tc_nb x)) (max q f + 1 - min q f) (min q f) 0 := by
    have := fs.2.1 f (by omega) (by omega)
    omega
  have hMi : i + 1 ≤ M := by
    have := lk_max_ge (nI (i + 1)) (nI m3 + 1)
    rw [hxm] at this
    exact (nI_leI (by omega) (by omega)).mp this
  rw [if_pos w4, e12, h.h3n q6 hf, Option.bind_some, tc_leteq, e13, tc_maxI (by omega) (by omega), hx3, Option.bind_some, tc_leteq, hxm, ewound, Option.bind_some] at v3
  generalize hX : max H (tc_fo (tc_cnt pa (tc_nb x)) (max q f + 1 - min q f) (min q f) 0) = X at v3
  have hX1 : H ≤ X := by omega
  have hX2 : i + 1 ≤ X := by omega
  have hX3 : X ≤ 20 := by omega
  have esub : nI M - nI (tc_cnt pa (tc_nb x) t) - 1 = nI M - nI (tc_cnt pa (tc_nb x) t + 1) := by
    rw [pk_sub (by omega), pk_sub (by omega), show (1 : Int32) = nI 1 from rfl, pk_sub (by omega)]
    congr 1
  obtain ⟨a1, b1⟩ := lk_twI (a := M) (b := tc_cnt pa (tc_nb x) t + 1) (by omega) (by omega) q3
  obtain ⟨a2, b2⟩ := lk_twI (a := X) (b := H) (by omega) (by omega) q3
  obtain ⟨a3, b3⟩ := lk_twI (a := X) (b := i + 1) (by omega) (by omega) q3
  obtain ⟨a4, b4⟩ := lk_twI (a := M) (b := i + 1) (by omega) (by omega) q3
  rw [esub, a1] at v3
  generalize lk_tw (M - (tc_cnt pa (tc_nb x) t + 1)) d = T1 at v3 b1
  split at v3
  · rw [ewound, Option.bind_some, tc_leteq, ewound, Option.bind_some, ewound, Option.bind_some, tc_leteq, a2, a3, a4, lk_absI q6 hf, lk_absI hf ht, nI_add, nI_add, nI_add, nI_add, nI_add] at v3
    exact Or.inr ⟨_, (Option.some.inj v3).symm, by omega, by omega, by omega⟩
  · exact Or.inl (no v3)
/-- the ticks of the crane k -/
def lk_m (x : tc_X) (f t k : Nat) : Int32 := (f_X2_ticksToMove x k (nI f) (nI t)).getD (-1)
theorem lk_mS (h : tc_Rl pa lv x y) (E : tc_Ex pa x y) {c f t : Nat} (hc : c < tc_nc x) (hf : f < 16) (ht : t < 16) : f_X2_ticksToMove x c (nI f) (nI t) = some (lk_m x f t c) ∧ (lk_m x f t c = -1 ∨ ∃ T, lk_m x f t c = nI T ∧ T ≤ 200 ∧ 0 < tc_cnt pa (tc_nb x) f ∧ (f - t) + (t - f) ≤ T) := by
  obtain ⟨v, e, w⟩ := lk_tk h E hc hf ht
  have : lk_m x f t c = v := by unfold lk_m; rw [e]; rfl
  rw [this]; exact ⟨e, w⟩
theorem lk_move (h : tc_Rl pa lv x y) (E : tc_Ex pa x y) {c f t : Nat} (hc : c < tc_nc x) (hf : f < 16) (ht : t < 16) : tc_rd (f_X2_move x (nI c) (nI f) (nI t)) = some (lk_m x f t c) := by
  have h5 := h.n5
  simp only [f_X2_move, tc_rc0 hc (show tc_nc x ≤ 1000 by omega), Option.bind_some, if_pos, tc_rp0 (x := x) hf, tc_rp0 (x := x) ht, tc_cl (show c ≤ 1000 by omega), if_pos (tc_g2 hc (show c ≤ 1000 by omega)), tc_leteq, (lk_mS h E hc hf ht).1, tc_rd0]
/-- the best crane among the first k -/
def lk_B (m : Nat → Int32) (k : Nat) (w : Int32) : Prop := (w = -1 ∧ ∀ i, i < k → m i = -1) ∨ ∃ b, w = nI b ∧ b < k ∧ m b ≠ -1 ∧ ∀ i, i < k → m i ≠ -1 → m b ≤ m i ∧ (m b = m i → b ≤ i)
theorem lk_bestL (h : tc_Rl pa lv x y) (E : tc_Ex pa x y) {f t : Nat} (hf : f < 16) (ht : t < 16) (n : Nat) : ∀ k w u, k ≤ tc_nc x → tc_nc x - k < n → ((w = -1 ∧ ∀ i, i < k → lk_m x f t i = -1) ∨ ∃ b, w = nI b ∧ b < k ∧ u = lk_m x f t b ∧ lk_m x f t b ≠ -1 ∧ ∀ i, i < k → lk_m x f t i ≠ -1 → lk_m x f t b ≤ lk_m x f t i ∧ (lk_m x f t b = lk_m x f t i → b ≤ i)) → ∃ r, lp_X2_best_16 n x (nI f) (nI t) w u (nI k) = some (0, r) ∧ lk_B (lk_m x f t) (tc_nc x) r := by
  have h5 := h.n5
  induction n with
  | zero => intro k w u _ h; omega
  | succ n ih =>
    intro k w u hk hn hw
    rw [lp_X2_best_16]
    by_cases e : k = tc_nc x
    · subst e
      rw [if_pos (nI_le (Nat.le_refl _) (by omega))]
      refine ⟨w, rfl, ?_⟩
      rcases hw with z | ⟨b, b1, b2, b3, b4, b5⟩
      · exact Or.inl z
      · exact Or.inr ⟨b, b1, b2, b4, b5⟩
    · have hkc : k < tc_nc x := by omega
      rw [if_neg (nI_ge (a := k) (by omega) (by omega)), tc_cl (show k ≤ 1000 by omega), if_pos (tc_g2 hkc (show k ≤ 1000 by omega)), tc_leteq, (lk_mS h E hkc hf ht).1, Option.bind_some]
      dsimp only [tc_let]
      rw [nI_1]
      by_cases e1 : lk_m x f t k = -1
      · rw [if_pos e1]
        refine ih (k + 1) w u (by omega) (by omega) ?_
        rcases hw with ⟨z1, z2⟩ | ⟨b, b1, b2, b3, b4, b5⟩
        · refine Or.inl ⟨z1, fun i hi => ?_⟩
          by_cases ei : i = k
          · rw [ei]; exact e1
          · exact z2 i (by omega)
        · refine Or.inr ⟨b, b1, by omega, b3, b4, fun i hi hm => ?_⟩
          by_cases ei : i = k
          · rw [ei] at hm; exact absurd e1 hm
          · exact b5 i (by omega) hm
      · rw [if_neg e1]
        rcases hw with ⟨z1, z2⟩ | ⟨b, b1, b2, b3, b4, b5⟩
        · rw [if_pos z1]
          refine ih (k + 1) (nI k) _ (by omega) (by omega) (Or.inr ⟨k, rfl, by omega, rfl, e1, fun i hi hm => ?_⟩)
          by_cases ei : i = k
          · rw [ei]; exact ⟨Int32.le_refl _, fun _ => Nat.le_refl _⟩
          · exact absurd (z2 i (by omega)) hm
        · rw [if_neg (show ¬ w = -1 by rw [b1]; exact (tc_nIneg (by omega)).1)]
          by_cases e3 : u ≤ lk_m x f t k
          · rw [if_pos e3]
            refine ih (k + 1) w u (by omega) (by omega) (Or.inr ⟨b, b1, by omega, b3, b4, fun i hi hm => ?_⟩)
            by_cases ei : i = k
            · rw [ei, ← b3]; exact ⟨e3, fun _ => by omega⟩
            · exact b5 i (by omega) hm
          · rw [if_neg e3]
            refine ih (k + 1) (nI k) _ (by omega) (by omega) (Or.inr ⟨k, rfl, by omega, rfl, e1, fun i hi hm => ?_⟩)
            by_cases ei : i = k
            · rw [ei]; exact ⟨Int32.le_refl _, fun _ => Nat.le_refl _⟩
            · have g := (b5 i (by omega) hm).1
              rw [← b3, Int32.le_iff_toInt_le] at g
              rw [Int32.le_iff_toInt_le] at e3
              refine ⟨by rw [Int32.le_iff_toInt_le]; omega, fun z => ?_⟩
              rw [z] at e3; omega
theorem lk_best (h : tc_Rl pa lv x y) (E : tc_Ex pa x y) {f t : Nat} (hf : f < 16) (ht : t < 16) : ∃ r, tc_rd (f_X2_best x (nI f) (nI t)) = some r ∧ lk_B (lk_m x f t) (tc_nc x) r := by
  have h5 := h.n5
  obtain ⟨r, e, b⟩ := lk_bestL h E hf ht 100 0 (-1) (-1) (Nat.zero_le _) (by omega) (Or.inl ⟨rfl, fun i hi => absurd hi (Nat.not_lt_zero _)⟩)
  rw [nI_0] at e
  refine ⟨r, ?_, b⟩
  simp only [f_X2_best, Option.bind_some, if_pos, tc_rp0 (x := x) hf, tc_rp0 (x := x) ht, e, tc_rd0]
theorem lk_s16 (pa : Nat → Nat) (b : Nat) : tc_s16 (tc_cnt pa (b + 1)) 16 = tc_s16 (tc_cnt pa b) 16 + (if pa b < 16 then 1 else 0) := by
  rw [← tc_s16_one (pa b) 16, ← tc_s16_add]; rfl
theorem lk_withinL (h : tc_Rl pa lv x y) {c : Nat} (hc : c < tc_nc x) (n : Nat) : ∀ b m, b ≤ tc_nb x → tc_nb x - b < n → m ≤ tc_s16 (tc_cnt pa b) 16 → ∃ m', lp_X2_within_22 n x c (nI m) (nI b) = some (0, nI m') ∧ m' ≤ tc_s16 (tc_cnt pa (tc_nb x)) 16 := by
  have h40 := h.n40
  induction n with
  | zero => intro b m _ h; omega
  | succ n ih =>
    intro b m hb hn hm
    rw [lp_X2_within_22]
    by_cases e : b = tc_nb x
    · subst e
      rw [if_pos (nI_le (Nat.le_refl _) (by omega))]
      exact ⟨m, rfl, hm⟩
    · have hbn : b < tc_nb x := by omega
      have k := h.2.1 b hbn
      have s := lk_s16 pa b
      have st : ∀ m, m ≤ tc_s16 (tc_cnt pa b) 16 + (if pa b < 16 then 1 else 0) → ∃ m', lp_X2_within_22 n x c (nI m) (nI (b + 1)) = some (0, nI m') ∧ m' ≤ tc_s16 (tc_cnt pa (tc_nb x)) 16 := fun m hm => ih (b + 1) m (by omega) (by omega) (by rw [s]; exact hm)
      rw [if_neg (nI_ge (a := b) (by omega) (by omega)), tc_cl (show b ≤ 1000 by omega), if_pos (tc_g2 hbn (show b ≤ 1000 by omega))]
      dsimp only [tc_let]
      rw [nI_1, nI_1]
      by_cases w : pa b < 16
      · rw [if_pos w] at st
        have e12 := (k.2.2.2.1 w).2.1
        rw [e12, if_neg (tc_nIneg (p := pa b) (by omega)).1]
        rcases h.rc hc w with ⟨r, -⟩ | ⟨r, -⟩
        · rw [r, Option.bind_some, if_pos rfl]; exact st m (by omega)
        · rw [r, Option.bind_some, if_neg tc_10, h.cl hc, Option.bind_some]
          by_cases g : 12 * x.1 23 c / x.1 22 c < x.1 11 b
          · rw [if_pos g, if_pos rfl]; exact st m (by omega)
          · rw [if_neg g, if_neg tc_10]; exact st (m + 1) (by omega)
      · have e12 : x.1 12 b = -1 := by
          rcases (show pa b = 16 ∨ pa b = 17 by have := k.2.2.1; omega) with e | e
          · exact (k.2.2.2.2.1 e).2.1
          · exact (k.2.2.2.2.2.1 e).2.1
        rw [e12, if_pos rfl]; exact st m (by omega)
theorem lk_within (h : tc_Rl pa lv x y) {c : Nat} (hc : c < tc_nc x) : ∃ m', tc_rd (f_X2_within x (nI c)) = some (nI m') ∧ m' ≤ tc_s16 (tc_cnt pa (tc_nb x)) 16 := by
  have h5 := h.n5
  have h40 := h.n40
  obtain ⟨m', e, hm⟩ := lk_withinL h hc 100 0 0 (Nat.zero_le _) (by omega) (Nat.zero_le _)
  rw [nI_0] at e
  refine ⟨m', ?_, hm⟩
  simp only [f_X2_within, tc_rc0 hc (show tc_nc x ≤ 1000 by omega), Option.bind_some, if_pos, tc_cl (show c ≤ 1000 by omega), if_pos (tc_g2 hc (show c ≤ 1000 by omega)), tc_leteq, e, tc_rd0]
end LKM
