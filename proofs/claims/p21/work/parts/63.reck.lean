/-! What the law's own wharf reckons. -/
section LKR
variable {pa lv : Nat → Nat} {x : tc_X} {y : tc_Y} {z : tc_Z}
theorem tc_Rl.ld (h : tc_Rl pa lv x y) {k : Nat} (hk : k < tc_nc x) : (x.2.1 2 k = none ∧ y 14 k = -1 ∧ tc_ld x k = 0) ∨ ∃ j, x.2.1 2 k = some j ∧ j < tc_nb x ∧ y 14 k = nI j ∧ pa j = 16 ∧ tc_ld x k = 1 ∧ ¬ y 14 k < 0 ∧ 0 ≤ y 14 k := by
  have kk := h.2.2.1 k hk
  have h40 := h.n40
  cases hl : x.2.1 2 k with
  | none => exact Or.inl ⟨rfl, kk.2.2.2.2.2.2.2.2.2.2.2.1 hl, by unfold tc_ld; rw [if_pos hl]⟩
  | some j =>
    obtain ⟨hj, e, pj, -⟩ := kk.2.2.2.2.2.2.2.2.2.2.2.2 j hl
    have ng := (tc_nIneg (p := j) (by omega)).2.2
    exact Or.inr ⟨j, rfl, hj, e, pj, by unfold tc_ld; rw [hl]; exact if_neg (by simp), by rw [e]; exact ng, by rw [e]; exact Int32.not_lt.mp ng⟩
theorem lk_isFine (h : tc_Rl pa lv x y) {k v H : Nat} (hk : k < tc_nc x) (hv : v ≤ 100) (hH : H ≤ 20) (e13 : y 13 k = nI H) {f : Nat → Int32} (f6 : f 6 = y 13 k) (f7 : f 7 = y 14 k) : f_S_isFine 8 f (nI v) = some (if v + tc_ld x k ≤ H then 1 else 0) := by
  unfold f_S_isFine
  dsimp only [tc_jn]
  rw [if_pos (by decide), f6, f7, e13]
  have c1 : nI H ≤ nI v ↔ H ≤ v := nI_leI (by omega) (by omega)
  have c2 : nI H < nI v ↔ H < v := nI_ltI (by omega) (by omega)
  rcases h.ld hk with ⟨-, e, el⟩ | ⟨j, -, -, -, -, el, -, e⟩
  · rw [e, el, if_neg (show ¬ (0 : Int32) ≤ -1 by decide), if_pos (show 6 < 8 by decide)]
    by_cases w : H < v
    · rw [if_pos (c2.mpr w), if_neg (show ¬ v + 0 ≤ H by omega)]; exact if_pos (Or.inl rfl)
    · rw [if_neg (fun z => w (c2.mp z)), if_pos (show v + 0 ≤ H by omega)]; exact if_pos (Or.inr rfl)
  · rw [el, if_pos e, if_pos (show 6 < 8 by decide)]
    by_cases w : H ≤ v
    · rw [if_pos (c1.mpr w), if_neg (show ¬ v + 1 ≤ H by omega)]; exact if_pos (Or.inl rfl)
    · rw [if_neg (fun z => w (c1.mp z)), if_pos (show v + 1 ≤ H by omega)]; exact if_pos (Or.inr rfl)
theorem lk_fineL (h : tc_Rl pa lv x y) (S : tc_S pa lv (tc_nb x) (tc_nc x) y z) {p v e : Nat} {a3 : Option Nat} (hv : v ≤ 100) (ha : ∀ k, k < tc_nc x → (a3 = some (21 + k) ↔ k = e)) (n : Nat) : ∀ k, k ≤ tc_nc x → tc_nc x - k < n → (lp_S_areFine_14 n z (nI p) (nI v) a3 (nI (tc_nc x)) (some 1) (nI k) = some 1 ∧ ∀ i, k ≤ i → i < tc_nc x → i ≠ e → y 12 i = nI p → nI (v + tc_ld x i) ≤ y 13 i) ∨ (lp_S_areFine_14 n z (nI p) (nI v) a3 (nI (tc_nc x)) (some 1) (nI k) = some 0 ∧ ¬ tc_fine x y p v e) := by
  have h5 := h.n5
  obtain ⟨⟨-, -, en, -, -⟩, -, cc, -⟩ := S
  induction n with
  | zero => intro k _ h; omega
  | succ n ih =>
    intro k hk hn
    rw [lp_S_areFine_14]
    by_cases e1 : k = tc_nc x
    · rw [e1, if_pos (nI_le (Nat.le_refl _) (by omega))]
      exact Or.inl ⟨rfl, fun i h1 h2 => by omega⟩
    · have hkc : k < tc_nc x := by omega
      have st := ih (k + 1) (by omega) (by omega)
      rw [if_neg (nI_ge (a := k) (by omega) (by omega)), tc_cl (show k ≤ 1000 by omega), if_pos (show ¬ nI k < 0 ∧ k < tc_zn z from by rw [en]; exact tc_g2 hkc (by omega))]
      simp only [tc_let, nI_1]
      have go : (k ≠ e → y 12 k = nI p → nI (v + tc_ld x k) ≤ y 13 k) → (lp_S_areFine_14 n z (nI p) (nI v) a3 (nI (tc_nc x)) (some 1) (nI (k + 1)) = some 1 ∧ ∀ i, k ≤ i → i < tc_nc x → i ≠ e → y 12 i = nI p → nI (v + tc_ld x i) ≤ y 13 i) ∨ (lp_S_areFine_14 n z (nI p) (nI v) a3 (nI (tc_nc x)) (some 1) (nI (k + 1)) = some 0 ∧ ¬ tc_fine x y p v e) := fun hk9 => by
        rcases st with ⟨s1, s2⟩ | s
        · refine Or.inl ⟨s1, fun i h1 h2 h3 h4 => ?_⟩
          by_cases e9 : i = k
          · subst e9; exact hk9 h3 h4
          · exact s2 i (by omega) h2 h3 h4
        · exact Or.inr s
      by_cases e2 : a3 = some (21 + k)
      · rw [if_pos e2]; exact go (fun h9 => absurd ((ha k hkc).mp e2) h9)
      · have hke : k ≠ e := fun z => e2 ((ha k hkc).mpr z)
        have row := cc k hkc
        have f5 : tc_zf z (21 + k) 5 = y 12 k := row.2 5 (by decide)
        rw [if_neg e2, row.1, if_pos (show 5 < 8 by decide), f5]
        by_cases e3 : y 12 k = nI p
        · obtain ⟨H, hH, e13⟩ := (h.2.2.1 k hkc).2.2.2.2.2.2.2.2.2.2.1
          have hl1 : tc_ld x k ≤ 1 := by unfold tc_ld; split <;> omega
          rw [if_pos e3, lk_isFine h hkc hv hH e13 (row.2 6 (by decide)) (row.2 7 (by decide)), Option.bind_some]
          have c1 : nI (v + tc_ld x k) ≤ y 13 k ↔ v + tc_ld x k ≤ H := by rw [e13]; exact nI_leI (by omega) (by omega)
          by_cases e4 : v + tc_ld x k ≤ H
          · rw [if_pos e4, if_neg tc_10]; exact go (fun _ _ => c1.mpr e4)
          · rw [if_neg e4, if_pos rfl]; exact Or.inr ⟨rfl, fun z => e4 (c1.mp (z k hkc hke e3))⟩
        · rw [if_neg e3]; exact go (fun _ h9 => absurd h9 e3)
theorem lk_areFine (h : tc_Rl pa lv x y) (S : tc_S pa lv (tc_nb x) (tc_nc x) y z) {p v e : Nat} {a3 : Option Nat} (hv : v ≤ 100) (ha : ∀ k, k < tc_nc x → (a3 = some (21 + k) ↔ k = e)) : (f_S_areFine z (nI p) (nI v) a3 = some 1 ∧ tc_fine x y p v e) ∨ (f_S_areFine z (nI p) (nI v) a3 = some 0 ∧ ¬ tc_fine x y p v e) := by
  have en : tc_zn z = tc_nc x := S.1.2.2.1
  have e0 : f_S_areFine z (nI p) (nI v) a3 = lp_S_areFine_14 100 z (nI p) (nI v) a3 (nI (tc_nc x)) (some 1) (nI 0) := by
    unfold f_S_areFine tc_jn tc_let
    rw [en]; rfl
  rw [e0]
  rcases lk_fineL h S (p := p) hv ha 100 0 (Nat.zero_le _) (by have := h.n5; omega) with ⟨a1, a2⟩ | a1
  · exact Or.inl ⟨a1, fun k hk => a2 k (Nat.zero_le _) hk⟩
  · exact Or.inr a1
theorem lk_turnL (h : tc_Rl pa lv x y) (S : tc_S pa lv (tc_nb x) (tc_nc x) y z) {c p H : Nat} (hc : c < tc_nc x) (hp : p < 16) (hH : H ≤ 20) (e13 : y 13 c = nI H) (n : Nat) : ∀ s e, s < 16 → e ≤ 1 → (p - s) + (s - p) < n → (lp_S_canTurn_25 n z (21 + c) (nI p) (nI s) (nI e) = some 1 ∧ e = 1 ∧ ∀ r, min s p ≤ r → r ≤ max s p → tc_cnt pa (tc_nb x) r + tc_ld x c ≤ H) ∨ (lp_S_canTurn_25 n z (21 + c) (nI p) (nI s) (nI e) = some 0 ∧ ¬ (e = 1 ∧ ∀ r, min s p ≤ r → r ≤ max s p → tc_cnt pa (tc_nb x) r + tc_ld x c ≤ H)) := by
  obtain ⟨-, B, cc, -⟩ := S
  have row := cc c hc
  induction n with
  | zero => intro s e _ _ h; omega
  | succ n ih =>
    intro s e hs he hn
    rw [lp_S_canTurn_25]
    have c8 := h.c8 hs
    have fi := lk_isFine h hc (v := tc_cnt pa (tc_nb x) s) (by omega) hH e13 (f := tc_zf z (21 + c)) (row.2 6 (by decide)) (row.2 7 (by decide))
    rw [tc_cl (show s ≤ 1000 by omega), if_pos (tc_g2 hs (by omega)), (B s hs).1, row.1, fi, Option.bind_some]
    dsimp only [tc_let, tc_jn]
    obtain ⟨e', he', ee, eq⟩ : ∃ e', e' ≤ 1 ∧ (nI e &&& (if tc_cnt pa (tc_nb x) s + tc_ld x c ≤ H then (1 : Int32) else 0)) = nI e' ∧ (e' = 1 ↔ e = 1 ∧ tc_cnt pa (tc_nb x) s + tc_ld x c ≤ H) := by
      by_cases w : tc_cnt pa (tc_nb x) s + tc_ld x c ≤ H
      · rw [if_pos w]
        refine ⟨e, he, ?_, ⟨fun z => ⟨z, w⟩, fun z => z.1⟩⟩
        rcases (show e = 0 ∨ e = 1 by omega) with rfl | rfl <;> decide
      · rw [if_neg w]
        refine ⟨0, by decide, ?_, ⟨fun z => absurd z (by decide), fun z => absurd z.2 w⟩⟩
        rcases (show e = 0 ∨ e = 1 by omega) with rfl | rfl <;> decide
    rw [ee]
    have i1 : nI s = nI p ↔ s = p := nI_eq (by omega) (by omega)
    by_cases e1 : s = p
    · rw [if_pos (i1.mpr e1)]
      rcases (show e' = 0 ∨ e' = 1 by omega) with e2 | e2
      · rw [e2, if_pos (show nI 0 = 0 ∨ nI 0 = 1 from Or.inl rfl)]
        refine Or.inr ⟨rfl, fun w => ?_⟩
        have := eq.mpr ⟨w.1, w.2 s (by omega) (by omega)⟩
        omega
      · rw [e2, if_pos (show nI 1 = 0 ∨ nI 1 = 1 from Or.inr rfl)]
        have g := eq.mp e2
        exact Or.inl ⟨rfl, g.1, fun r h1 h2 => by have : r = s := by omega
                                                  rw [this]; exact g.2⟩
    · rw [if_neg (fun z => e1 (i1.mp z))]
      have dwn : ∀ s, s < 16 → 0 < s → nI s + (-1) = nI (s - 1) := by decide +kernel
      have i2 : nI p ≤ nI s ↔ p ≤ s := nI_leI (by omega) (by omega)
      have fin : ∀ s', s' < 16 → (∀ r, (min s p ≤ r ∧ r ≤ max s p) ↔ r = s ∨ (min s' p ≤ r ∧ r ≤ max s' p)) → (p - s') + (s' - p) < n → (lp_S_canTurn_25 n z (21 + c) (nI p) (nI s') (nI e') = some 1 ∧ e = 1 ∧ ∀ r, min s p ≤ r → r ≤ max s p → tc_cnt pa (tc_nb x) r + tc_ld x c ≤ H) ∨ (lp_S_canTurn_25 n z (21 + c) (nI p) (nI s') (nI e') = some 0 ∧ ¬ (e = 1 ∧ ∀ r, min s p ≤ r → r ≤ max s p → tc_cnt pa (tc_nb x) r + tc_ld x c ≤ H)) := fun s' hs' hr hm => by
        rcases ih s' e' hs' he' hm with ⟨a1, a2, a3⟩ | ⟨a1, a2⟩
        · have g := eq.mp a2
          refine Or.inl ⟨a1, g.1, fun r h1 h2 => ?_⟩
          rcases (hr r).mp ⟨h1, h2⟩ with w | w
          · rw [w]; exact g.2
          · exact a3 r w.1 w.2
        · refine Or.inr ⟨a1, fun w => a2 ⟨eq.mpr ⟨w.1, w.2 s (by omega) (by omega)⟩, fun r h1 h2 => ?_⟩⟩
          have := (hr r).mpr (Or.inr ⟨h1, h2⟩)
          exact w.2 r this.1 this.2
      by_cases e3 : p ≤ s
      · rw [if_pos (i2.mpr e3), dwn s hs (by omega)]
        exact fin (s - 1) (by omega) (fun r => by omega) (by omega)
      · rw [if_neg (fun z => e3 (i2.mp z)), nI_1]
        exact fin (s + 1) (by omega) (fun r => by omega) (by omega)
theorem lk_canTurn (h : tc_Rl pa lv x y) (S : tc_S pa lv (tc_nb x) (tc_nc x) y z) {c po rr d wk wo q H p : Nat} (hc : c < tc_nc x) (hp : p < 16) (C : tc_Cn y c po rr d wk wo q H) : (f_S_canTurn z (21 + c) (nI p) = some 1 ∧ (p ≤ po + rr ∧ po ≤ p + rr) ∧ ∀ s, min q p ≤ s → s ≤ max q p → tc_cnt pa (tc_nb x) s + tc_ld x c ≤ H) ∨ (f_S_canTurn z (21 + c) (nI p) = some 0 ∧ ¬ ((p ≤ po + rr ∧ po ≤ p + rr) ∧ ∀ s, min q p ≤ s → s ≤ max q p → tc_cnt pa (tc_nb x) s + tc_ld x c ≤ H)) := by
  obtain ⟨⟨e7, e8, e9, e10, e11, e12, e13⟩, hpo, hrr, hd, hwk, hwo, hq, hH, -, -⟩ := C
  have row := S.2.2.1 c hc
  have f0 : tc_zf z (21 + c) 0 = nI po := (row.2 0 (by decide)).trans e7
  have f1 : tc_zf z (21 + c) 1 = nI rr := (row.2 1 (by decide)).trans e8
  have f5 : tc_zf z (21 + c) 5 = nI q := (row.2 5 (by decide)).trans e12
  have rch : (nI rr < tc_abs (nI p - nI po)) ↔ ¬ (p ≤ po + rr ∧ po ≤ p + rr) := by
    have all : ∀ po, po < 16 → ∀ p, p < 16 → ∀ rr, rr < 16 → ((nI rr < tc_abs (nI p - nI po)) ↔ ¬ (p ≤ po + rr ∧ po ≤ p + rr)) := by decide +kernel
    exact all po hpo p hp rr (by omega)
  have e0 : f_S_canTurn z (21 + c) (nI p) = lp_S_canTurn_25 100 z (21 + c) (nI p) (nI q) (nI (if p ≤ po + rr ∧ po ≤ p + rr then 1 else 0)) := by
    unfold f_S_canTurn
    dsimp only [tc_let, tc_jn]
    rw [row.1, if_pos (show 0 < 8 by decide), if_pos (show 1 < 8 by decide), f0, f1, f5]
    by_cases w : p ≤ po + rr ∧ po ≤ p + rr
    · rw [if_neg (fun z => rch.mp z w), if_pos w, if_pos (show 5 < 8 by decide)]; rfl
    · rw [if_pos (rch.mpr w), if_neg w, if_pos (show 5 < 8 by decide)]; rfl
  rw [e0]
  rcases lk_turnL h S hc hp hH e13 100 q (if p ≤ po + rr ∧ po ≤ p + rr then 1 else 0) hq (by split <;> omega) (by omega) with ⟨a1, a2, a3⟩ | ⟨a1, a2⟩
  · refine Or.inl ⟨a1, ?_, a3⟩
    by_cases w : p ≤ po + rr ∧ po ≤ p + rr
    · exact w
    · rw [if_neg w] at a2; omega
  · refine Or.inr ⟨a1, fun w => a2 ⟨if_pos w.1, w.2⟩⟩
theorem lk_strong {c po rr d wk wo q H : Nat} (C : tc_Cn y c po rr d wk wo q H) {f : Nat → Int32} (hf : ∀ i, i < 8 → f i = y (7 + i) c) : f_S_strong 8 f = some (12 * nI wk / nI d) := by
  obtain ⟨⟨-, -, e9, e10, -⟩, -, -, hd, -⟩ := C
  have f2 : f 2 = nI d := (hf 2 (by decide)).trans e9
  have f3 : f 3 = nI wk := (hf 3 (by decide)).trans e10
  unfold f_S_strong
  rw [if_pos (by decide), if_pos (by decide), f2, f3, if_pos (fun z => by have := (nI_eq (a := d) (b := 0) (by omega) (by omega)).mp z; omega)]
theorem lk_wound {c po rr d wk wo q H u : Nat} (C : tc_Cn y c po rr d wk wo q H) (hu : u ≤ 20) {f : Nat → Int32} (hf : ∀ i, i < 8 → f i = y (7 + i) c) : f_S_wound 8 f (nI u) = some (nI (lk_tw u d)) := by
  obtain ⟨⟨-, -, e9, e10, -⟩, -, -, hd, -⟩ := C
  have f2 : f 2 = nI d := (hf 2 (by decide)).trans e9
  unfold f_S_wound
  dsimp only [tc_jn]
  rw [if_pos (by decide), f2]
  have all : ∀ u, u < 21 → ∀ d, d < 7 → 1 ≤ d → (if ¬ nI d = 0 then (if (nI u - nI u / nI d * nI d) = 0 then some (nI u / nI d) else some (nI u / nI d + 1)) else none) = some (nI (lk_tw u d)) := by decide +kernel
  exact all u (by omega) d (by omega) hd.1
end LKR
