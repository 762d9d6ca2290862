/-! The class's calls that change something, told outright. -/
section TOPS
variable {pa lv : Nat → Nat} {x : tc_X} {y : tc_Y}
theorem lk_man (h : tc_Rl pa lv x y) {c w : Nat} (hc : c < tc_nc x) (hw : w ≤ 8) : f_X2_man x (nI c) (nI w) = some (0, y 10 c, tc_si x 23 c (nI w)) ∧ tc_Rl pa lv (tc_si x 23 c (nI w)) (tc_ym y 10 c (nI w)) := by
  have h5 := h.n5
  have k := h.2.2.1 c hc
  have ew : f_X2_requireWalkers x (nI w) = some 0 := by
    unfold f_X2_requireWalkers
    rw [show f_X2_isBetween (nI w) 0 8 = some 1 from tc_bt (n := 9) (by omega) (by decide)]; rfl
  refine ⟨by simp only [f_X2_man, tc_rc0 hc (show tc_nc x ≤ 1000 by omega), Option.bind_some, if_pos, ew, if_pos (tc_g2 hc (show c ≤ 1000 by omega)), tc_leteq, tc_cl (show c ≤ 1000 by omega), k.2.2.2.1], ?_⟩
  refine h.chgC hc rfl (fun k' i h1 h2 => tc_si_ne (by omega)) (by rw [tc_si_ne (by omega), tc_ym_ne (by decide)]; exact h.1.1) (fun a ha => tc_ym_ne (by omega)) (fun a i hi ha => tc_ymi hi) ?_
  have k0 := k
  unfold tc_Rc at k0 ⊢
  rw [tc_si_eq, tc_ymv, tc_si_ne (by omega), tc_si_ne (by omega), tc_si_ne (by omega), tc_si_ne (by omega), tc_si_ne (by omega), tc_si_ne (by omega), tc_ym_ne (show 7 ≠ 10 by decide), tc_ym_ne (show 8 ≠ 10 by decide), tc_ym_ne (show 9 ≠ 10 by decide), tc_ym_ne (show 11 ≠ 10 by decide), tc_ym_ne (show 12 ≠ 10 by decide), tc_ym_ne (show 13 ≠ 10 by decide), tc_ym_ne (show 14 ≠ 10 by decide)]
  exact ⟨k0.1, k0.2.1, k0.2.2.1, rfl, k0.2.2.2.2.1, k0.2.2.2.2.2.1, k0.2.2.2.2.2.2.1, k0.2.2.2.2.2.2.2.1, k0.2.2.2.2.2.2.2.2.1, k0.2.2.2.2.2.2.2.2.2.1, k0.2.2.2.2.2.2.2.2.2.2.1, k0.2.2.2.2.2.2.2.2.2.2.2.1, fun b hb => by rw [tc_si_ne (by omega)]; exact k0.2.2.2.2.2.2.2.2.2.2.2.2 b hb⟩
theorem lk_mend (h : tc_Rl pa lv x y) {c : Nat} (hc : c < tc_nc x) : f_X2_mend x (nI c) = some (0, y 11 c, tc_si x 24 c 0) ∧ tc_Rl pa lv (tc_si x 24 c 0) (tc_ym y 11 c 0) := by
  have h5 := h.n5
  have k := h.2.2.1 c hc
  refine ⟨by simp only [f_X2_mend, tc_rc0 hc (show tc_nc x ≤ 1000 by omega), Option.bind_some, if_pos, if_pos (tc_g2 hc (show c ≤ 1000 by omega)), tc_leteq, tc_cl (show c ≤ 1000 by omega), k.2.2.2.2.1], ?_⟩
  refine h.chgC hc rfl (fun k' i h1 h2 => tc_si_ne (by omega)) (by rw [tc_si_ne (by omega), tc_ym_ne (by decide)]; exact h.1.1) (fun a ha => tc_ym_ne (by omega)) (fun a i hi ha => tc_ymi hi) ?_
  have k0 := k
  unfold tc_Rc at k0 ⊢
  rw [tc_si_eq, tc_ymv, tc_si_ne (by omega), tc_si_ne (by omega), tc_si_ne (by omega), tc_si_ne (by omega), tc_si_ne (by omega), tc_si_ne (by omega), tc_ym_ne (show 7 ≠ 11 by decide), tc_ym_ne (show 8 ≠ 11 by decide), tc_ym_ne (show 9 ≠ 11 by decide), tc_ym_ne (show 10 ≠ 11 by decide), tc_ym_ne (show 12 ≠ 11 by decide), tc_ym_ne (show 13 ≠ 11 by decide), tc_ym_ne (show 14 ≠ 11 by decide)]
  exact ⟨k0.1, k0.2.1, k0.2.2.1, k0.2.2.2.1, rfl, k0.2.2.2.2.2.1, k0.2.2.2.2.2.2.1, k0.2.2.2.2.2.2.2.1, k0.2.2.2.2.2.2.2.2.1, k0.2.2.2.2.2.2.2.2.2.1, k0.2.2.2.2.2.2.2.2.2.2.1, k0.2.2.2.2.2.2.2.2.2.2.2.1, fun b hb => by rw [tc_si_ne (by omega)]; exact k0.2.2.2.2.2.2.2.2.2.2.2.2 b hb⟩
theorem lk_build (h : tc_Rl pa lv x y) {p r d w : Nat} (hp : p < 16) (hr : 1 ≤ r ∧ r ≤ 15) (hd : 1 ≤ d ∧ d ≤ 6) (hw : w ≤ 8) : (tc_nc x < 5 ∧ f_X2_build x (nI p) (nI r) (nI d) (nI w) = some (0, nI (tc_nc x), tc_nC x (nI p) (nI r) (nI d) (nI w)) ∧ tc_Rl pa lv (tc_nC x (nI p) (nI r) (nI d) (nI w)) (tc_yC y (tc_nc x) (nI p) (nI r) (nI d) (nI w))) ∨ (tc_nc x = 5 ∧ f_X2_build x (nI p) (nI r) (nI d) (nI w) = some (3, 0, x)) := by
  have h5 := h.n5
  have ew : f_X2_requireWalkers x (nI w) = some 0 := by
    unfold f_X2_requireWalkers
    rw [show f_X2_isBetween (nI w) 0 8 = some 1 from tc_bt (n := 9) (by omega) (by decide)]; rfl
  have er : f_X2_isBetween (nI r) 1 15 = some 1 := by
    unfold f_X2_isBetween
    rw [if_neg (show ¬ nI r < 1 from fun z => absurd ((nI_ltI (b := 1) (by omega) (by omega)).mp z) (by omega)), if_neg (show ¬ (15 : Int32) < nI r from fun z => absurd ((nI_ltI (a := 15) (by omega) (by omega)).mp z) (by omega))]
  have ed : f_X2_isBetween (nI d) 1 6 = some 1 := by
    unfold f_X2_isBetween
    rw [if_neg (show ¬ nI d < 1 from fun z => absurd ((nI_ltI (b := 1) (by omega) (by omega)).mp z) (by omega)), if_neg (show ¬ (6 : Int32) < nI d from fun z => absurd ((nI_ltI (a := 6) (by omega) (by omega)).mp z) (by omega))]
  have e5 : (nI (tc_nc x) < (5 : Int32)) ↔ tc_nc x < 5 := nI_ltI (b := 5) (by omega) (by omega)
  by_cases hfull : tc_nc x < 5
  · refine Or.inl ⟨hfull, ?_, h.bd hp ((nI_leI (a := 1) (by omega) (by omega)).mpr hd.1) hfull⟩
    have e1 : nI (tc_nc (tc_nC x (nI p) (nI r) (nI d) (nI w))) - 1 = nI (tc_nc x) := pk_sub (a := tc_nc x + 1) (b := 1) (by omega)
    simp only [f_X2_build, tc_rp0 (x := x) hp, Option.bind_some, if_pos, er, if_neg tc_10, ed, ew, if_pos (e5.mpr hfull), if_pos hfull, tc_leteq, e1]
  · refine Or.inr ⟨by omega, ?_⟩
    simp only [f_X2_build, tc_rp0 (x := x) hp, Option.bind_some, if_pos, er, if_neg tc_10, ed, ew, if_neg (fun z => hfull (e5.mp z))]
/-- all hooks over a place are high enough, but for the crane e's -/
def tc_fine (x : tc_X) (y : tc_Y) (p v e : Nat) : Prop := ∀ k, k < tc_nc x → k ≠ e → y 12 k = nI p → nI (v + tc_ld x k) ≤ y 13 k
theorem tc_Rl.hooksS (h : tc_Rl pa lv x y) {p v e : Nat} {a : Int32} (ha : ∀ k, k < tc_nc x → (nI k = a ↔ k = e)) (n : Nat) : ∀ k, k ≤ tc_nc x → tc_nc x - k < n → (lp_X2_hooksAllow_3 n x (nI p) (nI v) a (nI k) = some 1 ∧ ∀ i, k ≤ i → i < tc_nc x → i ≠ e → y 12 i = nI p → nI (v + tc_ld x i) ≤ y 13 i) ∨ (lp_X2_hooksAllow_3 n x (nI p) (nI v) a (nI k) = some 0 ∧ ¬ tc_fine x y p v e) := by
  have h5 := h.1.2.2.2.2
  induction n with
  | zero => intro k _ h; omega
  | succ n ih =>
    intro k hk hn
    rw [lp_X2_hooksAllow_3]
    by_cases e1 : k = tc_nc x
    · rw [e1, if_pos (nI_le (Nat.le_refl _) (by omega))]
      exact Or.inl ⟨rfl, fun i h1 h2 => by omega⟩
    · have hkc : k < tc_nc x := by omega
      have kc := h.2.2.1 k hkc
      rw [if_neg (nI_ge (a := k) (by omega) (by omega)), tc_cl (show k ≤ 1000 by omega), if_pos (tc_g2 hkc (show k ≤ 1000 by omega))]
      simp only [tc_let, nI_1]
      have st := ih (k + 1) (by omega) (by omega)
      have go : (k ≠ e → y 12 k = nI p → nI (v + tc_ld x k) ≤ y 13 k) → (lp_X2_hooksAllow_3 n x (nI p) (nI v) a (nI (k + 1)) = some 1 ∧ ∀ i, k ≤ i → i < tc_nc x → i ≠ e → y 12 i = nI p → nI (v + tc_ld x i) ≤ y 13 i) ∨ (lp_X2_hooksAllow_3 n x (nI p) (nI v) a (nI (k + 1)) = some 0 ∧ ¬ tc_fine x y p v e) := fun hk9 => by
        rcases st with ⟨s1, s2⟩ | s
        · refine Or.inl ⟨s1, fun i h1 h2 h3 h4 => ?_⟩
          by_cases e9 : i = k
          · subst e9; exact hk9 h3 h4
          · exact s2 i (by omega) h2 h3 h4
        · exact Or.inr s
      by_cases e2 : nI k = a
      · rw [if_pos e2]; exact go (fun h9 => absurd ((ha k hkc).mp e2) h9)
      · rw [if_neg e2, kc.2.2.2.2.2.1]
        have hke : k ≠ e := fun z => e2 ((ha k hkc).mpr z)
        by_cases e3 : y 12 k = nI p
        · rw [if_pos e3, tc_low hkc]
          simp only [Option.bind_some]
          rw [kc.2.2.2.2.2.2.1]
          by_cases e4 : nI v + nI (tc_ld x k) ≤ y 13 k
          · rw [if_pos e4]; exact go (fun _ _ => by rw [← nI_add]; exact e4)
          · rw [if_neg e4]; exact Or.inr ⟨rfl, fun z => e4 (by rw [nI_add]; exact z k hkc hke e3)⟩
        · rw [if_neg e3]; exact go (fun _ h9 => absurd h9 e3)
theorem tc_Rl.hkS (h : tc_Rl pa lv x y) {p v e : Nat} {a : Int32} (ha : ∀ k, k < tc_nc x → (nI k = a ↔ k = e)) : (f_X2_hooksAllow x (nI p) (nI v) a = some 1 ∧ tc_fine x y p v e) ∨ (f_X2_hooksAllow x (nI p) (nI v) a = some 0 ∧ ¬ tc_fine x y p v e) := by
  rcases h.hooksS (p := p) (v := v) ha 100 0 (Nat.zero_le _) (by have := h.n5; omega) with ⟨a1, a2⟩ | a1
  · exact Or.inl ⟨a1, fun k hk => a2 k (Nat.zero_le _) hk⟩
  · exact Or.inr a1
theorem tc_fin1 {x : tc_X} (hn : tc_nc x ≤ 5) : ∀ k, k < tc_nc x → (nI k = -1 ↔ k = 1000) := fun k hk => ⟨fun z => absurd z (tc_nIneg (p := k) (by omega)).1, fun z => by omega⟩
theorem tc_finc {x : tc_X} (hn : tc_nc x ≤ 5) {c : Nat} (hc : c < tc_nc x) : ∀ k, k < tc_nc x → (nI k = nI c ↔ k = c) := fun k hk => nI_eq (by omega) (by omega)
theorem lk_land (h : tc_Rl pa lv x y) {p w : Nat} (hp : p < 16) (hw : 1 ≤ w ∧ w ≤ 60) : ((tc_nb x < 40 ∧ tc_cnt pa (tc_nb x) p ≤ 7 ∧ tc_fine x y p (tc_cnt pa (tc_nb x) p + 1) 1000) ∧ ∃ x', f_X2_land x (nI p) (nI w) = some (0, nI (tc_nb x), x') ∧ tc_nb x' = tc_nb x + 1 ∧ tc_nc x' = tc_nc x ∧ (∀ k, tc_ld x' k = tc_ld x k) ∧ tc_Rl (va_up pa (tc_nb x) p) (va_up lv (tc_nb x) (tc_cnt pa (tc_nb x) p)) x' (tc_ym (tc_ym (tc_ym (tc_ym y 3 (tc_nb x) (nI w)) 4 (tc_nb x) (nI p)) 5 (tc_nb x) (nI (tc_cnt pa (tc_nb x) p))) 2 0 (nI (tc_nb x) + 1))) ∨ (¬ (tc_nb x < 40 ∧ tc_cnt pa (tc_nb x) p ≤ 7 ∧ tc_fine x y p (tc_cnt pa (tc_nb x) p + 1) 1000) ∧ f_X2_land x (nI p) (nI w) = some (3, 0, x)) := by
  have h40 := h.n40
  have ew : f_X2_requireWeight x (nI w) = some 0 := by
    unfold f_X2_requireWeight
    have e : f_X2_isBetween (nI w) 1 60 = some 1 := by
      unfold f_X2_isBetween
      rw [if_neg (show ¬ nI w < 1 from fun z => absurd ((nI_ltI (b := 1) (by omega) (by omega)).mp z) (by omega)), if_neg (show ¬ (60 : Int32) < nI w from fun z => absurd ((nI_ltI (a := 60) (by omega) (by omega)).mp z) (by omega))]
    rw [e]; rfl
  have e2 := tc_rp0 (x := x) hp
  have hht := h.ht hp
  have f40 : (40 : Int32) ≤ nI (tc_nb x) ↔ 40 ≤ tc_nb x := nI_leI (a := 40) (by omega) (by omega)
  have c8 := h.c8 hp
  by_cases e40 : tc_nb x < 40
  · have nf : ¬ (40 : Int32) ≤ nI (tc_nb x) := fun z => by have := f40.mp z; omega
    generalize hcn : tc_cnt pa (tc_nb x) p = n at hht c8 ⊢
    have f8 : nI n < 8 ↔ n ≤ 7 := (nI_ltI (a := n) (b := 8) (by omega) (by omega)).trans (by omega)
    by_cases e7 : n ≤ 7
    · rcases h.hkS (p := p) (v := n + 1) (tc_fin1 h.n5) with ⟨t2, t3⟩ | ⟨t2, t3⟩
      · refine Or.inl ⟨⟨e40, e7, t3⟩, _, ?_, ?_, ?_, ?_, h.landed (v := nI w) hp hcn e7 e40⟩
        · have hX : f_X2_heightOf (tc_nB x (nI (tc_nb x)) (nI w)) (nI p) = some (nI n) := by
            rw [← hht]
            simp only [f_X2_heightOf, tc_up hp, Option.bind_some]
            have rr : (tc_nB x (nI (tc_nb x)) (nI w)).2.1 0 p = x.2.1 0 p := rfl
            rw [rr]
            rcases h.up0 hp with ⟨u1, -⟩ | ⟨b, l, u1, hb, -⟩
            · rw [u1]; rfl
            · rw [u1]
              show (if b < tc_nb x + 1 then some ((tc_nB x (nI (tc_nb x)) (nI w)).1 13 b + 1) else none) = (if b < tc_nb x then some (x.1 13 b + 1) else none)
              rw [if_pos hb, if_pos (show b < tc_nb x + 1 by omega), show (tc_nB x (nI (tc_nb x)) (nI w)).1 13 b = x.1 13 b from if_neg (fun z => by omega)]
          have put := tc_put9 (x := tc_nB x (nI (tc_nb x)) (nI w)) (j := tc_nb x) hp (show tc_nb x < tc_nb x + 1 by omega) hX
          have rr : (tc_nB x (nI (tc_nb x)) (nI w)).2.1 0 p = x.2.1 0 p := rfl
          rw [rr] at put
          have nn : tc_nb x < tc_nb (tc_sr (tc_sr (tc_si (tc_si (tc_nB x (nI (tc_nb x)) (nI w)) 12 (tc_nb x) (nI p)) 13 (tc_nb x) (nI n)) 1 (tc_nb x) (x.2.1 0 p)) 0 p (some (tc_nb x))) := Nat.lt_succ_self _
          have v10 : (tc_sr (tc_sr (tc_si (tc_si (tc_nB x (nI (tc_nb x)) (nI w)) 12 (tc_nb x) (nI p)) 13 (tc_nb x) (nI n)) 1 (tc_nb x) (x.2.1 0 p)) 0 p (some (tc_nb x))).1 10 (tc_nb x) = nI (tc_nb x) := by
            rw [tc_sr_1, tc_sr_1, tc_si_ne (by omega), tc_si_ne (by omega)]
            exact if_pos ⟨rfl, by decide, by decide⟩
          simp only [f_X2_land, e2, Option.bind_some, if_pos, ew, if_neg nf, hht, if_pos (f8.mpr e7), nI_1, t2, if_neg tc_10, if_pos e40, tc_leteq, put, if_pos nn, v10]
        · rfl
        · rfl
        · intro k
          unfold tc_ld
          rw [tc_sr_ne (by omega), tc_sr_ne (by omega)]
          rfl
      · refine Or.inr ⟨fun z => t3 z.2.2, ?_⟩
        simp only [f_X2_land, e2, Option.bind_some, if_pos, ew, if_neg nf, hht, if_pos (f8.mpr e7), nI_1, t2]
    · refine Or.inr ⟨fun z => e7 z.2.1, ?_⟩
      simp only [f_X2_land, e2, Option.bind_some, if_pos, ew, if_neg nf, hht, if_neg (show ¬ nI n < 8 from fun z => e7 (f8.mp z))]
  · refine Or.inr ⟨fun z => e40 z.1, ?_⟩
    simp only [f_X2_land, e2, Option.bind_some, if_pos, ew, if_pos (f40.mpr (show 40 ≤ tc_nb x by omega))]
theorem lk_take (h : tc_Rl pa lv x y) {c p H : Nat} (hc : c < tc_nc x) (hp : p < 16) (ep : y 12 c = nI p) (hH : H ≤ 20) (eH : y 13 c = nI H) : (x.2.1 2 c = none ∧ ∃ t l, t < tc_nb x ∧ pa t = p ∧ lv t = l ∧ tc_cnt pa (tc_nb x) p = l + 1 ∧ H = l + 1 ∧ ∃ x', f_X2_take x (nI c) = some (0, nI t, x') ∧ tc_nb x' = tc_nb x ∧ tc_nc x' = tc_nc x ∧ (∀ k, x'.2.1 2 k = if k = c then some t else x.2.1 2 k) ∧ tc_Rl (va_up pa t 16) lv x' (tc_ym (tc_ym y 14 c (nI t)) 4 t (-1))) ∨ (¬ (x.2.1 2 c = none ∧ 0 < tc_cnt pa (tc_nb x) p ∧ H = tc_cnt pa (tc_nb x) p) ∧ f_X2_take x (nI c) = some (3, 0, x)) := by
  have h40 := h.n40
  have h5 := h.n5
  have e2 := tc_rc0 hc (show tc_nc x ≤ 1000 by omega)
  have hcl := tc_cl (show c ≤ 1000 by omega)
  have hgn := tc_g2 hc (show c ≤ 1000 by omega)
  have k := h.2.2.1 c hc
  have e25 : x.1 25 c = nI p := k.2.2.2.2.2.1.trans ep
  have e26 : x.1 26 c = nI H := k.2.2.2.2.2.2.1.trans eH
  have hht := h.ht hp
  have hup := tc_up (x := x) hp
  have c8 := h.c8 hp
  cases hl : x.2.1 2 c with
  | some j =>
    refine Or.inr ⟨fun z => absurd z.1 (Option.some_ne_none j), ?_⟩
    simp only [f_X2_take, e2, Option.bind_some, if_pos, hcl, if_pos hgn, tc_leteq, e25, hup, hl]
    cases x.2.1 0 p <;> rfl
  | none =>
    rcases h.up0 hp with ⟨u1, u2⟩ | ⟨t, l, u1, ht, hpt, hlt, hcn⟩
    · refine Or.inr ⟨fun z => by omega, ?_⟩
      simp only [f_X2_take, e2, Option.bind_some, if_pos, hcl, if_pos hgn, tc_leteq, e25, hup, hl, u1, tc_oc]
    · have hhe : nI H = nI (l + 1) ↔ H = l + 1 := nI_eq (by omega) (by omega)
      by_cases e : H = l + 1
      · refine Or.inl ⟨rfl, t, l, ht, hpt, hlt, hcn, e, tc_sr (tc_si (tc_si (tc_sr x 0 p (x.2.1 1 t)) 12 t (-1)) 14 t (nI c)) 2 c (some t), ?_, rfl, rfl, ?_, h.taken hc hl hp ht hpt hlt hcn⟩
        · have e10 := (h.2.1 t ht).1
          have rem : f_X2_removeUppermost x (nI p) = some (tc_si (tc_sr x 0 p (x.2.1 1 t)) 12 t (-1)) := by
            have hb2 : ∀ j, x.2.1 1 t = some j → j < tc_nb x := (h.2.1 t ht).2.2.2.2.2.2
            simp only [f_X2_removeUppermost, hup, u1, tc_oc, Option.bind_some, (tc_pl1 hp).1, if_neg tc_10, if_pos ht, tc_cl (show p ≤ 1000 by omega), if_pos (tc_g2 hp (show p ≤ 1000 by omega)), tc_leteq]
            cases hbl : x.2.1 1 t with
            | none => rfl
            | some j => simp only [if_pos (hb2 j hbl)]
          have n1 : t < tc_nb (tc_si (tc_sr x 0 p (x.2.1 1 t)) 12 t (-1)) := ht
          have n2 : c < tc_nc (tc_si (tc_si (tc_sr x 0 p (x.2.1 1 t)) 12 t (-1)) 14 t (nI c)) := hc
          have v10 : (tc_sr (tc_si (tc_si (tc_sr x 0 p (x.2.1 1 t)) 12 t (-1)) 14 t (nI c)) 2 c (some t)).1 10 t = nI t := by
            rw [tc_sr_1, tc_si_ne (by omega), tc_si_ne (by omega), tc_sr_1]; exact e10
          simp only [f_X2_take, e2, Option.bind_some, if_pos, hcl, if_pos hgn, tc_leteq, e25, hup, hl, u1, tc_oc, hht, hcn, e26, if_pos (hhe.mpr e), rem, if_pos n1, if_pos n2, v10]
        · intro k9
          by_cases e9 : k9 = c
          · subst e9; rw [tc_sr_eq, if_pos rfl]
          · rw [tc_sr_ne (by omega), tc_si_2, tc_si_2, tc_sr_ne (by omega), if_neg e9]
      · refine Or.inr ⟨fun z => e (by omega), ?_⟩
        simp only [f_X2_take, e2, Option.bind_some, if_pos, hcl, if_pos hgn, tc_leteq, e25, hup, hl, u1, tc_oc, hht, hcn, e26, if_neg (fun z => e (hhe.mp z))]
theorem lk_lay (h : tc_Rl pa lv x y) {c p H : Nat} (hc : c < tc_nc x) (hp : p < 16) (ep : y 12 c = nI p) (hH : H ≤ 20) (eH : y 13 c = nI H) : (∃ j, x.2.1 2 c = some j ∧ H = tc_cnt pa (tc_nb x) p + 1 ∧ tc_cnt pa (tc_nb x) p ≤ 7 ∧ tc_fine x y p (tc_cnt pa (tc_nb x) p + 1) c ∧ ∃ x', f_X2_lay x (nI c) = some (0, nI (tc_cnt pa (tc_nb x) p + 1), x') ∧ tc_nb x' = tc_nb x ∧ tc_nc x' = tc_nc x ∧ (∀ k, x'.2.1 2 k = if k = c then none else x.2.1 2 k) ∧ tc_Rl (va_up pa j p) (va_up lv j (tc_cnt pa (tc_nb x) p)) x' (tc_ym (tc_ym (tc_ym y 4 j (nI p)) 5 j (nI (tc_cnt pa (tc_nb x) p))) 14 c (-1))) ∨ (¬ (¬ x.2.1 2 c = none ∧ H = tc_cnt pa (tc_nb x) p + 1 ∧ tc_cnt pa (tc_nb x) p ≤ 7 ∧ tc_fine x y p (tc_cnt pa (tc_nb x) p + 1) c) ∧ f_X2_lay x (nI c) = some (3, 0, x)) := by
  have h40 := h.n40
  have h5 := h.n5
  have e2 := tc_rc0 hc (show tc_nc x ≤ 1000 by omega)
  have hcl := tc_cl (show c ≤ 1000 by omega)
  have hgn := tc_g2 hc (show c ≤ 1000 by omega)
  have k := h.2.2.1 c hc
  have e25 : x.1 25 c = nI p := k.2.2.2.2.2.1.trans ep
  have e26 : x.1 26 c = nI H := k.2.2.2.2.2.2.1.trans eH
  have hht := h.ht hp
  have c8 := h.c8 hp
  cases hl : x.2.1 2 c with
  | none =>
    refine Or.inr ⟨fun z => z.1 rfl, ?_⟩
    simp only [f_X2_lay, e2, Option.bind_some, if_pos, hcl, if_pos hgn, tc_leteq, e25, hl, tc_oc, hht]
  | some j =>
    obtain ⟨hj, -⟩ := k.2.2.2.2.2.2.2.2.2.2.2.2 j hl
    generalize hcn : tc_cnt pa (tc_nb x) p = n at hht c8 ⊢
    have hhe : nI H = nI (n + 1) ↔ H = n + 1 := nI_eq (by omega) (by omega)
    by_cases e : H = n + 1
    · have f8 : nI (n + 1) ≤ 8 ↔ n ≤ 7 := (nI_leI (a := n + 1) (b := 8) (by omega) (by omega)).trans (by omega)
      by_cases e7 : n ≤ 7
      · rcases h.hkS (p := p) (v := n + 1) (tc_finc h5 hc) with ⟨t2, t3⟩ | ⟨t2, t3⟩
        · refine Or.inl ⟨j, rfl, e, e7, t3, tc_sr (tc_sr (tc_si (tc_si (tc_si (tc_sr x 2 c none) 14 j (-1)) 12 j (nI p)) 13 j (nI n)) 1 j (x.2.1 0 p)) 0 p (some j), ?_, rfl, rfl, ?_, h.laid hc hl hp hcn e7⟩
          · have rr : (tc_si (tc_sr x 2 c none) 14 j (-1)).2.1 0 p = x.2.1 0 p := by rw [tc_si_2, tc_sr_ne (by omega)]
            have v25 : (tc_si (tc_sr x 2 c none) 14 j (-1)).1 25 c = nI p := by rw [tc_si_ne (by omega), tc_sr_1]; exact e25
            have hX : f_X2_heightOf (tc_si (tc_sr x 2 c none) 14 j (-1)) (nI p) = some (nI n) := by
              rw [← hht]
              simp only [f_X2_heightOf, tc_up hp, Option.bind_some, rr]
              cases x.2.1 0 p with
              | none => rfl
              | some b =>
                show (if b < tc_nb x then some ((tc_si (tc_sr x 2 c none) 14 j (-1)).1 13 b + 1) else none) = (if b < tc_nb x then some (x.1 13 b + 1) else none)
                rw [tc_si_ne (by omega), tc_sr_1]
            have n1 : j < tc_nb (tc_sr x 2 c none) := hj
            have put := tc_put9 (x := tc_si (tc_sr x 2 c none) 14 j (-1)) hp hj hX
            rw [rr] at put
            simp only [f_X2_lay, e2, Option.bind_some, if_pos, hcl, if_pos hgn, tc_leteq, e25, hl, tc_oc, hht, e26, nI_1, if_pos (hhe.mpr e), if_pos (f8.mpr e7), t2, if_neg tc_10, if_pos n1, v25, put]
          · intro k9
            by_cases e9 : k9 = c
            · subst e9; rw [tc_sr_ne (by omega), tc_sr_ne (by omega), tc_si_2, tc_si_2, tc_si_2, tc_sr_eq, if_pos rfl]
            · rw [tc_sr_ne (by omega), tc_sr_ne (by omega), tc_si_2, tc_si_2, tc_si_2, tc_sr_ne (by omega), if_neg e9]
        · refine Or.inr ⟨fun z => t3 z.2.2.2, ?_⟩
          simp only [f_X2_lay, e2, Option.bind_some, if_pos, hcl, if_pos hgn, tc_leteq, e25, hl, tc_oc, hht, e26, nI_1, if_pos (hhe.mpr e), if_pos (f8.mpr e7), t2]
      · refine Or.inr ⟨fun z => e7 z.2.2.1, ?_⟩
        simp only [f_X2_lay, e2, Option.bind_some, if_pos, hcl, if_pos hgn, tc_leteq, e25, hl, tc_oc, hht, e26, nI_1, if_pos (hhe.mpr e), if_neg (show ¬ nI (n + 1) ≤ 8 from fun z => e7 (f8.mp z))]
    · refine Or.inr ⟨fun z => e z.2.1, ?_⟩
      simp only [f_X2_lay, e2, Option.bind_some, if_pos, hcl, if_pos hgn, tc_leteq, e25, hl, tc_oc, hht, e26, nI_1, if_neg (fun z => e (hhe.mp z))]
theorem lk_turn (h : tc_Rl pa lv x y) {c po rr q H p : Nat} (hc : c < tc_nc x) (hp : p < 16) (hpo : po < 16) (hq : q < 16) (hr15 : rr ≤ 15) (e7 : y 7 c = nI po) (e8 : y 8 c = nI rr) (ep : y 12 c = nI q) (hH : H ≤ 20) (eH : y 13 c = nI H) : ((p ≤ po + rr ∧ po ≤ p + rr) ∧ (∀ s, min q p ≤ s → s ≤ max q p → tc_cnt pa (tc_nb x) s + tc_ld x c ≤ H) ∧ f_X2_turn x (nI c) (nI p) = some (0, tc_abs (nI q - nI p), tc_si (tc_si x 25 c (nI p)) 0 0 (x.1 0 0 + tc_abs (nI q - nI p))) ∧ tc_Rl pa lv (tc_si (tc_si x 25 c (nI p)) 0 0 (x.1 0 0 + tc_abs (nI q - nI p))) (tc_ym (tc_ym y 12 c (nI p)) 1 0 (y 1 0 + tc_abs (nI q - nI p)))) ∨ (¬ ((p ≤ po + rr ∧ po ≤ p + rr) ∧ (∀ s, min q p ≤ s → s ≤ max q p → tc_cnt pa (tc_nb x) s + tc_ld x c ≤ H)) ∧ f_X2_turn x (nI c) (nI p) = some (3, 0, x)) := by
  have h40 := h.n40
  have h5 := h.n5
  have e2 := tc_rc0 hc (show tc_nc x ≤ 1000 by omega)
  have p2 := tc_rp0 (x := x) hp
  have hcl := tc_cl (show c ≤ 1000 by omega)
  have hgn := tc_g2 hc (show c ≤ 1000 by omega)
  have k := h.2.2.1 c hc
  have ep2 : x.1 25 c = nI q := k.2.2.2.2.2.1.trans ep
  have e26 : x.1 26 c = nI H := k.2.2.2.2.2.2.1.trans eH
  have rch : (nI rr < tc_abs (nI po - nI p)) ↔ ¬ (p ≤ po + rr ∧ po ≤ p + rr) := by
    have all : ∀ po, po < 16 → ∀ p, p < 16 → ∀ rr, rr < 16 → ((nI rr < tc_abs (nI po - nI p)) ↔ ¬ (p ≤ po + rr ∧ po ≤ p + rr)) := by decide +kernel
    exact all po hpo p hp rr (by omega)
  have r2 : f_X1_reaches x c (nI p) = some (if nI rr < tc_abs (nI po - nI p) then 0 else 1) := by
    unfold f_X1_reaches f_X2_distance
    simp only [if_pos hc, tc_leteq, Option.bind_some, k.1, e7, k.2.1, e8]
    split <;> rfl
  have fs := tc_fo_spec (tc_cnt pa (tc_nb x)) (max q p + 1 - min q p) (min q p) 0
  have hfo : (nI (tc_fo (tc_cnt pa (tc_nb x)) (max q p + 1 - min q p) (min q p) 0) + nI (tc_ld x c) ≤ x.1 26 c) ↔ (∀ s, min q p ≤ s → s ≤ max q p → tc_cnt pa (tc_nb x) s + tc_ld x c ≤ H) := by
    have hl1 : tc_ld x c ≤ 1 := by unfold tc_ld; split <;> omega
    have hle : tc_fo (tc_cnt pa (tc_nb x)) (max q p + 1 - min q p) (min q p) 0 ≤ 40 := by
      rcases fs.2.2 with z | ⟨s, s1, s2, s3⟩
      · omega
      · rw [s3]; have := tc_cnt_le pa s (tc_nb x); omega
    rw [e26, nI_add, nI_leI (by omega) (by omega)]
    refine ⟨fun z s h1 h2 => ?_, fun z => ?_⟩
    · have := fs.2.1 s h1 (by omega); omega
    · rcases fs.2.2 with e | ⟨s, s1, s2, s3⟩
      · have := z (min q p) (Nat.le_refl _) (by omega); omega
      · have := z s s1 (by omega); omega
  by_cases w1 : p ≤ po + rr ∧ po ≤ p + rr
  · rw [if_neg (fun z => rch.mp z w1)] at r2
    by_cases w2 : ∀ s, min q p ≤ s → s ≤ max q p → tc_cnt pa (tc_nb x) s + tc_ld x c ≤ H
    · refine Or.inl ⟨w1, w2, ?_, h.setH hc hp _⟩
      simp only [f_X2_turn, e2, Option.bind_some, if_pos, p2, hcl, if_pos hgn, tc_leteq, r2, if_neg tc_10, ep2, h.hb hq hp, tc_low hc, if_pos (hfo.mpr w2), f_X2_distance, tc_si_ne (show ¬ (0 = 25 ∧ 0 = c) by omega)]
    · refine Or.inr ⟨fun z => w2 z.2, ?_⟩
      simp only [f_X2_turn, e2, Option.bind_some, if_pos, p2, hcl, if_pos hgn, tc_leteq, r2, if_neg tc_10, ep2, h.hb hq hp, tc_low hc, if_neg (fun z => w2 (hfo.mp z))]
  · rw [if_pos (rch.mpr w1)] at r2
    refine Or.inr ⟨fun z => w1 z.1, ?_⟩
    simp only [f_X2_turn, e2, Option.bind_some, if_pos, p2, hcl, if_pos hgn, tc_leteq, r2]
/-- ticks to wind so many levels -/
def lk_tw (b d : Nat) : Nat := (b + d - 1) / d
theorem lk_twI {a b d : Nat} (ha : a ≤ 20) (hb : b ≤ a) (hd : 1 ≤ d ∧ d ≤ 6) : ((nI a - nI b) + nI d - 1) / nI d = nI (lk_tw (a - b) d) ∧ lk_tw (a - b) d ≤ 20 := by
  have e : nI a - nI b = nI (a - b) := pk_sub (by omega)
  rw [e]
  have all : ∀ u, u < 21 → ∀ d, d < 7 → 1 ≤ d → ((nI u + nI d) - 1) / nI d = nI (lk_tw u d) ∧ lk_tw u d ≤ 20 := by decide +kernel
  exact all (a - b) (by omega) d (by omega) hd.1
theorem lk_wI {T w : Nat} (hT : T ≤ 20) (hw : w ≤ 60) : nI T * (nI w / 20 + 1) = nI (T * (w / 20 + 1)) ∧ T * (w / 20 + 1) ≤ 80 := by
  have all : ∀ T, T < 21 → ∀ w, w < 61 → nI T * (nI w / 20 + 1) = nI (T * (w / 20 + 1)) ∧ T * (w / 20 + 1) ≤ 80 := by decide +kernel
  exact all T (by omega) w (by omega)
/-- what a crane can lift, against a weight -/
def lk_weak (wk d w : Nat) : Prop := 12 * wk / d < w
theorem lk_wk {wk d w : Nat} (hk : wk ≤ 8) (hd : 1 ≤ d ∧ d ≤ 6) (hw : w ≤ 60) : (12 * nI wk / nI d < nI w ↔ lk_weak wk d w) ∧ 12 * nI wk / nI d = nI (12 * wk / d) ∧ 12 * wk / d ≤ 96 := by
  have all : ∀ k, k < 9 → ∀ d, d < 7 → 1 ≤ d → 12 * nI k / nI d = nI (12 * k / d) ∧ 12 * k / d ≤ 96 := by decide +kernel
  obtain ⟨e1, e2⟩ := all wk (by omega) d (by omega) hd.1
  refine ⟨?_, e1, e2⟩
  rw [e1]
  exact nI_ltI (by omega) (by omega)
theorem lk_hoist (h : tc_Rl pa lv x y) {c A po rr d wk wo q H : Nat} (hc : c < tc_nc x) (hA : A ≤ 20) (C : tc_Cn y c po rr d wk wo q H) (hB : ∀ b, b < tc_nb x → ∃ w, 1 ≤ w ∧ w ≤ 60 ∧ y 3 b = nI w) :
    ((A < tc_cnt pa (tc_nb x) q + tc_ld x c ∨ (H < A ∧ ∃ j w, x.2.1 2 c = some j ∧ y 3 j = nI w ∧ w ≤ 60 ∧ lk_weak wk d w)) ∧ f_X2_hoist x (nI c) (nI A) = some (3, 0, x)) ∨
    (tc_cnt pa (tc_nb x) q + tc_ld x c ≤ A ∧ (∃ T, T = (if H ≤ A then lk_tw (A - H) d else lk_tw (H - A) d) ∧ T ≤ 20 ∧
      (((H ≤ A ∨ x.2.1 2 c = none) ∧ (A ≤ H ∨ x.2.1 2 c = none ∨ ∃ j w, x.2.1 2 c = some j ∧ y 3 j = nI w ∧ w ≤ 60 ∧ ¬ lk_weak wk d w) ∧ ∃ x', f_X2_hoist x (nI c) (nI A) = some (0, nI T, x') ∧ tc_nb x' = tc_nb x ∧ tc_nc x' = tc_nc x ∧ x'.2.1 2 = x.2.1 2 ∧ tc_Rl pa lv x' (tc_ym (tc_ym (tc_ym y 11 c (y 11 c)) 13 c (nI A)) 1 0 (y 1 0 + nI T))) ∨
       (A < H ∧ ∃ j w, x.2.1 2 c = some j ∧ j < tc_nb x ∧ y 14 c = nI j ∧ pa j = 16 ∧ y 3 j = nI w ∧ w ≤ 60 ∧
          ((wo + T * (w / 20 + 1) ≤ 99 ∧ ∃ x', f_X2_hoist x (nI c) (nI A) = some (0, nI T, x') ∧ tc_nb x' = tc_nb x ∧ tc_nc x' = tc_nc x ∧ x'.2.1 2 = x.2.1 2 ∧ tc_Rl pa lv x' (tc_ym (tc_ym (tc_ym y 11 c (nI (wo + T * (w / 20 + 1)))) 13 c (nI A)) 1 0 (y 1 0 + nI T))) ∨
           (¬ wo + T * (w / 20 + 1) ≤ 99 ∧ ∃ x', f_X2_hoist x (nI c) (nI A) = some (0, -1, x') ∧ tc_nb x' = tc_nb x ∧ tc_nc x' = tc_nc x ∧ (∀ k, x'.2.1 2 k = if k = c then none else x.2.1 2 k) ∧ tc_Rl (va_up pa j 17) lv x' (tc_ym (tc_ym (tc_ym y 4 j (-2)) 14 c (-1)) 11 c 99))))))) := by
  obtain ⟨⟨e7, e8, e9, e10, e11, e12, eH⟩, hpo, hrr, hd, hwk, hwo, hp, hH, -, -⟩ := C
  have h40 := h.n40
  have h5 := h.n5
  have e2 := tc_rc0 hc (show tc_nc x ≤ 1000 by omega)
  have hcl := tc_cl (show c ≤ 1000 by omega)
  have hgn := tc_g2 hc (show c ≤ 1000 by omega)
  have k := h.2.2.1 c hc
  have e25 : x.1 25 c = nI q := k.2.2.2.2.2.1.trans e12
  have e26 : x.1 26 c = nI H := k.2.2.2.2.2.2.1.trans eH
  have e24 : x.1 24 c = nI wo := k.2.2.2.2.1.trans e11
  have e22 : x.1 22 c = nI d := k.2.2.1.trans e9
  have e23 : x.1 23 c = nI wk := k.2.2.2.1.trans e10
  have r3 : f_X2_isBetween (nI A) 0 20 = some 1 := tc_bt (n := 21) (by omega) (by decide)
  have ht := h.ht hp
  have low := tc_low hc (nI (tc_cnt pa (tc_nb x) q))
  have c8 := h.c8 hp
  have hl1 : tc_ld x c ≤ 1 := by unfold tc_ld; split <;> omega
  have cmp : (nI A ≤ nI H ↔ A ≤ H) ∧ (nI H ≤ nI A ↔ H ≤ A) := ⟨nI_leI (by omega) (by omega), nI_leI (by omega) (by omega)⟩
  have lowc : (nI (tc_cnt pa (tc_nb x) q) + nI (tc_ld x c) ≤ nI A) ↔ tc_cnt pa (tc_nb x) q + tc_ld x c ≤ A := by rw [nI_add]; exact nI_leI (by omega) (by omega)
  by_cases w : tc_cnt pa (tc_nb x) q + tc_ld x c ≤ A
  case neg =>
    refine Or.inl ⟨Or.inl (by omega), ?_⟩
    simp only [f_X2_hoist, e2, Option.bind_some, if_pos, r3, if_neg tc_10, hcl, if_pos hgn, tc_leteq, e25, ht, low, if_neg (fun z => w (lowc.mp z))]
  have S : f_X2_hoist x (nI c) (nI A) = (tc_oc (x.2.1 2 c) (if A ≤ H then (if H ≤ A then tc_b2 (f_X2_raiseHook x c (nI A)) (fun r19 x20 => some (0, r19, x20)) else tc_b2 (f_X2_lowerHook x c (nI A)) (fun r22 x23 => some (0, r22, x23))) else (if H ≤ A then tc_b2 (f_X2_raiseHook x c (nI A)) (fun r26 x27 => some (0, r26, x27)) else tc_b2 (f_X2_lowerHook x c (nI A)) (fun r29 x30 => some (0, r29, x30)))) (fun j16 => (if A ≤ H then (if H ≤ A then tc_b2 (f_X2_raiseHook x c (nI A)) (fun r34 x35 => some (0, r34, x35)) else tc_b2 (f_X2_lowerHook x c (nI A)) (fun r37 x38 => some (0, r37, x38))) else (if j16 < tc_nb x then Option.bind (f_X1_canLift x c (x.1 11 j16)) (fun r41 => (if r41 = 0 then some (3, 0, x) else (if H ≤ A then tc_b2 (f_X2_raiseHook x c (nI A)) (fun r45 x46 => some (0, r45, x46)) else tc_b2 (f_X2_lowerHook x c (nI A)) (fun r48 x49 => some (0, r48, x49))))) else none)))) := by
    simp only [f_X2_hoist, e2, Option.bind_some, if_pos, r3, if_neg tc_10, hcl, if_pos hgn, tc_leteq, e25, ht, low, if_pos (lowc.mpr w), e26, cmp.1, cmp.2]
  have sV : ∀ W t, tc_nb (tc_si (tc_si (tc_si x 24 c W) 26 c (nI A)) 0 0 (x.1 0 0 + t)) = tc_nb x := fun _ _ => rfl
  by_cases up : H ≤ A
  · obtain ⟨tI, t20⟩ := lk_twI hA up hd
    have rz := h.raise hc hA e26
    rw [e22, tI] at rz
    have su := h.setU hc hA (nI (lk_tw (A - H) d))
    rw [show tc_ym y 13 c (nI A) = tc_ym (tc_ym y 11 c (y 11 c)) 13 c (nI A) by rw [tc_ym_same]] at su
    by_cases dn : A ≤ H
    · refine Or.inr ⟨w, lk_tw (A - H) d, (if_pos up).symm, t20, Or.inl ⟨Or.inl up, Or.inl dn, tc_si (tc_si x 26 c (nI A)) 0 0 (x.1 0 0 + nI (lk_tw (A - H) d)), ?_, rfl, rfl, rfl, su⟩⟩
      rw [S, if_pos dn, if_pos up, rz]
      cases x.2.1 2 c with
      | none => rfl
      | some j => simp only [tc_oc, if_pos dn]; rfl
    · cases hl : x.2.1 2 c with
      | none =>
        refine Or.inr ⟨w, lk_tw (A - H) d, (if_pos up).symm, t20, Or.inl ⟨Or.inl up, Or.inr (Or.inl rfl), tc_si (tc_si x 26 c (nI A)) 0 0 (x.1 0 0 + nI (lk_tw (A - H) d)), ?_, rfl, rfl, rfl, su⟩⟩
        rw [S, if_neg dn, if_pos up, rz, hl]
        rfl
      | some j =>
        obtain ⟨hj, -⟩ := k.2.2.2.2.2.2.2.2.2.2.2.2 j hl
        obtain ⟨wt, w1, w60, e3⟩ := hB j hj
        have e11 := (h.2.1 j hj).2.1
        have cl := h.cl hc (x.1 11 j)
        rw [e11, e3, e22, e23] at cl
        have kk := (lk_wk hwk hd w60).1
        by_cases ws : lk_weak wk d wt
        · rw [if_pos (kk.mpr ws)] at cl
          refine Or.inl ⟨Or.inr ⟨by omega, j, wt, rfl, e3, w60, ws⟩, ?_⟩
          rw [S, hl, if_neg dn]
          simp only [tc_oc, if_neg dn, if_pos hj, e11, e3, cl, Option.bind_some, if_pos]
        · rw [if_neg (fun z => ws (kk.mp z))] at cl
          refine Or.inr ⟨w, lk_tw (A - H) d, (if_pos up).symm, t20, Or.inl ⟨Or.inl up, Or.inr (Or.inr ⟨j, wt, rfl, e3, w60, ws⟩), tc_si (tc_si x 26 c (nI A)) 0 0 (x.1 0 0 + nI (lk_tw (A - H) d)), ?_, rfl, rfl, rfl, su⟩⟩
          rw [S, hl]
          simp only [tc_oc, if_neg dn, if_pos hj, e11, e3, cl, Option.bind_some, if_neg tc_10, if_pos up, rz, tc_b2]
  · have dn : A ≤ H := by omega
    obtain ⟨tI, t20⟩ := lk_twI hH dn hd
    cases hl : x.2.1 2 c with
    | none =>
      have rz := h.lowN hc hA e26 hl
      rw [e22, tI] at rz
      have su := h.setU hc hA (nI (lk_tw (H - A) d))
      rw [show tc_ym y 13 c (nI A) = tc_ym (tc_ym y 11 c (y 11 c)) 13 c (nI A) by rw [tc_ym_same]] at su
      refine Or.inr ⟨w, lk_tw (H - A) d, (if_neg up).symm, t20, Or.inl ⟨Or.inr rfl, Or.inl dn, tc_si (tc_si x 26 c (nI A)) 0 0 (x.1 0 0 + nI (lk_tw (H - A) d)), ?_, rfl, rfl, rfl, su⟩⟩
      rw [S, if_pos dn, if_neg up, rz, hl]
      rfl
    | some j =>
      obtain ⟨hj, y14, pj, -⟩ := k.2.2.2.2.2.2.2.2.2.2.2.2 j hl
      obtain ⟨wt, w1, w60, e3⟩ := hB j hj
      have e11b := (h.2.1 j hj).2.1
      have rz := h.lowL hc hA e26 hl hj
      obtain ⟨wI, w80⟩ := lk_wI t20 w60
      have cW : nI (wo + lk_tw (H - A) d * (wt / 20 + 1)) ≤ 99 ↔ wo + lk_tw (H - A) d * (wt / 20 + 1) ≤ 99 := nI_leI (b := 99) (by omega) (by omega)
      rw [e22, tI, e11b, e3, wI, e24, nI_add] at rz
      refine Or.inr ⟨w, lk_tw (H - A) d, (if_neg up).symm, t20, Or.inr ⟨by omega, j, wt, rfl, hj, y14, pj, e3, w60, ?_⟩⟩
      by_cases wv : wo + lk_tw (H - A) d * (wt / 20 + 1) ≤ 99
      · rw [if_pos (cW.mpr wv)] at rz
        refine Or.inl ⟨wv, tc_si (tc_si (tc_si x 24 c (nI (wo + lk_tw (H - A) d * (wt / 20 + 1)))) 26 c (nI A)) 0 0 (x.1 0 0 + nI (lk_tw (H - A) d)), ?_, rfl, rfl, rfl, h.setV hc hA _ _⟩
        rw [S, if_pos dn, if_neg up, rz, hl]
        simp only [tc_oc, if_pos dn]
        rfl
      · rw [if_neg (fun z => wv (cW.mp z))] at rz
        refine Or.inr ⟨wv, tc_si (tc_sr (tc_si (tc_si x 14 j (-1)) 15 j 1) 2 c none) 24 c 99, ?_, rfl, rfl, fun k9 => ?_, h.fall hc hl⟩
        · rw [S, if_pos dn, if_neg up, rz, hl]
          simp only [tc_oc, if_pos dn]
          rfl
        · rw [tc_si_2]
          by_cases e9 : k9 = c
          · rw [e9, tc_sr_eq, if_pos rfl]
          · rw [tc_sr_ne (by omega), if_neg e9]
            rfl
end TOPS
