/-! What an act does: the class and the law's own wharf tell the same, the invariant holds on, and little has changed. -/
def tc_T (pa : Nat → Nat) (x : tc_X) (y : tc_Y) (t : Nat) (pa' : Nat → Nat) (x' : tc_X) (y' : tc_Y) (t' : Nat) : Prop :=
  (t ≤ t' ∧ t' ≤ t + 35) ∧ (tc_nb x ≤ tc_nb x' ∧ tc_nc x ≤ tc_nc x') ∧ (∀ b, b < tc_nb x → pa b = 17 → pa' b = 17) ∧ (tc_cnt pa (tc_nb x) 17 ≤ tc_cnt pa' (tc_nb x') 17 ∧ tc_cnt pa' (tc_nb x') 17 ≤ tc_cnt pa (tc_nb x) 17 + 1) ∧ ∃ c, (∀ k, k < tc_nc x → k ≠ c → ∀ i, i < 8 → y' (7 + i) k = y (7 + i) k) ∧ (c < tc_nc x → (y' 7 c = y 7 c ∧ y' 8 c = y 8 c ∧ y' 9 c = y 9 c) ∧ (y' 11 c ≤ y 11 c ∨ (¬ y 14 c < 0 ∧ (y' 14 c < 0 ∨ ¬ y 13 c ≤ y' 13 c) ∧ (0 ≤ y' 14 c ∨ y' 11 c = 99))))
def tc_A (r : Option (Int32 × tc_X × tc_Z)) (pa lv : Nat → Nat) (x : tc_X) (y : tc_Y) (t : Nat) : Prop := ∃ pa' lv' x' y' z' t', r = some (1, x', z') ∧ tc_J pa' lv' x' y' z' t' ∧ tc_T pa x y t pa' x' y' t'
theorem tc_Ex.upd {pa pa' : Nat → Nat} {x x' : tc_X} {y y' : tc_Y} (E : tc_Ex pa x y) (c : Nat) (hw : ∀ b, b < tc_nb x' → ∃ w, 1 ≤ w ∧ w ≤ 60 ∧ y' 3 b = nI w) (hk : ∀ k, k < tc_nc x' → k ≠ c → k < tc_nc x ∧ (∀ i, i < 8 → y' (7 + i) k = y (7 + i) k) ∧ (∀ q H, q < 16 → H ≤ 20 → y 12 k = nI q → y 13 k = nI H → tc_cnt pa (tc_nb x) q + tc_ld x k ≤ H → tc_cnt pa' (tc_nb x') q + tc_ld x' k ≤ H)) (hc : c < tc_nc x' → ∃ po rr d wk wo q H, tc_Cn y' c po rr d wk wo q H ∧ tc_cnt pa' (tc_nb x') q + tc_ld x' c ≤ H) : tc_Ex pa' x' y' := by
  refine ⟨hw, fun k hkc => ?_⟩
  by_cases e : k = c
  · subst e; exact hc hkc
  · obtain ⟨h1, h2, h3⟩ := hk k hkc e
    obtain ⟨po, rr, d, wk, wo, q, H, ⟨⟨e7, e8, e9, e10, e11, e12, e13⟩, q1, q2, q3, q4, q5, q6, q7, q8⟩, hl⟩ := E.2 k h1
    exact ⟨po, rr, d, wk, wo, q, H, ⟨⟨(h2 0 (by decide)).trans e7, (h2 1 (by decide)).trans e8, (h2 2 (by decide)).trans e9, (h2 3 (by decide)).trans e10, (h2 4 (by decide)).trans e11, (h2 5 (by decide)).trans e12, (h2 6 (by decide)).trans e13⟩, q1, q2, q3, q4, q5, q6, q7, q8⟩, h3 q H q6 q7 e12 e13 hl⟩
section LKA
variable {pa lv : Nat → Nat} {x : tc_X} {y : tc_Y} {z : tc_Z} {t : Nat}
theorem tc_A.same (J : tc_J pa lv x y z t) : tc_A (some (1, x, z)) pa lv x y t := ⟨pa, lv, x, y, z, t, rfl, J, ⟨Nat.le_refl _, by omega⟩, ⟨Nat.le_refl _, Nat.le_refl _⟩, fun _ _ h => h, ⟨Nat.le_refl _, by omega⟩, 1000, fun _ _ _ _ _ => rfl, fun h => ⟨⟨rfl, rfl, rfl⟩, Or.inl (Int32.le_refl _)⟩⟩
theorem tc_Rl.lvl (h : tc_Rl pa lv x y) {p : Nat} (hp : p < 16) : ∀ b', b' < tc_nb x → pa b' = p → lv b' < tc_cnt pa (tc_nb x) p := fun b' hb e => by
  obtain ⟨-, -, -, -, q5, -⟩ := (h.2.1 b' hb).2.2.2.1 (by omega)
  rw [e] at q5; exact q5
theorem A_land (J : tc_J pa lv x y z t) {p V : Nat} (hp : p < 16) (hV : 1 ≤ V ∧ V ≤ 60) : tc_A (a_land2 x z (nI p) (nI V)) pa lv x y t := by
  have J0 := J
  obtain ⟨h, S, E, et⟩ := J
  have h40 := h.n40
  have h5 := h.n5
  have lN : tc_zl z 2 = tc_nb x := S.1.2.2.2.1
  have lP : tc_zl z (5 + p) = tc_cnt pa (tc_nb x) p := (S.2.1 p hp).1
  have c8 := h.c8 hp
  have f40 : (40 : Int32) ≤ nI (tc_nb x) ↔ 40 ≤ tc_nb x := nI_leI (a := 40) (by omega) (by omega)
  have f8 : (8 : Int32) ≤ nI (tc_cnt pa (tc_nb x) p) ↔ 8 ≤ tc_cnt pa (tc_nb x) p := nI_leI (a := 8) (by omega) (by omega)
  have hcl := tc_cl (show p ≤ 1000 by omega)
  have hg := tc_g2 hp (show p ≤ 1000 by omega)
  have fine := lk_areFine h S (p := p) (v := tc_cnt pa (tc_nb x) p + 1) (e := 1000) (a3 := none) (by omega) (fun k hk => ⟨fun z => absurd z (by simp), fun z => by omega⟩)
  rcases lk_land h hp hV with ⟨⟨c1, c2, c3⟩, x', e, en, ec, el, hR⟩ | ⟨nc, e⟩
  · have fn : f_S_areFine z (nI p) (nI (tc_cnt pa (tc_nb x) p + 1)) none = some 1 := by
      rcases fine with w | w
      · exact w.1
      · exact absurd c3 w.2
    have l2 : ∀ n f, tc_zl (tc_zR z (5 + p) n f) 2 = tc_nb x := fun n f => (tc_zR_l (by omega)).trans lN
    have ez : a_land2 x z (nI p) (nI V) = some (1, x', tc_zR (tc_zR z (5 + p) (tc_zl z (5 + p) + 1) (tc_wf2 (tc_zl z (5 + p)) (tc_zf z (5 + p)) (nI (tc_nb x)))) 2 (tc_zl (tc_zR z (5 + p) (tc_zl z (5 + p) + 1) (tc_wf2 (tc_zl z (5 + p)) (tc_zf z (5 + p)) (nI (tc_nb x)))) 2 + 1) (tc_wf2 (tc_zl (tc_zR z (5 + p) (tc_zl z (5 + p) + 1) (tc_wf2 (tc_zl z (5 + p)) (tc_zf z (5 + p)) (nI (tc_nb x)))) 2) (tc_zf (tc_zR z (5 + p) (tc_zl z (5 + p) + 1) (tc_wf2 (tc_zl z (5 + p)) (tc_zf z (5 + p)) (nI (tc_nb x)))) 2) (nI V))) := by
      simp only [a_land2, tc_jn, tc_let, tc_b3, lN, hcl, if_pos hg, lP, if_neg (fun w => absurd (f40.mp w) (show ¬ 40 ≤ tc_nb x by omega)), if_neg (fun w => absurd (f8.mp w) (show ¬ 8 ≤ tc_cnt pa (tc_nb x) p by omega)), nI_1, fn, Option.bind_some, if_neg tc_10, e, if_pos, l2, if_pos (show tc_cnt pa (tc_nb x) p ≤ 40 by omega), if_pos (show tc_nb x ≤ 40 by omega)]
    have yk : ∀ k, k < tc_nc x → ∀ i, i < 8 → tc_ym (tc_ym (tc_ym (tc_ym y 3 (tc_nb x) (nI V)) 4 (tc_nb x) (nI p)) 5 (tc_nb x) (nI (tc_cnt pa (tc_nb x) p))) 2 0 (nI (tc_nb x) + 1) (7 + i) k = y (7 + i) k := fun k _ i _ => by rw [tc_ym_ne (by omega), tc_ym_ne (by omega), tc_ym_ne (by omega), tc_ym_ne (by omega)]
    have y3 : ∀ b, b < tc_nb x → tc_ym (tc_ym (tc_ym (tc_ym y 3 (tc_nb x) (nI V)) 4 (tc_nb x) (nI p)) 5 (tc_nb x) (nI (tc_cnt pa (tc_nb x) p))) 2 0 (nI (tc_nb x) + 1) 3 b = y 3 b := fun b hb => by rw [tc_ym_ne (by omega), tc_ym_ne (by omega), tc_ym_ne (by omega), tc_ymi (by omega)]
    have y3n : tc_ym (tc_ym (tc_ym (tc_ym y 3 (tc_nb x) (nI V)) 4 (tc_nb x) (nI p)) 5 (tc_nb x) (nI (tc_cnt pa (tc_nb x) p))) 2 0 (nI (tc_nb x) + 1) 3 (tc_nb x) = nI V := by rw [tc_ym_ne (by omega), tc_ym_ne (by omega), tc_ym_ne (by omega), tc_ymv]
    have y1 : tc_ym (tc_ym (tc_ym (tc_ym y 3 (tc_nb x) (nI V)) 4 (tc_nb x) (nI p)) 5 (tc_nb x) (nI (tc_cnt pa (tc_nb x) p))) 2 0 (nI (tc_nb x) + 1) 1 0 = y 1 0 := by rw [tc_ym_ne (by omega), tc_ym_ne (by omega), tc_ym_ne (by omega), tc_ym_ne (by omega)]
    have cn : ∀ r, tc_cnt (va_up pa (tc_nb x) p) (tc_nb x + 1) r = tc_cnt pa (tc_nb x) r + (if p = r then 1 else 0) := fun r => by
      show tc_cnt (va_up pa (tc_nb x) p) (tc_nb x) r + (if va_up pa (tc_nb x) p (tc_nb x) = r then 1 else 0) = _
      rw [tc_cnt_ge _ (Nat.le_refl _), va_up_self]
    have c17 : tc_cnt (va_up pa (tc_nb x) p) (tc_nb x') 17 = tc_cnt pa (tc_nb x) 17 := by rw [en, cn, if_neg (by omega)]; rfl
    refine ⟨_, _, x', _, _, t, ez, ⟨hR, ?_, ?_, y1.trans et⟩, ⟨Nat.le_refl _, by omega⟩, ⟨by omega, by omega⟩, fun b hb e1 => by rw [va_up_ne _ _ (by omega)]; exact e1, ⟨by omega, by omega⟩, 1000, fun k hk _ i hi => yk k hk i hi, fun w => by omega⟩
    · rw [en, ec]
      exact S.land hp (h.lvl hp) y1 y3 y3n yk rfl
    · refine E.upd 1000 (fun b hb => ?_) (fun k hk _ => ?_) (fun w => by omega)
      · by_cases e1 : b = tc_nb x
        · exact ⟨V, hV.1, hV.2, by rw [e1]; exact y3n⟩
        · rw [y3 b (by omega)]; exact E.1 b (by omega)
      · rw [ec] at hk
        refine ⟨hk, yk k hk, fun q H hq hH e12 e13 hl => ?_⟩
        rw [en, cn, el]
        by_cases e1 : p = q
        · have g := c3 k hk (by omega) (by rw [e12, e1])
          rw [e13] at g
          have hl1 : tc_ld x k ≤ 1 := by unfold tc_ld; split <;> omega
          have g2 := (nI_leI (by omega) (by omega)).mp g
          rw [if_pos e1, ← e1]; omega
        · rw [if_neg e1]; exact hl
  · have ez : a_land2 x z (nI p) (nI V) = some (1, x, z) := by
      by_cases w1 : 40 ≤ tc_nb x
      · simp only [a_land2, tc_jn, tc_let, tc_b3, lN, if_pos (f40.mpr w1), e, Option.bind_some, if_pos, if_neg tc_k3]
      · by_cases w2 : 8 ≤ tc_cnt pa (tc_nb x) p
        · simp only [a_land2, tc_jn, tc_let, tc_b3, lN, hcl, if_pos hg, lP, if_neg (fun w => w1 (f40.mp w)), if_pos (f8.mpr w2), e, Option.bind_some, if_pos, if_neg tc_k3]
        · have fn : f_S_areFine z (nI p) (nI (tc_cnt pa (tc_nb x) p + 1)) none = some 0 := by
            rcases fine with w | w
            · exact absurd ⟨by omega, by omega, w.2⟩ nc
            · exact w.1
          simp only [a_land2, tc_jn, tc_let, tc_b3, lN, hcl, if_pos hg, lP, if_neg (fun w => w1 (f40.mp w)), if_neg (fun w => w2 (f8.mp w)), nI_1, fn, e, Option.bind_some, if_pos, if_neg tc_k3]
    rw [ez]; exact tc_A.same J0
end LKA
