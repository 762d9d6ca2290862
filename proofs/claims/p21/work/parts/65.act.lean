/-! What an act does: the class and the law's own wharf tell the same, the invariant holds on, and little has changed. -/
def tc_T (pa : Nat → Nat) (x : tc_X) (y : tc_Y) (t : Nat) (pa' : Nat → Nat) (x' : tc_X) (y' : tc_Y) (t' : Nat) : Prop :=
  (t ≤ t' ∧ t' ≤ t + 35) ∧ (tc_nb x ≤ tc_nb x' ∧ tc_nc x ≤ tc_nc x') ∧ (∀ b, b < tc_nb x → pa b = 17 → pa' b = 17) ∧ (tc_cnt pa (tc_nb x) 17 ≤ tc_cnt pa' (tc_nb x') 17 ∧ tc_cnt pa' (tc_nb x') 17 ≤ tc_cnt pa (tc_nb x) 17 + 1) ∧ ∃ c, (∀ k, k < tc_nc x → k ≠ c → ∀ i, i < 8 → y' (7 + i) k = y (7 + i) k) ∧ (c < tc_nc x → (y' 7 c = y 7 c ∧ y' 8 c = y 8 c ∧ y' 9 c = y 9 c) ∧ (y' 11 c ≤ y 11 c ∨ (¬ y 14 c < 0 ∧ (y' 14 c < 0 ∨ ¬ y 13 c ≤ y' 13 c) ∧ (0 ≤ y' 14 c ∨ y' 11 c = 99))))
def tc_A (r : Option (Int32 × tc_X × tc_Z)) (pa lv : Nat → Nat) (x : tc_X) (y : tc_Y) (t : Nat) : Prop := ∃ pa' lv' x' y' z' t', r = some (1, x', z') ∧ tc_J pa' lv' x' y' z' t' ∧ tc_T pa x y t pa' x' y' t'
theorem tc_Ex.upd {pa pa' : Nat → Nat} {x x' : tc_X} {y y' : tc_Y} (E : tc_Ex pa x y) (c : Nat) (hw : ∀ b, b < tc_nb x' → ∃ w, 1 ≤ w ∧ w ≤ 60 ∧ y' 3 b = nI w) (hk : ∀ k, k < tc_nc x' → k ≠ c → k < tc_nc x ∧ (∀ i, i < 8 → y' (7 + i) k = y (7 + i) k) ∧ (∀ q H, q < 16 → H ≤ 20 → y 12 k = nI q → y 13 k = nI H → tc_cnt pa (tc_nb x) q + tc_ld x k ≤ H → tc_cnt pa' (tc_nb x') q + tc_ld x' k ≤ H)) (hc : c < tc_nc x' → ∃ po rr d wk wo q H, tc_Cn y' c po rr d wk wo q H ∧ tc_cnt pa' (tc_nb x') q + tc_ld x' c ≤ H) : tc_Ex pa' x' y' := by
  refine ⟨hw, fun k hkc => ?_⟩
  by_cases e : k = c
  · subst e; exact hc hkc
  · obtain ⟨h1, h2, h3⟩ := hk k hkc e
    obtain ⟨po, rr, d, wk, wo, q, H, ⟨⟨e7, e8, e9, e10, e11, e12, e13⟩, q1, q2, q3, q4, q5, q6, q7, q8⟩, hl⟩ := E.2 k h1
    exact ⟨po, rr, d, wk, wo, q, H, ⟨⟨(h2 0 (by decide)).trans e7, (h2 1 (by decide)).trans e8, (h2 2 (by decide)).trans e9, (h2 3 (by decide)).trans e10, (h2 4 (by decide)).trans e11, (h2 5 (by decide)).trans e12, (h2 6 (by decide)).trans e13⟩, q1, q2, q3, q4, q5, q6, q7, q8⟩, h3 q H q6 q7 e12 e13 hl⟩
section LKA
variable {pa lv : Nat → Nat} {x : tc_X} {y : tc_Y} {z : tc_Z} {t : Nat}
theorem tc_A.same (J : tc_J pa lv x y z t) : tc_A (some (1, x, z)) pa lv x y t := ⟨pa, lv, x, y, z, t, rfl, J, ⟨Nat.le_refl _, by omega⟩, ⟨Nat.le_refl _, Nat.le_refl _⟩, fun _ _ h => h, ⟨Nat.le_refl _, by omega⟩, 1000, fun _ _ _ _ _ => rfl, fun h => ⟨⟨rfl, rfl, rfl⟩, Or.inl (Int32.le_refl _)⟩⟩
theorem tc_Rl.lvl (h : tc_Rl pa lv x y) {p : Nat} (hp : p < 16) : ∀ b', b' < tc_nb x → pa b' = p → lv b' < tc_cnt pa (tc_nb x) p := fun b' hb e => by
  obtain ⟨-, -, -, -, q5, -⟩ := (h.2.1 b' hb).2.2.2.1 (by omega)
  rw [e] at q5; exact q5
theorem A_land (J : tc_J pa lv x y z t) {p V : Nat} (hp : p < 16) (hV : 1 ≤ V ∧ V ≤ 60) : tc_A (a_land2 x z (nI p) (nI V)) pa lv x y t := by
  have J0 := J
  obtain ⟨h, S, E, et⟩ := J
  have h40 := h.n40
  have h5 := h.n5
  have lN : tc_zl z 2 = tc_nb x := S.1.2.2.2.1
  have lP : tc_zl z (5 + p) = tc_cnt pa (tc_nb x) p := (S.2.1 p hp).1
  have c8 := h.c8 hp
  have f40 : (40 : Int32) ≤ nI (tc_nb x) ↔ 40 ≤ tc_nb x := nI_leI (a := 40) (by omega) (by omega)
  have f8 : (8 : Int32) ≤ nI (tc_cnt pa (tc_nb x) p) ↔ 8 ≤ tc_cnt pa (tc_nb x) p := nI_leI (a := 8) (by omega) (by omega)
  have hcl := tc_cl (show p ≤ 1000 by omega)
  have hg := tc_g2 hp (show p ≤ 1000 by omega)
  have fine := lk_areFine h S (p := p) (v := tc_cnt pa (tc_nb x) p + 1) (e := 1000) (a3 := none) (by omega) (fun k hk => ⟨fun z => absurd z (by simp), fun z => by omega⟩)
  rcases lk_land h hp hV with ⟨⟨c1, c2, c3⟩, x', e, en, ec, el, hR⟩ | ⟨nc, e⟩
  · have fn : f_S_areFine z (nI p) (nI (tc_cnt pa (tc_nb x) p + 1)) none = some 1 := by
      rcases fine with w | w
      · exact w.1
      · exact absurd c3 w.2
    have l2 : ∀ n f, tc_zl (tc_zR z (5 + p) n f) 2 = tc_nb x := fun n f => (tc_zR_l (by omega)).trans lN
    have ez : a_land2 x z (nI p) (nI V) = some (1, x', tc_zR (tc_zR z (5 + p) (tc_zl z (5 + p) + 1) (tc_wf2 (tc_zl z (5 + p)) (tc_zf z (5 + p)) (nI (tc_nb x)))) 2 (tc_zl (tc_zR z (5 + p) (tc_zl z (5 + p) + 1) (tc_wf2 (tc_zl z (5 + p)) (tc_zf z (5 + p)) (nI (tc_nb x)))) 2 + 1) (tc_wf2 (tc_zl (tc_zR z (5 + p) (tc_zl z (5 + p) + 1) (tc_wf2 (tc_zl z (5 + p)) (tc_zf z (5 + p)) (nI (tc_nb x)))) 2) (tc_zf (tc_zR z (5 + p) (tc_zl z (5 + p) + 1) (tc_wf2 (tc_zl z (5 + p)) (tc_zf z (5 + p)) (nI (tc_nb x)))) 2) (nI V))) := by
      simp only [a_land2, tc_jn, tc_let, tc_b3, lN, hcl, if_pos hg, lP, if_neg (fun w => absurd (f40.mp w) (show ¬ 40 ≤ tc_nb x by omega)), if_neg (fun w => absurd (f8.mp w) (show ¬ 8 ≤ tc_cnt pa (tc_nb x) p by omega)), nI_1, fn, Option.bind_some, if_neg tc_10, e, if_pos, l2, if_pos (show tc_cnt pa (tc_nb x) p ≤ 40 by omega), if_pos (show tc_nb x ≤ 40 by omega)]
    have yk : ∀ k, k < tc_nc x → ∀ i, i < 8 → tc_ym (tc_ym (tc_ym (tc_ym y 3 (tc_nb x) (nI V)) 4 (tc_nb x) (nI p)) 5 (tc_nb x) (nI (tc_cnt pa (tc_nb x) p))) 2 0 (nI (tc_nb x) + 1) (7 + i) k = y (7 + i) k := fun k _ i _ => by rw [tc_ym_ne (by omega), tc_ym_ne (by omega), tc_ym_ne (by omega), tc_ym_ne (by omega)]
    have y3 : ∀ b, b < tc_nb x → tc_ym (tc_ym (tc_ym (tc_ym y 3 (tc_nb x) (nI V)) 4 (tc_nb x) (nI p)) 5 (tc_nb x) (nI (tc_cnt pa (tc_nb x) p))) 2 0 (nI (tc_nb x) + 1) 3 b = y 3 b := fun b hb => by rw [tc_ym_ne (by omega), tc_ym_ne (by omega), tc_ym_ne (by omega), tc_ymi (by omega)]
    have y3n : tc_ym (tc_ym (tc_ym (tc_ym y 3 (tc_nb x) (nI V)) 4 (tc_nb x) (nI p)) 5 (tc_nb x) (nI (tc_cnt pa (tc_nb x) p))) 2 0 (nI (tc_nb x) + 1) 3 (tc_nb x) = nI V := by rw [tc_ym_ne (by omega), tc_ym_ne (by omega), tc_ym_ne (by omega), tc_ymv]
    have y1 : tc_ym (tc_ym (tc_ym (tc_ym y 3 (tc_nb x) (nI V)) 4 (tc_nb x) (nI p)) 5 (tc_nb x) (nI (tc_cnt pa (tc_nb x) p))) 2 0 (nI (tc_nb x) + 1) 1 0 = y 1 0 := by rw [tc_ym_ne (by omega), tc_ym_ne (by omega), tc_ym_ne (by omega), tc_ym_ne (by omega)]
    have cn : ∀ r, tc_cnt (va_up pa (tc_nb x) p) (tc_nb x + 1) r = tc_cnt pa (tc_nb x) r + (if p = r then 1 else 0) := fun r => by
      show tc_cnt (va_up pa (tc_nb x) p) (tc_nb x) r + (if va_up pa (tc_nb x) p (tc_nb x) = r then 1 else 0) = _
      rw [tc_cnt_ge _ (Nat.le_refl _), va_up_self]
    have c17 : tc_cnt (va_up pa (tc_nb x) p) (tc_nb x') 17 = tc_cnt pa (tc_nb x) 17 := by rw [en, cn, if_neg (by omega)]; rfl
    refine ⟨_, _, x', _, _, t, ez, ⟨hR, ?_, ?_, y1.trans et⟩, ⟨Nat.le_refl _, by omega⟩, ⟨by omega, by omega⟩, fun b hb e1 => by rw [va_up_ne _ _ (by omega)]; exact e1, ⟨by omega, by omega⟩, 1000, fun k hk _ i hi => yk k hk i hi, fun w => by omega⟩
    · rw [en, ec]
      exact S.land hp (h.lvl hp) y1 y3 y3n yk rfl
    · refine E.upd 1000 (fun b hb => ?_) (fun k hk _ => ?_) (fun w => by omega)
      · by_cases e1 : b = tc_nb x
        · exact ⟨V, hV.1, hV.2, by rw [e1]; exact y3n⟩
        · rw [y3 b (by omega)]; exact E.1 b (by omega)
      · rw [ec] at hk
        refine ⟨hk, yk k hk, fun q H hq hH e12 e13 hl => ?_⟩
        rw [en, cn, el]
        by_cases e1 : p = q
        · have g := c3 k hk (by omega) (by rw [e12, e1])
          rw [e13] at g
          have hl1 : tc_ld x k ≤ 1 := by unfold tc_ld; split <;> omega
          have g2 := (nI_leI (by omega) (by omega)).mp g
          rw [if_pos e1, ← e1]; omega
        · rw [if_neg e1]; exact hl
  · have ez : a_land2 x z (nI p) (nI V) = some (1, x, z) := by
      by_cases w1 : 40 ≤ tc_nb x
      · simp only [a_land2, tc_jn, tc_let, tc_b3, lN, if_pos (f40.mpr w1), e, Option.bind_some, if_pos, if_neg tc_k3]
      · by_cases w2 : 8 ≤ tc_cnt pa (tc_nb x) p
        · simp only [a_land2, tc_jn, tc_let, tc_b3, lN, hcl, if_pos hg, lP, if_neg (fun w => w1 (f40.mp w)), if_pos (f8.mpr w2), e, Option.bind_some, if_pos, if_neg tc_k3]
        · have fn : f_S_areFine z (nI p) (nI (tc_cnt pa (tc_nb x) p + 1)) none = some 0 := by
            rcases fine with w | w
            · exact absurd ⟨by omega, by omega, w.2⟩ nc
            · exact w.1
          simp only [a_land2, tc_jn, tc_let, tc_b3, lN, hcl, if_pos hg, lP, if_neg (fun w => w1 (f40.mp w)), if_neg (fun w => w2 (f8.mp w)), nI_1, fn, e, Option.bind_some, if_pos, if_neg tc_k3]
    rw [ez]; exact tc_A.same J0
theorem lk_isc (S : tc_S pa lv (tc_nb x) (tc_nc x) y z) {c : Nat} (hc : c < tc_nc x) : tc_isc z (21 + c) := by
  have e : tc_zn z = tc_nc x := S.1.2.2.1
  exact ⟨by omega, by rw [e]; omega⟩
theorem A_man (J : tc_J pa lv x y z t) {c : Nat} (hc : c < tc_nc x) (a3 : Int32) : tc_A (a_man x z a3 (nI c) (some (21 + c))) pa lv x y t := by
  obtain ⟨h, S, E, et⟩ := J
  have row := S.2.2.1 c hc
  obtain ⟨j, hj, ej⟩ := lk_Jbelow (a3 >>> ((6 : Int32) &&& 31)) (n := 9) (by decide) (by decide)
  have ej' : f_L_below (a3 >>> ((6 : Int32) &&& 31)) 9 = some (nI j) := ej
  obtain ⟨e, hR⟩ := lk_man h hc (show j ≤ 8 by omega)
  have f3 : tc_zf z (21 + c) 3 = y 10 c := row.2 3 (by decide)
  have g3 : tc_zf (tc_zs z (21 + c) 3 (nI j)) (21 + c) 3 = nI j := by rw [tc_zs_s]; exact pk_us
  have ez : a_man x z a3 (nI c) (some (21 + c)) = some (1, tc_si x 23 c (nI j), tc_zs z (21 + c) 3 (nI j)) := by
    simp only [a_man, tc_oc, if_pos (lk_isc S hc), row.1, if_pos (show 3 < 8 by decide), tc_let, tc_jn, tc_b3, ej', Option.bind_some, lk_zsl, g3, e, f3, if_pos, or_true, if_true]
  obtain ⟨po, rr, d, wk, wo, q, H, ⟨⟨e7, e8, e9, e10, e11, e12, e13⟩, q1, q2, q3, q4, q5, q6, q7, q8⟩, hl⟩ := E.2 c hc
  refine ⟨_, _, _, _, _, t, ez, ⟨hR, S.cr hc (i := 3) (by decide) (nI j), E.upd c (fun b hb => ?_) (fun k hk hkc => ⟨hk, fun i _ => tc_ymi hkc, fun _ _ _ _ _ _ w => w⟩) (fun _ => ⟨po, rr, d, j, wo, q, H, ⟨⟨?_, ?_, ?_, tc_ymv, ?_, ?_, ?_⟩, q1, q2, q3, (show j ≤ 8 by omega), q5, q6, q7, q8⟩, hl⟩), ?_⟩, ⟨Nat.le_refl _, by omega⟩, ⟨Nat.le_refl _, Nat.le_refl _⟩, fun _ _ w => w, ⟨Nat.le_refl _, Nat.le_succ _⟩, c, fun k hk hkc i _ => tc_ymi hkc, fun _ => ⟨⟨?_, ?_, ?_⟩, Or.inl ?_⟩⟩
  · rw [tc_ym_ne (by decide)]; exact E.1 b hb
  · rw [tc_ym_ne (by decide)]; exact e7
  · rw [tc_ym_ne (by decide)]; exact e8
  · rw [tc_ym_ne (by decide)]; exact e9
  · rw [tc_ym_ne (by decide)]; exact e11
  · rw [tc_ym_ne (by decide)]; exact e12
  · rw [tc_ym_ne (by decide)]; exact e13
  · rw [tc_ym_ne (by decide)]; exact et
  · rw [tc_ym_ne (by decide)]
  · rw [tc_ym_ne (by decide)]
  · rw [tc_ym_ne (by decide)]
  · rw [tc_ym_ne (by decide)]; exact Int32.le_refl _
theorem A_mend (J : tc_J pa lv x y z t) {c : Nat} (hc : c < tc_nc x) (a3 : Int32) : tc_A (a_mend x z a3 (nI c) (some (21 + c))) pa lv x y t := by
  have J0 := J
  obtain ⟨h, S, E, et⟩ := J
  have row := S.2.2.1 c hc
  obtain ⟨j, hj, ej⟩ := lk_Jbelow (a3 >>> ((8 : Int32) &&& 31)) (n := 3) (by decide) (by decide)
  have ej' : f_L_below (a3 >>> ((8 : Int32) &&& 31)) 3 = some (nI j) := ej
  obtain ⟨e, hR⟩ := lk_mend h hc
  have f4 : tc_zf z (21 + c) 4 = y 11 c := row.2 4 (by decide)
  have cj : nI j ≤ 0 ↔ j ≤ 0 := nI_leI (b := 0) (by omega) (by omega)
  by_cases w : j ≤ 0
  case neg =>
    have ez : a_mend x z a3 (nI c) (some (21 + c)) = some (1, x, z) := by
      simp only [a_mend, ej', Option.bind_some, if_neg (fun z => w (cj.mp z))]
    rw [ez]; exact tc_A.same J0
  have ez : a_mend x z a3 (nI c) (some (21 + c)) = some (1, tc_si x 24 c 0, tc_zs z (21 + c) 4 0) := by
    simp only [a_mend, ej', Option.bind_some, if_pos (cj.mpr w), tc_oc, if_pos (lk_isc S hc), row.1, if_pos (show 4 < 8 by decide), tc_let, tc_jn, tc_b3, e, f4, if_pos, or_true, if_true]
  obtain ⟨po, rr, d, wk, wo, q, H, ⟨⟨e7, e8, e9, e10, e11, e12, e13⟩, q1, q2, q3, q4, q5, q6, q7, q8⟩, hl⟩ := E.2 c hc
  refine ⟨_, _, _, _, _, t, ez, ⟨hR, S.cr hc (i := 4) (by decide) 0, E.upd c (fun b hb => ?_) (fun k hk hkc => ⟨hk, fun i _ => tc_ymi hkc, fun _ _ _ _ _ _ w => w⟩) (fun _ => ⟨po, rr, d, wk, 0, q, H, ⟨⟨?_, ?_, ?_, ?_, tc_ymv, ?_, ?_⟩, q1, q2, q3, q4, by decide, q6, q7, q8⟩, hl⟩), ?_⟩, ⟨Nat.le_refl _, by omega⟩, ⟨Nat.le_refl _, Nat.le_refl _⟩, fun _ _ w => w, ⟨Nat.le_refl _, Nat.le_succ _⟩, c, fun k hk hkc i _ => tc_ymi hkc, fun _ => ⟨⟨?_, ?_, ?_⟩, Or.inl ?_⟩⟩
  · rw [tc_ym_ne (by decide)]; exact E.1 b hb
  · rw [tc_ym_ne (by decide)]; exact e7
  · rw [tc_ym_ne (by decide)]; exact e8
  · rw [tc_ym_ne (by decide)]; exact e9
  · rw [tc_ym_ne (by decide)]; exact e10
  · rw [tc_ym_ne (by decide)]; exact e12
  · rw [tc_ym_ne (by decide)]; exact e13
  · rw [tc_ym_ne (by decide)]; exact et
  · rw [tc_ym_ne (by decide)]
  · rw [tc_ym_ne (by decide)]
  · rw [tc_ym_ne (by decide)]
  · rw [tc_ymv, e11]; exact Int32.not_lt.mp (nI_pos (by omega))
theorem A_turn (J : tc_J pa lv x y z t) {c p : Nat} (hc : c < tc_nc x) (hp : p < 16) : tc_A (a_turn x z (nI c) (nI p) (some (21 + c))) pa lv x y t := by
  have J0 := J
  obtain ⟨h, S, E, et⟩ := J
  have row := S.2.2.1 c hc
  obtain ⟨po, rr, d, wk, wo, q, H, C, hl⟩ := E.2 c hc
  have ct := lk_canTurn h S hc hp C
  obtain ⟨⟨e7, e8, e9, e10, e11, e12, e13⟩, q1, q2, q3, q4, q5, q6, q7, q8⟩ := C
  have f5 : tc_zf z (21 + c) 5 = nI q := (row.2 5 (by decide)).trans e12
  have ab : tc_abs (nI q - nI p) = nI ((q - p) + (p - q)) := by
    have all : ∀ q, q < 16 → ∀ p, p < 16 → tc_abs (nI q - nI p) = nI ((q - p) + (p - q)) := by decide +kernel
    exact all q q6 p hp
  have s0 : z.1 0 = y 1 0 := S.1.1
  have ng : ¬ nI ((q - p) + (p - q)) < 0 := nI_pos (by omega)
  rcases lk_turn h hc hp q1 q6 q2.2 e7 e8 e12 q7 e13 with ⟨w1, w2, e, hR⟩ | ⟨w, e⟩
  · have fn : f_S_canTurn z (21 + c) (nI p) = some 1 := by
      rcases ct with v | v
      · exact v.1
      · exact absurd ⟨w1, w2⟩ v.2
    rw [ab] at e hR
    have ez : a_turn x z (nI c) (nI p) (some (21 + c)) = some (1, tc_si (tc_si x 25 c (nI p)) 0 0 (x.1 0 0 + nI ((q - p) + (p - q))), tc_zg (tc_zs z (21 + c) 5 (nI p)) 0 (y 1 0 + nI ((q - p) + (p - q)))) := by
      simp only [a_turn, tc_oc, if_pos (lk_isc S hc), fn, Option.bind_some, tc_jn, tc_let, tc_b3, if_neg tc_10, row.1, if_pos (show 5 < 8 by decide), f5, ab, e, if_pos, if_neg ng, lk_zs1, s0, or_true, if_true]
    refine ⟨_, _, _, _, _, t + ((q - p) + (p - q)), ez, ⟨hR, (S.cr hc (i := 5) (by decide) (nI p)).tk _, E.upd c (fun b hb => ?_) (fun k hk hkc => ⟨hk, fun i hi => ?_, fun _ _ _ _ _ _ w => w⟩) (fun _ => ⟨po, rr, d, wk, wo, p, H, ⟨⟨?_, ?_, ?_, ?_, ?_, ?_, ?_⟩, q1, q2, q3, q4, q5, hp, q7, w1⟩, w2 p (by omega) (by omega)⟩), ?_⟩, ⟨by omega, by omega⟩, ⟨Nat.le_refl _, Nat.le_refl _⟩, fun _ _ w => w, ⟨Nat.le_refl _, Nat.le_succ _⟩, c, fun k hk hkc i _ => ?_, fun _ => ⟨⟨?_, ?_, ?_⟩, Or.inl ?_⟩⟩
    · rw [tc_ym_ne (by decide), tc_ym_ne (by decide)]; exact E.1 b hb
    · rw [tc_ym_ne (by omega), tc_ymi hkc]
    · rw [tc_ym_ne (by decide), tc_ym_ne (by decide)]; exact e7
    · rw [tc_ym_ne (by decide), tc_ym_ne (by decide)]; exact e8
    · rw [tc_ym_ne (by decide), tc_ym_ne (by decide)]; exact e9
    · rw [tc_ym_ne (by decide), tc_ym_ne (by decide)]; exact e10
    · rw [tc_ym_ne (by decide), tc_ym_ne (by decide)]; exact e11
    · rw [tc_ym_ne (by decide), tc_ymv]
    · rw [tc_ym_ne (by decide), tc_ym_ne (by decide)]; exact e13
    · rw [tc_ymv, et, nI_add]
    · rw [tc_ym_ne (by omega), tc_ymi hkc]
    · rw [tc_ym_ne (by decide), tc_ym_ne (by decide)]
    · rw [tc_ym_ne (by decide), tc_ym_ne (by decide)]
    · rw [tc_ym_ne (by decide), tc_ym_ne (by decide)]
    · rw [tc_ym_ne (by decide), tc_ym_ne (by decide)]; exact Int32.le_refl _
  · have fn : f_S_canTurn z (21 + c) (nI p) = some 0 := by
      rcases ct with v | v
      · exact absurd v.2 w
      · exact v.1
    have ez : a_turn x z (nI c) (nI p) (some (21 + c)) = some (1, x, z) := by
      simp only [a_turn, tc_oc, if_pos (lk_isc S hc), fn, Option.bind_some, tc_jn, tc_let, tc_b3, e, if_neg tc_k3, if_pos, if_pos (show (-1 : Int32) < 0 by decide), or_true, if_true]
    rw [ez]; exact tc_A.same J0
theorem A_build (J : tc_J pa lv x y z t) {p r d w : Nat} (hp : p < 16) (hr : 1 ≤ r ∧ r ≤ 15) (hd : 1 ≤ d ∧ d ≤ 6) (hw : w ≤ 8) {u : Nat → Int32} (u0 : u 0 = nI p) (u1 : u 1 = nI r) (u2 : u 2 = nI d) (u3 : u 3 = nI w) (u4 : u 4 = 0) (u5 : u 5 = nI p) (u6 : u 6 = 10) (u7 : u 7 = -1) : tc_A (a_build2 x z (nI p) u) pa lv x y t := by
  have J0 := J
  obtain ⟨h, S, E, et⟩ := J
  have en : tc_zn z = tc_nc x := S.1.2.2.1
  rcases lk_build h hp hr hd hw with ⟨h5, e, hR⟩ | ⟨h5, e⟩
  · have c5 : ¬ (5 : Int32) ≤ nI (tc_nc x) := fun z => by
      have := (nI_leI (a := 5) (by omega) (by omega)).mp z
      omega
    have c0 : (0 : Int32) ≤ nI (tc_nc x) := Int32.not_lt.mp (nI_pos (by omega))
    have ez : a_build2 x z (nI p) u = some (1, tc_nC x (nI p) (nI r) (nI d) (nI w), tc_zC z u) := by
      simp only [a_build2, tc_jn, tc_let, tc_b3, u1, u2, u3, e, Option.bind_some, en, if_neg c5, if_pos, if_pos c0, and_true, if_pos h5]
    have yo : ∀ k, k < tc_nc x → ∀ i, i < 8 → tc_yC y (tc_nc x) (nI p) (nI r) (nI d) (nI w) (7 + i) k = y (7 + i) k := fun k hk i hi => tc_yCi (by omega) (by omega)
    have y3 : tc_yC y (tc_nc x) (nI p) (nI r) (nI d) (nI w) 3 = y 3 := tc_yCa (Or.inl (by decide))
    have y1 : tc_yC y (tc_nc x) (nI p) (nI r) (nI d) (nI w) 1 = y 1 := tc_yCa (Or.inl (by decide))
    have n7 : tc_yC y (tc_nc x) (nI p) (nI r) (nI d) (nI w) 7 (tc_nc x) = nI p := by
      unfold tc_yC; rw [tc_ym_ne (by decide), tc_ym_ne (by decide), tc_ym_ne (by decide), tc_ym_ne (by decide), tc_ym_ne (by decide), tc_ym_ne (by decide), tc_ym_ne (by decide), tc_ymv]
    have n8 : tc_yC y (tc_nc x) (nI p) (nI r) (nI d) (nI w) 8 (tc_nc x) = nI r := by
      unfold tc_yC; rw [tc_ym_ne (by decide), tc_ym_ne (by decide), tc_ym_ne (by decide), tc_ym_ne (by decide), tc_ym_ne (by decide), tc_ym_ne (by decide), tc_ymv]
    have n9 : tc_yC y (tc_nc x) (nI p) (nI r) (nI d) (nI w) 9 (tc_nc x) = nI d := by
      unfold tc_yC; rw [tc_ym_ne (by decide), tc_ym_ne (by decide), tc_ym_ne (by decide), tc_ym_ne (by decide), tc_ym_ne (by decide), tc_ymv]
    have n10 : tc_yC y (tc_nc x) (nI p) (nI r) (nI d) (nI w) 10 (tc_nc x) = nI w := by
      unfold tc_yC; rw [tc_ym_ne (by decide), tc_ym_ne (by decide), tc_ym_ne (by decide), tc_ym_ne (by decide), tc_ymv]
    have n11 : tc_yC y (tc_nc x) (nI p) (nI r) (nI d) (nI w) 11 (tc_nc x) = 0 := by
      rw [tc_yCa (Or.inr rfl)]; exact h.2.2.2.2.2.2.2.2 _ (Nat.le_refl _)
    have n12 : tc_yC y (tc_nc x) (nI p) (nI r) (nI d) (nI w) 12 (tc_nc x) = nI p := by
      unfold tc_yC; rw [tc_ym_ne (by decide), tc_ym_ne (by decide), tc_ym_ne (by decide), tc_ymv]
    have n13 : tc_yC y (tc_nc x) (nI p) (nI r) (nI d) (nI w) 13 (tc_nc x) = 10 := by
      unfold tc_yC; rw [tc_ym_ne (by decide), tc_ym_ne (by decide), tc_ymv]
    have n14 : tc_yC y (tc_nc x) (nI p) (nI r) (nI d) (nI w) 14 (tc_nc x) = -1 := by
      unfold tc_yC; rw [tc_ym_ne (by decide), tc_ymv]
    have c8 := h.c8 hp
    refine ⟨_, _, _, _, _, t, ez, ⟨hR, S.crane (congrFun y1 0) (fun b _ => congrFun y3 b) yo (fun i hi => ?_), E.upd (tc_nc x) (fun b hb => ?_) (fun k hk hkc => ?_) (fun _ => ⟨p, r, d, w, 0, p, 10, ⟨⟨n7, n8, n9, n10, n11, n12, n13⟩, hp, hr, hd, hw, by decide, hp, by decide, by omega⟩, ?_⟩), (congrFun y1 0).trans et⟩, ⟨Nat.le_refl _, by omega⟩, ⟨Nat.le_refl _, Nat.le_succ _⟩, fun _ _ w => w, ⟨Nat.le_refl _, Nat.le_succ _⟩, 1000, fun k hk _ i hi => yo k hk i hi, fun w => ?_⟩
    · rcases (show i = 0 ∨ i = 1 ∨ i = 2 ∨ i = 3 ∨ i = 4 ∨ i = 5 ∨ i = 6 ∨ i = 7 by omega) with rfl | rfl | rfl | rfl | rfl | rfl | rfl | rfl
      · exact u0.trans n7.symm
      · exact u1.trans n8.symm
      · exact u2.trans n9.symm
      · exact u3.trans n10.symm
      · exact u4.trans n11.symm
      · exact u5.trans n12.symm
      · exact u6.trans n13.symm
      · exact u7.trans n14.symm
    · rw [y3]; exact E.1 b hb
    · have hk' : k < tc_nc x := by
        have : k < tc_nc x + 1 := hk
        omega
      refine ⟨hk', yo k hk', fun q H _ _ _ _ hl => ?_⟩
      have el : tc_ld (tc_nC x (nI p) (nI r) (nI d) (nI w)) k = tc_ld x k := by
        unfold tc_ld; rw [tc_nC2 (by omega)]
      rw [el]; exact hl
    · have el : tc_ld (tc_nC x (nI p) (nI r) (nI d) (nI w)) (tc_nc x) = 0 := by
        unfold tc_ld
        exact if_pos (if_pos ⟨rfl, rfl⟩)
      rw [el]
      show tc_cnt pa (tc_nb x) p + 0 ≤ 10
      omega
    · have := h.n5
      omega
  · have ez : a_build2 x z (nI p) u = some (1, x, z) := by
      simp only [a_build2, tc_jn, tc_let, tc_b3, u1, u2, u3, e, Option.bind_some, en, h5, if_pos (show (5 : Int32) ≤ nI 5 by decide), if_neg tc_k3, if_pos, if_neg (show ¬ (0 : Int32) ≤ -1 by decide)]
    rw [ez]; exact tc_A.same J0
end LKA
