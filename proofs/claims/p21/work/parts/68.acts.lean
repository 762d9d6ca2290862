/-! Every act. -/
section LKD
variable {pa lv : Nat → Nat} {x : tc_X} {y : tc_Y} {z : tc_Z} {t : Nat}
theorem A_land9 (J : tc_J pa lv x y z t) {p : Nat} (hp : p < 16) (a3 : Int32) : tc_A (a_land x z a3 (nI p)) pa lv x y t := by
  obtain ⟨j, hj, ej⟩ := lk_Jbelow (a3 >>> ((9 : Int32) &&& 31)) (n := 3) (by decide) (by decide)
  have ej' : f_L_below (a3 >>> ((9 : Int32) &&& 31)) 3 = some (nI j) := ej
  obtain ⟨u, hu, eu⟩ := lk_Jbelow (a3 >>> ((4 : Int32) &&& 31)) (n := 60) (by decide) (by decide)
  have eu' : f_L_below (a3 >>> ((4 : Int32) &&& 31)) 60 = some (nI u) := eu
  obtain ⟨v, hv, ev⟩ := lk_Jbelow (a3 >>> ((4 : Int32) &&& 31)) (n := 25) (by decide) (by decide)
  have ev' : f_L_below (a3 >>> ((4 : Int32) &&& 31)) 25 = some (nI v) := ev
  have e1 : ∀ u, (1 : Int32) + nI u = nI (1 + u) := fun u => nI_add 1 u
  rw [lk_aland, ej', Option.bind_some]
  dsimp only [tc_jn]
  by_cases w : nI j = 0
  · rw [if_pos w, eu', Option.bind_some, e1]; exact A_land J hp (by omega)
  · rw [if_neg w, ev', Option.bind_some, e1]; exact A_land J hp (by omega)
theorem lk_U (a b c d : Int32) : ∀ u, u = upd (upd (upd (upd (upd (upd (upd (upd (fun _ : Nat => (0 : Int32)) 0 a) 1 b) 2 c) 3 d) 4 0) 5 a) 6 10) 7 (-1) → u 0 = a ∧ u 1 = b ∧ u 2 = c ∧ u 3 = d ∧ u 4 = 0 ∧ u 5 = a ∧ u 6 = 10 ∧ u 7 = -1 := by
  intro u e
  subst e
  refine ⟨?_, ?_, ?_, ?_, ?_, ?_, ?_, ?_⟩ <;> simp [upd]
theorem A_build9 (J : tc_J pa lv x y z t) {p : Nat} (hp : p < 16) (a3 : Int32) : tc_A (a_build x z a3 (nI p)) pa lv x y t := by
  obtain ⟨r, hr, er⟩ := lk_Jbelow (a3 >>> ((4 : Int32) &&& 31)) (n := 15) (by decide) (by decide)
  have er' : f_L_below (a3 >>> ((4 : Int32) &&& 31)) 15 = some (nI r) := er
  obtain ⟨d, hd, ed⟩ := lk_Jbelow (a3 >>> ((8 : Int32) &&& 31)) (n := 6) (by decide) (by decide)
  have ed' : f_L_below (a3 >>> ((8 : Int32) &&& 31)) 6 = some (nI d) := ed
  obtain ⟨w, hw, ew⟩ := lk_Jbelow (a3 >>> ((3 : Int32) &&& 31)) (n := 9) (by decide) (by decide)
  have ew' : f_L_below (a3 >>> ((3 : Int32) &&& 31)) 9 = some (nI w) := ew
  have e1 : ∀ u, (1 : Int32) + nI u = nI (1 + u) := fun u => nI_add 1 u
  rw [lk_abuild, tc_leteq, tc_leteq, er', Option.bind_some, tc_leteq, ed', Option.bind_some, tc_leteq, ew', Option.bind_some, tc_leteq, tc_leteq, tc_leteq, tc_leteq, tc_leteq, e1, e1]
  generalize hu : upd (upd (upd (upd (upd (upd (upd (upd (fun _ : Nat => (0 : Int32)) 0 (nI p)) 1 (nI (1 + r))) 2 (nI (1 + d))) 3 (nI w)) 4 0) 5 (nI p)) 6 10) 7 (-1) = U
  obtain ⟨g0, g1, g2, g3, g4, g5, g6, g7⟩ := lk_U _ _ _ _ U hu.symm
  exact A_build J hp (r := 1 + r) (d := 1 + d) (w := w) (by omega) (by omega) (by omega) g0 g1 g2 g3 g4 g5 g6 g7
theorem A_hoist9 (J : tc_J pa lv x y z t) {c : Nat} (hc : c < tc_nc x) (a3 : Int32) : tc_A (a_hoist x z a3 (nI c) (some (21 + c))) pa lv x y t := by
  have J0 := J
  obtain ⟨h, S, E, et⟩ := J
  have row := S.2.2.1 c hc
  obtain ⟨po, rr, d, wk, wo, q, H, ⟨⟨e7, e8, e9, e10, e11, e12, e13⟩, q1, q2, q3, q4, q5, q6, q7, q8⟩, hl⟩ := E.2 c hc
  have f5 : tc_zf z (21 + c) 5 = nI q := (row.2 5 (by decide)).trans e12
  have f7 : tc_zf z (21 + c) 7 = y 14 c := row.2 7 (by decide)
  have lP : tc_zl z (5 + q) = tc_cnt pa (tc_nb x) q := (S.2.1 q q6).1
  have c8 := h.c8 q6
  obtain ⟨i, hi, ei⟩ := lk_Jbelow (a3 >>> ((7 : Int32) &&& 31)) (n := 4) (by decide) (by decide)
  have ei' : f_L_below (a3 >>> ((7 : Int32) &&& 31)) 4 = some (nI i) := ei
  obtain ⟨u, hu, eu⟩ := lk_Jbelow (a3 >>> ((4 : Int32) &&& 31)) (n := 21) (by decide) (by decide)
  have eu' : f_L_below (a3 >>> ((4 : Int32) &&& 31)) 21 = some (nI u) := eu
  obtain ⟨v, hv, ev⟩ := lk_Jbelow (a3 >>> ((9 : Int32) &&& 31)) (n := 3) (by decide) (by decide)
  have ev' : f_L_below (a3 >>> ((9 : Int32) &&& 31)) 3 = some (nI v) := ev
  rw [lk_ahoist]
  dsimp only [tc_oc, tc_jn, tc_let]
  rw [if_pos (lk_isc S hc), row.1, if_pos (show 5 < 8 by decide), f5, tc_cl (show q ≤ 1000 by omega), if_pos (tc_g2 q6 (show q ≤ 1000 by omega)), lP, ei', Option.bind_some, eu', Option.bind_some, ev', Option.bind_some]
  by_cases w1 : nI i = 0
  · rw [if_pos w1]; exact A_hoist2 J0 hc (by omega) e12 q6
  · rw [if_neg w1]
    by_cases w2 : nI v = 0
    · rw [if_pos w2]; exact A_hoist2 J0 hc (A := 10) (by omega) e12 q6
    · rw [if_neg w2, if_pos (show 7 < 8 by decide), nI_1]
      by_cases w3 : 0 ≤ tc_zf z (21 + c) 7
      · rw [if_pos w3]; exact A_hoist2 J0 hc (by omega) e12 q6
      · rw [if_neg w3]; exact A_hoist2 J0 hc (by omega) e12 q6
theorem A_disp (J : tc_J pa lv x y z t) {c p j : Nat} (hc : c < tc_nc x) (hp : p < 16) (hj : j < 14) (a3 : Int32) : tc_A (a_disp x z a3 (nI c) (nI p) (nI j) (some (21 + c))) pa lv x y t := by
  unfold a_disp
  rcases (show j = 0 ∨ j = 1 ∨ j = 2 ∨ j = 3 ∨ j = 4 ∨ j = 5 ∨ j = 6 ∨ j = 7 ∨ j = 8 ∨ j = 9 ∨ j = 10 ∨ j = 11 ∨ j = 12 ∨ j = 13 by omega) with rfl | rfl | rfl | rfl | rfl | rfl | rfl | rfl | rfl | rfl | rfl | rfl | rfl | rfl
  · rw [if_pos (show nI 0 = 0 by decide)]; exact A_land9 J hp a3
  · rw [if_neg (show ¬ nI 1 = 0 by decide), if_pos (show nI 1 = 1 by decide)]; exact A_land9 J hp a3
  · rw [if_neg (show ¬ nI 2 = 0 by decide), if_neg (show ¬ nI 2 = 1 by decide), if_pos (show nI 2 = 2 by decide)]; exact A_land9 J hp a3
  · rw [if_neg (show ¬ nI 3 = 0 by decide), if_neg (show ¬ nI 3 = 1 by decide), if_neg (show ¬ nI 3 = 2 by decide), if_pos (show nI 3 = 3 by decide)]; exact A_build9 J hp a3
  · rw [if_neg (show ¬ nI 4 = 0 by decide), if_neg (show ¬ nI 4 = 1 by decide), if_neg (show ¬ nI 4 = 2 by decide), if_neg (show ¬ nI 4 = 3 by decide), if_pos (show nI 4 = 4 by decide)]; exact A_man J hc a3
  · rw [if_neg (show ¬ nI 5 = 0 by decide), if_neg (show ¬ nI 5 = 1 by decide), if_neg (show ¬ nI 5 = 2 by decide), if_neg (show ¬ nI 5 = 3 by decide), if_neg (show ¬ nI 5 = 4 by decide), if_pos (show nI 5 = 5 by decide)]; exact A_mend J hc a3
  · rw [if_neg (show ¬ nI 6 = 0 by decide), if_neg (show ¬ nI 6 = 1 by decide), if_neg (show ¬ nI 6 = 2 by decide), if_neg (show ¬ nI 6 = 3 by decide), if_neg (show ¬ nI 6 = 4 by decide), if_neg (show ¬ nI 6 = 5 by decide), if_pos (show nI 6 = 6 by decide)]; exact A_turn J hc hp
  · rw [if_neg (show ¬ nI 7 = 0 by decide), if_neg (show ¬ nI 7 = 1 by decide), if_neg (show ¬ nI 7 = 2 by decide), if_neg (show ¬ nI 7 = 3 by decide), if_neg (show ¬ nI 7 = 4 by decide), if_neg (show ¬ nI 7 = 5 by decide), if_neg (show ¬ nI 7 = 6 by decide), if_pos (show nI 7 = 7 by decide)]; exact A_turn J hc hp
  · rw [if_neg (show ¬ nI 8 = 0 by decide), if_neg (show ¬ nI 8 = 1 by decide), if_neg (show ¬ nI 8 = 2 by decide), if_neg (show ¬ nI 8 = 3 by decide), if_neg (show ¬ nI 8 = 4 by decide), if_neg (show ¬ nI 8 = 5 by decide), if_neg (show ¬ nI 8 = 6 by decide), if_neg (show ¬ nI 8 = 7 by decide), if_pos (show nI 8 = 8 by decide)]; exact A_hoist9 J hc a3
  · rw [if_neg (show ¬ nI 9 = 0 by decide), if_neg (show ¬ nI 9 = 1 by decide), if_neg (show ¬ nI 9 = 2 by decide), if_neg (show ¬ nI 9 = 3 by decide), if_neg (show ¬ nI 9 = 4 by decide), if_neg (show ¬ nI 9 = 5 by decide), if_neg (show ¬ nI 9 = 6 by decide), if_neg (show ¬ nI 9 = 7 by decide), if_neg (show ¬ nI 9 = 8 by decide), if_pos (show nI 9 = 9 by decide)]; exact A_hoist9 J hc a3
  · rw [if_neg (show ¬ nI 10 = 0 by decide), if_neg (show ¬ nI 10 = 1 by decide), if_neg (show ¬ nI 10 = 2 by decide), if_neg (show ¬ nI 10 = 3 by decide), if_neg (show ¬ nI 10 = 4 by decide), if_neg (show ¬ nI 10 = 5 by decide), if_neg (show ¬ nI 10 = 6 by decide), if_neg (show ¬ nI 10 = 7 by decide), if_neg (show ¬ nI 10 = 8 by decide), if_neg (show ¬ nI 10 = 9 by decide), if_pos (show nI 10 = 10 by decide)]; exact A_hoist9 J hc a3
  · rw [if_neg (show ¬ nI 11 = 0 by decide), if_neg (show ¬ nI 11 = 1 by decide), if_neg (show ¬ nI 11 = 2 by decide), if_neg (show ¬ nI 11 = 3 by decide), if_neg (show ¬ nI 11 = 4 by decide), if_neg (show ¬ nI 11 = 5 by decide), if_neg (show ¬ nI 11 = 6 by decide), if_neg (show ¬ nI 11 = 7 by decide), if_neg (show ¬ nI 11 = 8 by decide), if_neg (show ¬ nI 11 = 9 by decide), if_neg (show ¬ nI 11 = 10 by decide), if_pos (show nI 11 = 11 by decide)]; exact A_take J hc
  · rw [if_neg (show ¬ nI 12 = 0 by decide), if_neg (show ¬ nI 12 = 1 by decide), if_neg (show ¬ nI 12 = 2 by decide), if_neg (show ¬ nI 12 = 3 by decide), if_neg (show ¬ nI 12 = 4 by decide), if_neg (show ¬ nI 12 = 5 by decide), if_neg (show ¬ nI 12 = 6 by decide), if_neg (show ¬ nI 12 = 7 by decide), if_neg (show ¬ nI 12 = 8 by decide), if_neg (show ¬ nI 12 = 9 by decide), if_neg (show ¬ nI 12 = 10 by decide), if_neg (show ¬ nI 12 = 11 by decide), if_pos (show nI 12 = 12 by decide)]; exact A_take J hc
  · rw [if_neg (show ¬ nI 13 = 0 by decide), if_neg (show ¬ nI 13 = 1 by decide), if_neg (show ¬ nI 13 = 2 by decide), if_neg (show ¬ nI 13 = 3 by decide), if_neg (show ¬ nI 13 = 4 by decide), if_neg (show ¬ nI 13 = 5 by decide), if_neg (show ¬ nI 13 = 6 by decide), if_neg (show ¬ nI 13 = 7 by decide), if_neg (show ¬ nI 13 = 8 by decide), if_neg (show ¬ nI 13 = 9 by decide), if_neg (show ¬ nI 13 = 10 by decide), if_neg (show ¬ nI 13 = 11 by decide), if_neg (show ¬ nI 13 = 12 by decide)]; exact A_lay J hc
theorem A_dispN (J : tc_J pa lv x y z t) {p j : Nat} (hp : p < 16) (hj : j < 4) (w1 a3 : Int32) : tc_A (a_disp x z a3 w1 (nI p) (nI j) none) pa lv x y t := by
  unfold a_disp
  rcases (show j = 0 ∨ j = 1 ∨ j = 2 ∨ j = 3 by omega) with rfl | rfl | rfl | rfl
  · rw [if_pos (show nI 0 = 0 by decide)]; exact A_land9 J hp a3
  · rw [if_neg (show ¬ nI 1 = 0 by decide), if_pos (show nI 1 = 1 by decide)]; exact A_land9 J hp a3
  · rw [if_neg (show ¬ nI 2 = 0 by decide), if_neg (show ¬ nI 2 = 1 by decide), if_pos (show nI 2 = 2 by decide)]; exact A_land9 J hp a3
  · rw [if_neg (show ¬ nI 3 = 0 by decide), if_neg (show ¬ nI 3 = 1 by decide), if_neg (show ¬ nI 3 = 2 by decide), if_pos (show nI 3 = 3 by decide)]; exact A_build9 J hp a3
theorem A_act (J : tc_J pa lv x y z t) (a3 : Int32) : tc_A (f_L_act x z a3) pa lv x y t := by
  have J0 := J
  obtain ⟨h, S, E, et⟩ := J
  have h5 := h.n5
  have en : tc_zn z = tc_nc x := S.1.2.2.1
  obtain ⟨i, hi, ei⟩ := lk_Jbelow (a3 >>> ((5 : Int32) &&& 31)) (n := 2) (by decide) (by decide)
  have ei' : f_L_below (a3 >>> ((5 : Int32) &&& 31)) 2 = some (nI i) := ei
  obtain ⟨u, hu, eu⟩ := lk_Jbelow (a3 >>> ((6 : Int32) &&& 31)) (n := 16) (by decide) (by decide)
  have eu' : f_L_below (a3 >>> ((6 : Int32) &&& 31)) 16 = some (nI u) := eu
  obtain ⟨v, hv, ev⟩ := lk_Jbelow (a3 >>> ((7 : Int32) &&& 31)) (n := 5) (by decide) (by decide)
  have ev' : f_L_below (a3 >>> ((7 : Int32) &&& 31)) 5 = some (nI v) := ev
  obtain ⟨j, hj, ej⟩ := lk_Jbelow a3 (n := 14) (by decide) (by decide)
  have ej' : f_L_below a3 14 = some (nI j) := ej
  have e4 : (4 : Int32) + nI v = nI (4 + v) := nI_add 4 v
  rw [lk_act, en]
  dsimp only [tc_jn]
  rw [ei', eu', ev', ej']
  dsimp only [Option.bind_some]
  rw [e4]
  by_cases w : tc_nc x = 0
  · rw [w, if_pos (show nI 0 = 0 by decide), if_neg (show ¬ (0 : Int32) ≤ -1 by decide)]
    dsimp only [tc_oc]
    have cj : nI j ≤ 3 ↔ j ≤ 3 := nI_leI (b := 3) (by omega) (by omega)
    by_cases wi : nI i = 0
    · rw [if_pos wi]
      by_cases wj : j ≤ 3
      · rw [if_pos (cj.mpr wj)]; exact A_dispN J0 hu (by omega) _ a3
      · rw [if_neg (fun z => wj (cj.mp z))]; exact A_dispN J0 hu (j := 3) (by omega) _ a3
    · rw [if_neg wi]
      by_cases wj : j ≤ 3
      · rw [if_pos (cj.mpr wj)]; exact A_dispN J0 (by omega) (by omega) _ a3
      · rw [if_neg (fun z => wj (cj.mp z))]; exact A_dispN J0 (by omega) (j := 3) (by omega) _ a3
  · obtain ⟨c, hc, ec⟩ := lk_Jbelow (a3 >>> ((3 : Int32) &&& 31)) (n := tc_nc x) (by omega) (by omega)
    have cz : ¬ nI (tc_nc x) = 0 := fun z => w ((nI_eq (b := 0) (by omega) (by omega)).mp z)
    rw [if_neg cz, ec]
    dsimp only [Option.bind_some]
    rw [if_pos (show (0 : Int32) ≤ nI c from Int32.not_lt.mp (nI_pos (by omega))), tc_cl (show c ≤ 1000 by omega), if_pos (tc_g2 hc (show c ≤ 1000 by omega))]
    dsimp only [tc_oc]
    by_cases wi : nI i = 0
    · rw [if_pos wi]; exact A_disp J0 hc hu hj a3
    · rw [if_neg wi]; exact A_disp J0 hc (by omega) hj a3
end LKD
