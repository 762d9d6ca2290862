/-! What is told of a place, and what is counted (written by wip/whole/hand8.py). -/
def tc_sm (q : Nat → Bool) (f : Nat → Int32) : Nat → Int32
  | 0 => 0
  | n + 1 => tc_sm q f n + (if q n = true then f n else 0)
theorem tc_sm_congr {q q' : Nat → Bool} {f f' : Nat → Int32} (n : Nat) (h : ∀ b, b < n → q b = q' b) (hf : ∀ b, b < n → f b = f' b) : tc_sm q f n = tc_sm q' f' n := by
  induction n with
  | zero => rfl
  | succ n ih =>
    show tc_sm q f n + (if q n = true then f n else 0) = tc_sm q' f' n + (if q' n = true then f' n else 0)
    rw [ih (fun b hb => h b (by omega)) (fun b hb => hf b (by omega)), h n (by omega), hf n (by omega)]
theorem tc_sm_no {q : Nat → Bool} {f : Nat → Int32} (n : Nat) (h : ∀ b, b < n → q b = false) : tc_sm q f n = 0 := by
  induction n with
  | zero => rfl
  | succ n ih =>
    show tc_sm q f n + (if q n = true then f n else 0) = 0
    rw [ih (fun b hb => h b (by omega)), h n (by omega)]; rfl
theorem tc_sm_one {q q' : Nat → Bool} {f : Nat → Int32} {t : Nat} (n : Nat) (ht : t < n) (hq : q t = false) (hq' : q' t = true) (h : ∀ b, b < n → b ≠ t → q b = q' b) : tc_sm q' f n = f t + tc_sm q f n := by
  induction n with
  | zero => omega
  | succ n ih =>
    show tc_sm q' f n + (if q' n = true then f n else 0) = f t + (tc_sm q f n + (if q n = true then f n else 0))
    by_cases e : n = t
    · subst e
      rw [hq, hq', if_pos rfl, if_neg (by decide), Int32.add_zero, tc_sm_congr n (fun b hb => (h b (by omega) (by omega)).symm) (fun b hb => rfl), Int32.add_comm]
    · rw [ih (by omega) (fun b hb => h b (by omega)), h n (by omega) e, Int32.add_assoc]
section TCPL
variable {pa lv : Nat → Nat} {x : tc_X} {y : tc_Y}
theorem tc_Rl.wL (h : tc_Rl pa lv x y) {p : Nat} (hp : p < 16) (i : Nat) : ∀ (n : Nat) (t : Nat) (acc : Int32), i + 1 < n → t < tc_nb x → pa t = p → lv t = i → lp_X2_weightsAt_8 n x acc (some t) = some (acc + tc_sm (fun b => decide (pa b = p) && decide (lv b < i + 1)) (y 3) (tc_nb x)) := by
  induction i with
  | zero =>
    intro n t acc hn ht hpt hlt
    obtain ⟨m, rfl⟩ : ∃ m, n = m + 2 := ⟨n - 2, by omega⟩
    have k := h.2.1 t ht
    obtain ⟨-, -, -, -, -, -, -, b0, -⟩ := k.2.2.2.1 (by omega)
    rw [lp_X2_weightsAt_8]
    show (if t < tc_nb x then tc_let (acc + x.1 11 t) (fun v10 => tc_oc (x.2.1 1 t) (lp_X2_weightsAt_8 (m + 1) x v10 none) (fun j12 => lp_X2_weightsAt_8 (m + 1) x v10 (some j12))) else none) = _
    rw [if_pos ht, tc_leteq, b0 hlt]
    show lp_X2_weightsAt_8 (m + 1) x (acc + x.1 11 t) none = _
    rw [lp_X2_weightsAt_8]
    show some (acc + x.1 11 t) = _
    rw [tc_sm_one (q := fun _ => false) (t := t) (tc_nb x) ht rfl (by rw [hpt, hlt]; simp) (fun b hb hne => by
      symm
      by_cases e1 : pa b = p
      · have e2 : ¬ lv b < 0 + 1 := fun z => hne (h.2.2.2.2.2.1 b t hb ht (by omega) (by omega) (by omega))
        simp [e2]
      · simp [e1]), tc_sm_no (tc_nb x) (fun _ _ => rfl), Int32.add_zero, k.2.1]
  | succ i ih =>
    intro n t acc hn ht hpt hlt
    obtain ⟨m, rfl⟩ : ∃ m, n = m + 1 := ⟨n - 1, by omega⟩
    have k := h.2.1 t ht
    obtain ⟨-, -, -, -, -, -, -, -, bS⟩ := k.2.2.2.1 (by omega)
    obtain ⟨b', b1, b2, b3, b4⟩ := bS i hlt
    rw [lp_X2_weightsAt_8]
    show (if t < tc_nb x then tc_let (acc + x.1 11 t) (fun v10 => tc_oc (x.2.1 1 t) (lp_X2_weightsAt_8 m x v10 none) (fun j12 => lp_X2_weightsAt_8 m x v10 (some j12))) else none) = _
    rw [if_pos ht, tc_leteq, b2]
    show lp_X2_weightsAt_8 m x (acc + x.1 11 t) (some b') = _
    rw [ih m b' (acc + x.1 11 t) (by omega) b1 (b3.trans hpt) b4]
    rw [tc_sm_one (q := fun b => decide (pa b = p) && decide (lv b < i + 1)) (q' := fun b => decide (pa b = p) && decide (lv b < i + 1 + 1)) (t := t) (tc_nb x) ht (by simp [hlt]) (by simp [hpt, hlt]) (fun b hb hne => by
      by_cases e1 : pa b = p
      · have e2 : lv b ≠ i + 1 := fun z => hne (h.2.2.2.2.2.1 b t hb ht (by omega) (by omega) (by omega))
        have e3 : (lv b < i + 1) ↔ (lv b < i + 1 + 1) := by omega
        simp [e1, e3]
      · simp [e1]), k.2.1, Int32.add_assoc]
theorem tc_Rl.wA (h : tc_Rl pa lv x y) {p : Nat} (hp : p < 16) : f_X2_weightsAt x (nI p) = some (tc_sm (fun b => decide (y 4 b = nI p)) (y 3) (tc_nb x)) := by
  have h40 := h.1.2.2.2.1
  have hq : ∀ b, b < tc_nb x → decide (y 4 b = nI p) = decide (pa b = p) := fun b hb => by
    rw [decide_eq_decide]; exact h.at_iff hb hp
  unfold f_X2_weightsAt
  rw [tc_up hp]
  rcases h.up0 hp with ⟨e1, e2⟩ | ⟨b, i, e1, e2, e3, e4, e5⟩
  · rw [e1]
    show lp_X2_weightsAt_8 100 x 0 none = _
    rw [tc_sm_no (tc_nb x) (fun b hb => by
      rw [hq b hb]
      have z : ¬ pa b = p := fun w => by
        have := ((h.2.1 b hb).2.2.2.1 (by omega)).2.2.2.2.1
        rw [w, e2] at this; omega
      simp [z])]
    rfl
  · rw [e1]
    show lp_X2_weightsAt_8 100 x 0 (some b) = _
    have h8 := h.c8 hp
    rw [h.wL hp i 100 b 0 (by omega) e2 e3 e4, Int32.zero_add]
    congr 1
    refine tc_sm_congr (tc_nb x) (fun b' hb' => ?_) (fun _ _ => rfl)
    rw [hq b' hb']
    by_cases z : pa b' = p
    · have := ((h.2.1 b' hb').2.2.2.1 (by omega)).2.2.2.2.1
      rw [z, e5] at this
      simp [z, this]
    · simp [z]
theorem tc_Rl.hoL (h : tc_Rl pa lv x y) (a : Int32) (n : Nat) : ∀ k, k ≤ tc_nc x → tc_nc x - k < n → lp_X2_hooksOver_4 n x a (nI (tc_cy (y 12) a k)) (nI k) = some (nI (tc_cy (y 12) a (tc_nc x))) := by
  have h5 := h.1.2.2.2.2
  induction n with
  | zero => intro k _ h; omega
  | succ n ih =>
    intro k hk hn
    rw [lp_X2_hooksOver_4]
    by_cases e : k = tc_nc x
    · subst e; rw [if_pos (nI_le (Nat.le_refl _) (by omega))]
    · have hkc : k < tc_nc x := by omega
      have st := ih (k + 1) (by omega) (by omega)
      rw [show tc_cy (y 12) a (k + 1) = tc_cy (y 12) a k + (if y 12 k = a then 1 else 0) from rfl] at st
      rw [if_neg (nI_ge (a := k) (by omega) (by omega)), tc_cl (show k ≤ 1000 by omega), if_pos (tc_g2 hkc (show k ≤ 1000 by omega)), tc_leteq, (h.2.2.1 k hkc).2.2.2.2.2.1]
      by_cases e4 : y 12 k = a
      · rw [if_pos e4] at st ⊢
        rw [tc_leteq, tc_leteq, nI_1, nI_1]; exact st
      · rw [if_neg e4] at st ⊢
        rw [tc_leteq, nI_1]; exact st
def tc_T4 (r8 r10 w1 w4 : Int32) : Nat → Int32 := upd (upd (upd (upd (fun _ : Nat => (0 : Int32)) (0 : Int32).toNatClampNeg r8) (1 : Int32).toNatClampNeg r10) (2 : Int32).toNatClampNeg w1) (3 : Int32).toNatClampNeg w4
theorem tc_Rl.pt51 (h : tc_Rl pa lv x y) {p w : Nat} (hp : p < 16) (hw : w < 4) {r10 : Int32} (hr : f_X3_top y (nI p) = some r10) (W : Int32) (n : Nat) : ∀ k, k ≤ tc_nc x → tc_nc x - k < n → lp_X3_placeTold_51 n y (nI p) (nI w) W (nI (tc_cy (y 12) (nI p) k)) (nI k) = some (tc_T4 (nI (tc_cnt pa (tc_nb x) p)) r10 W (nI (tc_cy (y 12) (nI p) (tc_nc x))) w) := by
  have h5 := h.1.2.2.2.2
  induction n with
  | zero => intro k _ h; omega
  | succ n ih =>
    intro k hk hn
    rw [lp_X3_placeTold_51, h.1.2.2.1]
    by_cases e : k = tc_nc x
    · subst e
      rw [if_pos (nI_le (Nat.le_refl _) (by omega)), h.hi hp, hr]
      simp only [Option.bind_some, tc_cl (show w ≤ 1000 by omega), if_pos (tc_g2 hw (show w ≤ 1000 by omega))]
      rfl
    · have hkc : k < tc_nc x := by omega
      have st := ih (k + 1) (by omega) (by omega)
      rw [show tc_cy (y 12) (nI p) (k + 1) = tc_cy (y 12) (nI p) k + (if y 12 k = nI p then 1 else 0) from rfl] at st
      rw [if_neg (nI_ge (a := k) (by omega) (by omega)), tc_cl (show k ≤ 1000 by omega), if_pos (tc_g2 (show k < 5 by omega) (show k ≤ 1000 by omega))]
      by_cases e4 : y 12 k = nI p
      · rw [if_pos e4] at st ⊢
        rw [tc_leteq, tc_leteq, nI_1, nI_1]; exact st
      · rw [if_neg e4] at st ⊢
        rw [tc_leteq, tc_leteq, nI_1, show nI (tc_cy (y 12) (nI p) k) + 0 = nI (tc_cy (y 12) (nI p) k + 0) from nI_add _ 0]; exact st
theorem tc_Rl.pt8 (h : tc_Rl pa lv x y) {p w : Nat} (hp : p < 16) (hw : w < 4) {r10 : Int32} (hr : f_X3_top y (nI p) = some r10) (n : Nat) : ∀ k, k ≤ tc_nb x → tc_nb x - k < n → lp_X3_placeTold_8 n y (nI p) (nI w) (tc_sm (fun b => decide (y 4 b = nI p)) (y 3) k) (nI k) = some (tc_T4 (nI (tc_cnt pa (tc_nb x) p)) r10 (tc_sm (fun b => decide (y 4 b = nI p)) (y 3) (tc_nb x)) (nI (tc_cy (y 12) (nI p) (tc_nc x))) w) := by
  have h40 := h.1.2.2.2.1
  have h5 := h.1.2.2.2.2
  induction n with
  | zero => intro k _ h; omega
  | succ n ih =>
    intro k hk hn
    rw [lp_X3_placeTold_8, h.1.2.1]
    by_cases e : k = tc_nb x
    · subst e
      rw [if_pos (nI_le (Nat.le_refl _) (by omega))]
      exact h.pt51 hp hw hr _ 100 0 (Nat.zero_le _) (by omega)
    · have st := ih (k + 1) (by omega) (by omega)
      rw [show tc_sm (fun b => decide (y 4 b = nI p)) (y 3) (k + 1) = tc_sm (fun b => decide (y 4 b = nI p)) (y 3) k + (if decide (y 4 k = nI p) = true then y 3 k else 0) from rfl] at st
      rw [if_neg (nI_ge (a := k) (by omega) (by omega)), tc_cl (show k ≤ 1000 by omega), if_pos (tc_g2 (show k < 40 by omega) (show k ≤ 1000 by omega))]
      by_cases e4 : y 4 k = nI p
      · rw [if_pos (decide_eq_true e4)] at st
        rw [if_pos e4, tc_leteq, tc_leteq, nI_1]; exact st
      · rw [if_neg (by simp [e4])] at st
        rw [if_neg e4, tc_leteq, tc_leteq, nI_1]; exact st
theorem tc_Rl.tP (h : tc_Rl pa lv x y) {p w : Nat} (hp : p < 16) (hw : w < 4) : ∃ v, f_X2_placeAnswer x (nI p) (nI w) = some v ∧ f_X3_placeTold y (nI p) (nI w) = some v := by
  have h40 := h.1.2.2.2.1
  have h5 := h.1.2.2.2.2
  have e3 := h.pt8 hp hw (h.top hp) 100 0 (Nat.zero_le _) (by omega)
  have e4 : f_X3_placeTold y (nI p) (nI w) = _ := e3
  rw [e4]
  clear e3 e4
  have ho : f_X2_hooksOver x (nI p) = some (nI (tc_cy (y 12) (nI p) (tc_nc x))) := h.hoL (nI p) 100 0 (Nat.zero_le _) (by omega)
  rcases (show w = 0 ∨ w = 1 ∨ w = 2 ∨ w = 3 by omega) with rfl | rfl | rfl | rfl
  · exact ⟨_, by unfold f_X2_placeAnswer; rw [if_pos (show nI 0 = (0 : Int32) by decide), h.ht hp]; rfl, rfl⟩
  · refine ⟨_, ?_, rfl⟩
    unfold f_X2_placeAnswer
    rw [if_neg (show ¬ nI 1 = (0 : Int32) by decide), if_pos (show nI 1 = (1 : Int32) by decide), tc_up hp]
    rcases h.up0 hp with ⟨e1, e2⟩ | ⟨b, i, e1, e2, e3, e4, e5⟩
    · rw [e1]; rfl
    · rw [e1]
      show Option.bind (f_X2_numberOf x (some b)) (fun r11 => some r11) = _
      rw [h.nof e2]; rfl
  · exact ⟨_, by unfold f_X2_placeAnswer; rw [if_neg (show ¬ nI 2 = (0 : Int32) by decide), if_neg (show ¬ nI 2 = (1 : Int32) by decide), if_pos (show nI 2 = (2 : Int32) by decide), h.wA hp]; rfl, rfl⟩
  · exact ⟨_, by unfold f_X2_placeAnswer; rw [if_neg (show ¬ nI 3 = (0 : Int32) by decide), if_neg (show ¬ nI 3 = (1 : Int32) by decide), if_neg (show ¬ nI 3 = (2 : Int32) by decide), ho]; rfl, rfl⟩
end TCPL
theorem tc_op_place : op_place tc_R := by
  intro x y a1 a2 ⟨pa, lv, h⟩
  have h0 := h.th 0
  rcases tc_plc a1 with ⟨e3, e2⟩ | ⟨p, hp, rfl, e3, -, e2⟩
  · exact ⟨1, 0, 0, tc_ym (tc_ym y 0 0 0) 0 0 1, by simp only [f_X2_place, e2, Option.bind_some, if_neg tc_k1], by simp only [f_X3_place, tc_let, e3, Option.bind_some, if_pos, f_X3_no, tc_b2], by decide, tc_th0, fun z => absurd z (by decide), tc_no h 1⟩
  · rcases tc_ans (x := x) (a := a2) (M := 4) (n := 4) rfl (by decide) (by decide) with ⟨p3, p2⟩ | ⟨w, hw, rfl, p3, p2⟩
    · have p3 : f_X3_isIn a2 0 3 = some 0 := p3
      exact ⟨1, 0, 0, tc_ym (tc_ym y 0 0 0) 0 0 1, by simp only [f_X2_place, e2, Option.bind_some, if_pos, p2, if_neg tc_k1], by simp only [f_X3_place, tc_let, e3, Option.bind_some, if_neg tc_10, p3, if_pos, f_X3_no, tc_b2], by decide, tc_th0, fun z => absurd z (by decide), tc_no h 1⟩
    · have p3 : f_X3_isIn (nI w) 0 3 = some 1 := p3
      obtain ⟨v, v2, v3⟩ := h0.tP hp hw
      exact ⟨0, v, v, tc_ym y 0 0 0, by simp only [f_X2_place, e2, Option.bind_some, if_pos, p2, v2], by simp only [f_X3_place, tc_let, e3, Option.bind_some, if_neg tc_10, p3, v3], by decide, tc_th0, fun _ => rfl, pa, lv, h0⟩
