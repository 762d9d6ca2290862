/-! What holds between the class's wharf and the law's own: pa and lv as in whole's relation, y the reference's numbers (a ghost here). -/
def tc_S (pa lv : Nat → Nat) (N n : Nat) (y : tc_Y) (z : tc_Z) : Prop :=
  (z.1 0 = y 1 0 ∧ z.1 1 = nI (tc_cnt pa N 17) ∧ tc_zn z = n ∧ tc_zl z 2 = N ∧ (∀ b, b < N → tc_zf z 2 b = y 3 b)) ∧
  (∀ p, p < 16 → tc_zl z (5 + p) = tc_cnt pa N p ∧ ∀ b, b < N → pa b = p → tc_zf z (5 + p) (lv b) = nI b) ∧
  (∀ k, k < n → tc_zl z (21 + k) = 8 ∧ ∀ i, i < 8 → tc_zf z (21 + k) i = y (7 + i) k) ∧
  (∀ b, b < 40 → tc_zf z 4 b = if b < N ∧ pa b = 17 then 1 else 0)
/-- a crane's numbers: post, reach, drum, walkers, wear, the hook's place, its height -/
def tc_Cn (y : tc_Y) (k po rr d wk wo q H : Nat) : Prop := (y 7 k = nI po ∧ y 8 k = nI rr ∧ y 9 k = nI d ∧ y 10 k = nI wk ∧ y 11 k = nI wo ∧ y 12 k = nI q ∧ y 13 k = nI H) ∧ po < 16 ∧ (1 ≤ rr ∧ rr ≤ 15) ∧ (1 ≤ d ∧ d ≤ 6) ∧ wk ≤ 8 ∧ wo ≤ 99 ∧ q < 16 ∧ H ≤ 20 ∧ q ≤ po + rr ∧ po ≤ q + rr
def tc_Ex (pa : Nat → Nat) (x : tc_X) (y : tc_Y) : Prop := (∀ b, b < tc_nb x → ∃ w, 1 ≤ w ∧ w ≤ 60 ∧ y 3 b = nI w) ∧ (∀ k, k < tc_nc x → ∃ po rr d wk wo q H, tc_Cn y k po rr d wk wo q H ∧ tc_cnt pa (tc_nb x) q + tc_ld x k ≤ H)
def tc_J (pa lv : Nat → Nat) (x : tc_X) (y : tc_Y) (z : tc_Z) (t : Nat) : Prop := tc_Rl pa lv x y ∧ tc_S pa lv (tc_nb x) (tc_nc x) y z ∧ tc_Ex pa x y ∧ y 1 0 = nI t
theorem tc_J0 : tc_J (fun _ => 0) (fun _ => 0) tc_x0 (fun _ _ => 0) tc_z0 0 := by
  refine ⟨⟨⟨rfl, rfl, rfl, by decide, by decide⟩, fun b hb => absurd hb (Nat.not_lt_zero _), fun b hb => absurd hb (Nat.not_lt_zero _), fun p hp => ⟨fun _ => rfl, fun i hi => absurd hi (Nat.succ_ne_zero _).symm, Nat.zero_le _⟩, fun _ _ => rfl, fun b b' hb => absurd hb (Nat.not_lt_zero _), fun p i _ hi => absurd hi (Nat.not_lt_zero _), rfl, fun _ _ => rfl⟩, ⟨⟨rfl, rfl, rfl, rfl, fun b hb => absurd hb (Nat.not_lt_zero _)⟩, fun p _ => ⟨rfl, fun b hb => absurd hb (Nat.not_lt_zero _)⟩, fun k hk => absurd hk (Nat.not_lt_zero _), fun b _ => ?_⟩, ⟨fun b hb => absurd hb (Nat.not_lt_zero _), fun k hk => absurd hk (Nat.not_lt_zero _)⟩, rfl⟩
  rw [if_neg (fun z => absurd z.1 (Nat.not_lt_zero _))]
  rfl
/-! what the class tells -/
theorem tc_bt {b n : Nat} (hb : b < n) (hn : n ≤ 1000) : f_X2_isBetween (nI b) 0 (nI n - 1) = some 1 := by
  have e : nI n - 1 = nI (n - 1) := pk_sub (a := n) (b := 1) (by omega)
  rw [e]
  unfold f_X2_isBetween
  rw [if_neg (nI_pos (by omega)), if_neg (fun z => absurd ((nI_ltI (by omega) (by omega)).mp z) (by omega))]
theorem tc_ra {x : tc_X} {w n : Nat} (hw : w < n) (hn : n ≤ 1000) : f_X2_requireAnswer x (nI w) (nI n) = some 0 := by
  unfold f_X2_requireAnswer
  rw [tc_bt hw hn]; rfl
theorem tc_rc0 {x : tc_X} {c : Nat} (hc : c < tc_nc x) (hn : tc_nc x ≤ 1000) : f_X2_requireCrane x (nI c) = some 0 := by
  unfold f_X2_requireCrane
  rw [tc_bt hc hn]; rfl
theorem tc_rp0 {x : tc_X} {p : Nat} (hp : p < 16) : f_X2_requirePlace x (nI p) = some 0 := by
  unfold f_X2_requirePlace
  rw [(tc_pl1 hp).1]; rfl
theorem tc_rd0 {r : Int32} : tc_rd (some (0, r)) = some r := rfl
section TRD
variable {pa lv : Nat → Nat} {x : tc_X} {y : tc_Y}
theorem tc_Rl.n40 (h : tc_Rl pa lv x y) : tc_nb x ≤ 40 := h.1.2.2.2.1
theorem tc_Rl.n5 (h : tc_Rl pa lv x y) : tc_nc x ≤ 5 := h.1.2.2.2.2
theorem tc_Rl.rB (h : tc_Rl pa lv x y) {b w : Nat} (hb : b < tc_nb x) (hw : w < 5) {v : Int32} (hv : f_X2_barrelAnswer x b (nI w) = some v) : tc_rd (f_X2_barrel x (nI b) (nI w)) = some v := by
  have h40 := h.n40
  simp only [f_X2_barrel, tc_bt hb (show tc_nb x ≤ 1000 by omega), Option.bind_some, if_neg tc_10, show f_X2_requireAnswer x (nI w) 5 = some 0 from tc_ra (n := 5) hw (by decide), if_pos, tc_cl (show b ≤ 1000 by omega), if_pos (tc_g2 hb (show b ≤ 1000 by omega)), tc_leteq, hv]
  rfl
theorem tc_Rl.rC (h : tc_Rl pa lv x y) {c w : Nat} (hc : c < tc_nc x) (hw : w < 9) {v : Int32} (hv : f_X2_craneAnswer x c (nI w) = some v) : tc_rd (f_X2_crane x (nI c) (nI w)) = some v := by
  have h5 := h.n5
  simp only [f_X2_crane, tc_rc0 hc (show tc_nc x ≤ 1000 by omega), Option.bind_some, if_pos, show f_X2_requireAnswer x (nI w) 9 = some 0 from tc_ra (n := 9) hw (by decide), tc_cl (show c ≤ 1000 by omega), if_pos (tc_g2 hc (show c ≤ 1000 by omega)), tc_leteq, hv]
  rfl
theorem tc_Rl.rP (h : tc_Rl pa lv x y) {p w : Nat} (hp : p < 16) (hw : w < 4) {v : Int32} (hv : f_X2_placeAnswer x (nI p) (nI w) = some v) : tc_rd (f_X2_place x (nI p) (nI w)) = some v := by
  simp only [f_X2_place, tc_rp0 (x := x) hp, Option.bind_some, if_pos, show f_X2_requireAnswer x (nI w) 4 = some 0 from tc_ra (n := 4) hw (by decide), hv]
  rfl
theorem tc_Rl.rN (h : tc_Rl pa lv x y) {w : Nat} (hw : w < 7) {v : Int32} (hv : f_X2_countAnswer x (nI w) = some v) : tc_rd (f_X2_count x (nI w)) = some v := by
  simp only [f_X2_count, Option.bind_some, if_pos, show f_X2_requireAnswer x (nI w) 7 = some 0 from tc_ra (n := 7) hw (by decide), hv]
  rfl
/-- a crane's eight numbers -/
theorem tc_Rl.crane (h : tc_Rl pa lv x y) {c w : Nat} (hc : c < tc_nc x) (hw : w < 8) : tc_rd (f_X2_crane x (nI c) (nI w)) = some (y (7 + w) c) := by
  refine h.rC hc (by omega) ?_
  have k := h.2.2.1 c hc
  rcases (show w = 0 ∨ w = 1 ∨ w = 2 ∨ w = 3 ∨ w = 4 ∨ w = 5 ∨ w = 6 ∨ w = 7 by omega) with rfl | rfl | rfl | rfl | rfl | rfl | rfl | rfl
  · show (if nI 0 = 0 then (if c < tc_nc x then some (x.1 20 c) else none) else _) = _
    rw [if_pos (by decide), if_pos hc, k.1]
  · unfold f_X2_craneAnswer
    rw [if_neg (show ¬ nI 1 = 0 by decide), if_pos (show nI 1 = 1 by decide), if_pos hc, k.2.1]
  · unfold f_X2_craneAnswer
    rw [if_neg (show ¬ nI 2 = 0 by decide), if_neg (show ¬ nI 2 = 1 by decide), if_pos (show nI 2 = 2 by decide), if_pos hc, k.2.2.1]
  · unfold f_X2_craneAnswer
    rw [if_neg (show ¬ nI 3 = 0 by decide), if_neg (show ¬ nI 3 = 1 by decide), if_neg (show ¬ nI 3 = 2 by decide), if_pos (show nI 3 = 3 by decide), if_pos hc, k.2.2.2.1]
  · unfold f_X2_craneAnswer
    rw [if_neg (show ¬ nI 4 = 0 by decide), if_neg (show ¬ nI 4 = 1 by decide), if_neg (show ¬ nI 4 = 2 by decide), if_neg (show ¬ nI 4 = 3 by decide), if_pos (show nI 4 = 4 by decide), if_pos hc, k.2.2.2.2.1]
  · unfold f_X2_craneAnswer
    rw [if_neg (show ¬ nI 5 = 0 by decide), if_neg (show ¬ nI 5 = 1 by decide), if_neg (show ¬ nI 5 = 2 by decide), if_neg (show ¬ nI 5 = 3 by decide), if_neg (show ¬ nI 5 = 4 by decide), if_pos (show nI 5 = 5 by decide), if_pos hc, k.2.2.2.2.2.1]
  · unfold f_X2_craneAnswer
    rw [if_neg (show ¬ nI 6 = 0 by decide), if_neg (show ¬ nI 6 = 1 by decide), if_neg (show ¬ nI 6 = 2 by decide), if_neg (show ¬ nI 6 = 3 by decide), if_neg (show ¬ nI 6 = 4 by decide), if_neg (show ¬ nI 6 = 5 by decide), if_pos (show nI 6 = 6 by decide), if_pos hc, k.2.2.2.2.2.2.1]
  · unfold f_X2_craneAnswer
    rw [if_neg (show ¬ nI 7 = 0 by decide), if_neg (show ¬ nI 7 = 1 by decide), if_neg (show ¬ nI 7 = 2 by decide), if_neg (show ¬ nI 7 = 3 by decide), if_neg (show ¬ nI 7 = 4 by decide), if_neg (show ¬ nI 7 = 5 by decide), if_neg (show ¬ nI 7 = 6 by decide), if_pos (show nI 7 = 7 by decide), if_pos hc]
    cases hl : x.2.1 2 c with
    | none => rw [show y (7 + 7) c = -1 from k.2.2.2.2.2.2.2.2.2.2.2.1 hl]; rfl
    | some j =>
      obtain ⟨hj, y14, -⟩ := k.2.2.2.2.2.2.2.2.2.2.2.2 j hl
      rw [show y (7 + 7) c = nI j from y14]
      simp only [tc_oc, h.nof hj, Option.bind_some]
theorem tc_Rl.crane8 (h : tc_Rl pa lv x y) {c : Nat} (hc : c < tc_nc x) : tc_rd (f_X2_crane x (nI c) 8) = some (12 * y 10 c / y 9 c) := by
  refine h.rC (w := 8) hc (by omega) ?_
  have k := h.2.2.1 c hc
  unfold f_X2_craneAnswer
  rw [if_neg (show ¬ nI 8 = 0 by decide), if_neg (show ¬ nI 8 = 1 by decide), if_neg (show ¬ nI 8 = 2 by decide), if_neg (show ¬ nI 8 = 3 by decide), if_neg (show ¬ nI 8 = 4 by decide), if_neg (show ¬ nI 8 = 5 by decide), if_neg (show ¬ nI 8 = 6 by decide), if_neg (show ¬ nI 8 = 7 by decide), if_pos hc, (h.st2 hc).1, k.2.2.1, k.2.2.2.1]
  rfl
theorem tc_Rl.barrel0 (h : tc_Rl pa lv x y) {b : Nat} (hb : b < tc_nb x) : tc_rd (f_X2_barrel x (nI b) 0) = some (y 3 b) := by
  refine h.rB (w := 0) hb (by omega) ?_
  unfold f_X2_barrelAnswer
  rw [if_pos (show nI 0 = 0 by decide), if_pos hb, (h.2.1 b hb).2.1]
theorem tc_Rl.barrel1 (h : tc_Rl pa lv x y) {b : Nat} (hb : b < tc_nb x) : tc_rd (f_X2_barrel x (nI b) 1) = some (if pa b < 16 then nI (pa b) else -1) := by
  refine h.rB (w := 1) hb (by omega) ?_
  unfold f_X2_barrelAnswer
  rw [if_neg (show ¬ nI 1 = 0 by decide), if_pos (show nI 1 = 1 by decide), if_pos hb]
  have k := h.2.1 b hb
  rcases (show pa b < 16 ∨ pa b = 16 ∨ pa b = 17 by have := k.2.2.1; omega) with e | e | e
  · rw [if_pos e, (k.2.2.2.1 e).2.1]
  · rw [if_neg (by omega), (k.2.2.2.2.1 e).2.1]
  · rw [if_neg (by omega), (k.2.2.2.2.2.1 e).2.1]
theorem tc_Rl.barrel2 (h : tc_Rl pa lv x y) {b : Nat} (hb : b < tc_nb x) : tc_rd (f_X2_barrel x (nI b) 2) = some (if pa b < 16 then nI (tc_cnt pa (tc_nb x) (pa b) - 1 - lv b) else 0) := by
  refine h.rB (w := 2) hb (by omega) ?_
  unfold f_X2_barrelAnswer
  rw [if_neg (show ¬ nI 2 = 0 by decide), if_neg (show ¬ nI 2 = 1 by decide), if_pos (show nI 2 = 2 by decide), if_pos hb]
  have k := h.2.1 b hb
  rcases (show pa b < 16 ∨ pa b = 16 ∨ pa b = 17 by have := k.2.2.1; omega) with e | e | e
  · obtain ⟨q1, q2, q3, q4, q5, -⟩ := k.2.2.2.1 e
    rw [if_pos e, q2, if_neg (tc_nIneg (p := pa b) (by omega)).1, h.ht e, q4]
    show some _ = some _
    congr 1
    rw [show (1 : Int32) = nI 1 from rfl, pk_sub (by omega), pk_sub (by omega)]
    congr 1
    omega
  · rw [(k.2.2.2.2.1 e).2.1, if_pos rfl, if_neg (show ¬ pa b < 16 by omega)]
  · rw [(k.2.2.2.2.2.1 e).2.1, if_pos rfl, if_neg (show ¬ pa b < 16 by omega)]
theorem tc_Rl.barrel3 (h : tc_Rl pa lv x y) {b : Nat} (hb : b < tc_nb x) : tc_rd (f_X2_barrel x (nI b) 3) = some (x.1 14 b) := by
  refine h.rB (w := 3) hb (by omega) ?_
  unfold f_X2_barrelAnswer
  rw [if_neg (show ¬ nI 3 = 0 by decide), if_neg (show ¬ nI 3 = 1 by decide), if_neg (show ¬ nI 3 = 2 by decide), if_pos (show nI 3 = 3 by decide), if_pos hb]
theorem tc_Rl.b14 (h : tc_Rl pa lv x y) {b : Nat} (hb : b < tc_nb x) : (¬ pa b = 16 ∧ x.1 14 b = -1) ∨ (pa b = 16 ∧ ∃ c, c < tc_nc x ∧ x.1 14 b = nI c ∧ x.2.1 2 c = some b ∧ y 14 c = nI b) := by
  have k := h.2.1 b hb
  rcases (show pa b < 16 ∨ pa b = 16 ∨ pa b = 17 by have := k.2.2.1; omega) with e | e | e
  · exact Or.inl ⟨by omega, (k.2.2.2.1 e).2.2.2.2.2.1⟩
  · obtain ⟨-, -, -, c, hc, e1, e2⟩ := k.2.2.2.2.1 e
    exact Or.inr ⟨e, c, hc, e1, e2, ((h.2.2.1 c hc).2.2.2.2.2.2.2.2.2.2.2.2 b e2).2.1⟩
  · exact Or.inl ⟨by omega, (k.2.2.2.2.2.1 e).2.2.2⟩
theorem tc_Rl.barrel4 (h : tc_Rl pa lv x y) {b : Nat} (hb : b < tc_nb x) : tc_rd (f_X2_barrel x (nI b) 4) = some (if pa b = 17 then 1 else 0) := by
  refine h.rB (w := 4) hb (by omega) ?_
  unfold f_X2_barrelAnswer
  rw [if_neg (show ¬ nI 4 = 0 by decide), if_neg (show ¬ nI 4 = 1 by decide), if_neg (show ¬ nI 4 = 2 by decide), if_neg (show ¬ nI 4 = 3 by decide), if_pos hb]
  have k := h.2.1 b hb
  rcases (show pa b < 16 ∨ pa b = 16 ∨ pa b = 17 by have := k.2.2.1; omega) with e | e | e
  · rw [if_neg (show ¬ pa b = 17 by omega), (k.2.2.2.1 e).2.2.2.2.2.2.1]; rfl
  · rw [if_neg (show ¬ pa b = 17 by omega), (k.2.2.2.2.1 e).2.2.1]; rfl
  · rw [if_pos e, (k.2.2.2.2.2.1 e).2.2.1]; rfl
theorem tc_Rl.place0 (h : tc_Rl pa lv x y) {p : Nat} (hp : p < 16) : tc_rd (f_X2_place x (nI p) 0) = some (nI (tc_cnt pa (tc_nb x) p)) := by
  refine h.rP (w := 0) hp (by omega) ?_
  unfold f_X2_placeAnswer
  rw [if_pos (show nI 0 = 0 by decide), h.ht hp]; rfl
theorem tc_Rl.place1 (h : tc_Rl pa lv x y) {p : Nat} (hp : p < 16) : (tc_cnt pa (tc_nb x) p = 0 ∧ tc_rd (f_X2_place x (nI p) 1) = some (-1)) ∨ ∃ t i, t < tc_nb x ∧ pa t = p ∧ lv t = i ∧ tc_cnt pa (tc_nb x) p = i + 1 ∧ tc_rd (f_X2_place x (nI p) 1) = some (nI t) := by
  rcases h.up0 hp with ⟨e1, e2⟩ | ⟨t, i, e1, ht, e2, e3, e4⟩
  · refine Or.inl ⟨e2, h.rP (w := 1) hp (by omega) ?_⟩
    unfold f_X2_placeAnswer
    rw [if_neg (show ¬ nI 1 = 0 by decide), if_pos (show nI 1 = 1 by decide), tc_up hp, Option.bind_some, e1]; rfl
  · refine Or.inr ⟨t, i, ht, e2, e3, e4, h.rP (w := 1) hp (by omega) ?_⟩
    unfold f_X2_placeAnswer
    rw [if_neg (show ¬ nI 1 = 0 by decide), if_pos (show nI 1 = 1 by decide), tc_up hp, Option.bind_some, e1]
    simp only [tc_oc, h.nof ht, Option.bind_some]
theorem tc_Rl.place2 (h : tc_Rl pa lv x y) {p : Nat} (hp : p < 16) : tc_rd (f_X2_place x (nI p) 2) = some (tc_sm (fun b => decide (y 4 b = nI p)) (y 3) (tc_nb x)) := by
  refine h.rP (w := 2) hp (by omega) ?_
  unfold f_X2_placeAnswer
  rw [if_neg (show ¬ nI 2 = 0 by decide), if_neg (show ¬ nI 2 = 1 by decide), if_pos (show nI 2 = 2 by decide), h.wA hp]; rfl
theorem tc_Rl.place3 (h : tc_Rl pa lv x y) {p : Nat} (hp : p < 16) : tc_rd (f_X2_place x (nI p) 3) = some (nI (tc_cy (y 12) (nI p) (tc_nc x))) := by
  refine h.rP (w := 3) hp (by omega) ?_
  unfold f_X2_placeAnswer
  have e : f_X2_hooksOver x (nI p) = some (nI (tc_cy (y 12) (nI p) (tc_nc x))) := h.hoL (nI p) 100 0 (Nat.zero_le _) (by have := h.n5; omega)
  rw [if_neg (show ¬ nI 3 = 0 by decide), if_neg (show ¬ nI 3 = 1 by decide), if_neg (show ¬ nI 3 = 2 by decide), e]; rfl
theorem tc_Rl.count0 (h : tc_Rl pa lv x y) : tc_rd (f_X2_count x 0) = some (y 1 0) := by
  refine h.rN (w := 0) (by omega) ?_
  unfold f_X2_countAnswer
  rw [if_pos (show nI 0 = 0 by decide), h.1.1]
theorem tc_Rl.count1 (h : tc_Rl pa lv x y) : tc_rd (f_X2_count x 1) = some (nI (tc_nb x)) := by
  refine h.rN (w := 1) (by omega) ?_
  unfold f_X2_countAnswer
  rw [if_neg (show ¬ nI 1 = 0 by decide), if_pos (show nI 1 = 1 by decide)]
theorem tc_Rl.st (h : tc_Rl pa lv x y) : f_X2_standing x = some (nI (tc_s16 (tc_cnt pa (tc_nb x)) 16)) := h.stL 100 0 (Nat.zero_le _) (by omega)
theorem tc_Rl.ha (h : tc_Rl pa lv x y) : f_X2_hanging x = some (nI (tc_cnt pa (tc_nb x) 16)) := by
  rw [h.2.2.2.2.2.2.2.1]
  exact h.haL 100 0 (Nat.zero_le _) (by have := h.n5; omega)
theorem tc_Rl.count2 (h : tc_Rl pa lv x y) : tc_rd (f_X2_count x 2) = some (nI (tc_s16 (tc_cnt pa (tc_nb x)) 16)) := by
  refine h.rN (w := 2) (by omega) ?_
  unfold f_X2_countAnswer
  rw [if_neg (show ¬ nI 2 = 0 by decide), if_neg (show ¬ nI 2 = 1 by decide), if_pos (show nI 2 = 2 by decide), h.st]; rfl
theorem tc_Rl.count3 (h : tc_Rl pa lv x y) : tc_rd (f_X2_count x 3) = some (nI (tc_cnt pa (tc_nb x) 16)) := by
  refine h.rN (w := 3) (by omega) ?_
  unfold f_X2_countAnswer
  rw [if_neg (show ¬ nI 3 = 0 by decide), if_neg (show ¬ nI 3 = 1 by decide), if_neg (show ¬ nI 3 = 2 by decide), if_pos (show nI 3 = 3 by decide), h.ha]; rfl
/-- each barrel stands, hangs or is broken -/
theorem tc_Rl.all (h : tc_Rl pa lv x y) : tc_s16 (tc_cnt pa (tc_nb x)) 16 + tc_cnt pa (tc_nb x) 16 + tc_cnt pa (tc_nb x) 17 = tc_nb x := by
  have key : ∀ n, n ≤ tc_nb x → tc_s16 (tc_cnt pa n) 16 + tc_cnt pa n 16 + tc_cnt pa n 17 = n := by
    intro n
    induction n with
    | zero => intro _; show tc_s16 (fun _ => 0) 16 + 0 + 0 = 0; rw [tc_s16_0]
    | succ n ih =>
      intro hn
      have e := ih (by omega)
      have k := (h.2.1 n (by omega)).2.2.1
      have e1 : tc_s16 (tc_cnt pa (n + 1)) 16 = tc_s16 (tc_cnt pa n) 16 + (if pa n < 16 then 1 else 0) := by
        rw [← tc_s16_one (pa n) 16, ← tc_s16_add]; rfl
      rw [e1]
      show _ + (tc_cnt pa n 16 + (if pa n = 16 then 1 else 0)) + (tc_cnt pa n 17 + (if pa n = 17 then 1 else 0)) = n + 1
      rcases (show pa n < 16 ∨ pa n = 16 ∨ pa n = 17 by omega) with e2 | e2 | e2
      · rw [if_pos e2, if_neg (by omega), if_neg (by omega)]; omega
      · rw [if_neg (by omega), if_pos e2, if_neg (by omega)]; omega
      · rw [if_neg (by omega), if_neg (by omega), if_pos e2]; omega
  exact key _ (Nat.le_refl _)
theorem tc_Rl.count4 (h : tc_Rl pa lv x y) : tc_rd (f_X2_count x 4) = some (nI (tc_cnt pa (tc_nb x) 17)) := by
  refine h.rN (w := 4) (by omega) ?_
  unfold f_X2_countAnswer
  have a := h.all
  rw [if_neg (show ¬ nI 4 = 0 by decide), if_neg (show ¬ nI 4 = 1 by decide), if_neg (show ¬ nI 4 = 2 by decide), if_neg (show ¬ nI 4 = 3 by decide), if_pos (show nI 4 = 4 by decide), h.st, h.ha]
  show some _ = some _
  congr 1
  rw [pk_sub (by omega), pk_sub (by omega)]
  congr 1
  omega
theorem tc_Rl.count5 (h : tc_Rl pa lv x y) : tc_rd (f_X2_count x 5) = some (nI (tc_nc x)) := by
  refine h.rN (w := 5) (by omega) ?_
  unfold f_X2_countAnswer
  rw [if_neg (show ¬ nI 5 = 0 by decide), if_neg (show ¬ nI 5 = 1 by decide), if_neg (show ¬ nI 5 = 2 by decide), if_neg (show ¬ nI 5 = 3 by decide), if_neg (show ¬ nI 5 = 4 by decide), if_pos (show nI 5 = 5 by decide)]
theorem tc_Rl.count6 (h : tc_Rl pa lv x y) : tc_rd (f_X2_count x 6) = some (nI (tc_fo (tc_cnt pa (tc_nb x)) 16 0 0)) := by
  refine h.rN (w := 6) (by omega) ?_
  unfold f_X2_countAnswer
  have e : f_X2_highestBetween x 0 15 = some (nI (tc_fo (tc_cnt pa (tc_nb x)) 16 0 0)) := h.hb (i := 0) (j := 15) (by decide) (by decide)
  rw [if_neg (show ¬ nI 6 = 0 by decide), if_neg (show ¬ nI 6 = 1 by decide), if_neg (show ¬ nI 6 = 2 by decide), if_neg (show ¬ nI 6 = 3 by decide), if_neg (show ¬ nI 6 = 4 by decide), if_neg (show ¬ nI 6 = 5 by decide), e]; rfl
theorem tc_Rl.lasts (h : tc_Rl pa lv x y) {c : Nat} (hc : c < tc_nc x) : tc_rd (f_X2_lasts x (nI c) 1) = some (99 - y 11 c) := by
  have h5 := h.n5
  have k := h.2.2.1 c hc
  have ew : f_X2_requireWeight x 1 = some 0 := by unfold f_X2_requireWeight; rfl
  have e7 : f_X2_wearInATick 1 = some 1 := by unfold f_X2_wearInATick; rfl
  simp only [f_X2_lasts, tc_rc0 hc (show tc_nc x ≤ 1000 by omega), Option.bind_some, if_pos, ew, e7, tc_cl (show c ≤ 1000 by omega), if_pos (tc_g2 hc (show c ≤ 1000 by omega)), tc_leteq, if_pos (show (1 : Int32) ≤ 1 by decide), if_neg tc_10, k.2.2.2.2.1]
  rw [if_pos (show ¬ (1 : Int32) = 0 by decide)]
  show some _ = some _
  rw [Int32.div_one]
end TRD
