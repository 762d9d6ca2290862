/-! What holds between the state of the wharf and that of the reference. pa: where a barrel is (0 to 15 a place, 16 a hook, 17 nowhere any more), lv: how many stand below it. -/
def tc_cnt (pa : Nat → Nat) : Nat → Nat → Nat
  | 0, _ => 0
  | n + 1, p => tc_cnt pa n p + (if pa n = p then 1 else 0)
def tc_ldc (ld : Nat → Option Nat) : Nat → Nat
  | 0 => 0
  | n + 1 => tc_ldc ld n + (if ld n = none then 0 else 1)
def tc_Rb (pa lv : Nat → Nat) (x : tc_X) (y : tc_Y) (b : Nat) : Prop := x.1 10 b = nI b ∧ x.1 11 b = y 3 b ∧ pa b ≤ 17 ∧
  (pa b < 16 → y 4 b = nI (pa b) ∧ x.1 12 b = nI (pa b) ∧ y 5 b = nI (lv b) ∧ x.1 13 b = nI (lv b) ∧ lv b < tc_cnt pa (tc_nb x) (pa b) ∧ x.1 14 b = -1 ∧ x.1 15 b = 0 ∧ (lv b = 0 → x.2.1 1 b = none) ∧ (∀ i, lv b = i + 1 → ∃ b', b' < tc_nb x ∧ x.2.1 1 b = some b' ∧ pa b' = pa b ∧ lv b' = i)) ∧
  (pa b = 16 → y 4 b = -1 ∧ x.1 12 b = -1 ∧ x.1 15 b = 0 ∧ ∃ c, c < tc_nc x ∧ x.1 14 b = nI c ∧ x.2.1 2 c = some b) ∧
  (pa b = 17 → y 4 b = -2 ∧ x.1 12 b = -1 ∧ x.1 15 b = 1 ∧ x.1 14 b = -1) ∧ (∀ j, x.2.1 1 b = some j → j < tc_nb x)
def tc_Rc (pa : Nat → Nat) (x : tc_X) (y : tc_Y) (c : Nat) : Prop := x.1 20 c = y 7 c ∧ x.1 21 c = y 8 c ∧ x.1 22 c = y 9 c ∧ x.1 23 c = y 10 c ∧ x.1 24 c = y 11 c ∧ x.1 25 c = y 12 c ∧ x.1 26 c = y 13 c ∧ (∃ p, p < 16 ∧ y 7 c = nI p) ∧ 1 ≤ y 9 c ∧ (∃ p, p < 16 ∧ y 12 c = nI p) ∧ (∃ h, h ≤ 20 ∧ y 13 c = nI h) ∧ (x.2.1 2 c = none → y 14 c = -1) ∧ (∀ b, x.2.1 2 c = some b → b < tc_nb x ∧ y 14 c = nI b ∧ pa b = 16 ∧ x.1 14 b = nI c)
def tc_Rp (pa lv : Nat → Nat) (x : tc_X) (p : Nat) : Prop := (tc_cnt pa (tc_nb x) p = 0 → x.2.1 0 p = none) ∧ (∀ i, tc_cnt pa (tc_nb x) p = i + 1 → ∃ b, b < tc_nb x ∧ x.2.1 0 p = some b ∧ pa b = p ∧ lv b = i) ∧ tc_cnt pa (tc_nb x) p ≤ 8
def tc_Rg (x : tc_X) (y : tc_Y) : Prop := x.1 0 0 = y 1 0 ∧ y 2 0 = nI (tc_nb x) ∧ y 6 0 = nI (tc_nc x) ∧ tc_nb x ≤ 40 ∧ tc_nc x ≤ 5
def tc_Ri (pa lv : Nat → Nat) (x : tc_X) (y : tc_Y) : Prop := (∀ p, 16 ≤ p → x.2.1 0 p = none) ∧ (∀ b b', b < tc_nb x → b' < tc_nb x → pa b = pa b' → pa b < 16 → lv b = lv b' → b = b') ∧ (∀ p i, p < 16 → i < tc_cnt pa (tc_nb x) p → ∃ b, b < tc_nb x ∧ pa b = p ∧ lv b = i) ∧ tc_cnt pa (tc_nb x) 16 = tc_ldc (x.2.1 2) (tc_nc x) ∧ (∀ c, tc_nc x ≤ c → y 11 c = 0)
def tc_Rl (pa lv : Nat → Nat) (x : tc_X) (y : tc_Y) : Prop := tc_Rg x y ∧ (∀ b, b < tc_nb x → tc_Rb pa lv x y b) ∧ (∀ c, c < tc_nc x → tc_Rc pa x y c) ∧ (∀ p, p < 16 → tc_Rp pa lv x p) ∧ tc_Ri pa lv x y
def tc_R (x : tc_X) (y : tc_Y) : Prop := ∃ pa lv : Nat → Nat, tc_Rl pa lv x y
section TCRL
variable {pa lv : Nat → Nat} {x : tc_X} {y : tc_Y}
theorem tc_Rl.wf (h : tc_Rl pa lv x y) : tc_wf x := by
  obtain ⟨hg, hb, hc, hp, h1, -⟩ := h
  refine ⟨fun p j hj => ?_, fun b j hb' hj => (hb b hb').2.2.2.2.2.2 j hj, fun k j hk hj => ((hc k hk).2.2.2.2.2.2.2.2.2.2.2.2 j hj).1⟩
  by_cases hp16 : p < 16
  · obtain ⟨a1, a2, -⟩ := hp p hp16
    cases hcn : tc_cnt pa (tc_nb x) p with
    | zero => rw [a1 hcn] at hj; cases hj
    | succ i =>
      obtain ⟨b, b1, b2, -⟩ := a2 i hcn
      rw [b2] at hj; cases hj; exact b1
  · rw [h1 p (by omega)] at hj; cases hj
theorem tc_R.wf (x : tc_X) (y : tc_Y) (h : tc_R x y) : tc_wf x := by
  obtain ⟨pa, lv, h⟩ := h
  exact h.wf
/-- the thrown number may be any -/
theorem tc_Rl.th (h : tc_Rl pa lv x y) (v : Int32) : tc_Rl pa lv x (tc_ym y 0 0 v) := by
  have e : ∀ a, a ≠ 0 → tc_ym y 0 0 v a = y a := fun a ha => tc_ym_ne ha
  obtain ⟨hg, hb, hc, hp, hi⟩ := h
  refine ⟨?_, fun b hb' => ?_, fun c hc' => ?_, hp, ?_⟩
  · unfold tc_Rg at hg ⊢; rw [e 1 (by decide), e 2 (by decide), e 6 (by decide)]; exact hg
  · have k := hb b hb'
    unfold tc_Rb at k ⊢; rw [e 3 (by decide), e 4 (by decide), e 5 (by decide)]; exact k
  · have k := hc c hc'
    unfold tc_Rc at k ⊢; rw [e 7 (by decide), e 8 (by decide), e 9 (by decide), e 10 (by decide), e 11 (by decide), e 12 (by decide), e 13 (by decide), e 14 (by decide)]; exact k
  · unfold tc_Ri at hi ⊢; rw [e 11 (by decide)]; exact hi
theorem tc_th0 {v : Int32} : tc_ym y 0 0 v 0 0 = v := by rw [tc_ym_eq]; exact tc_upd_0
theorem tc_th2 {v w : Int32} : tc_ym (tc_ym y 0 0 v) 0 0 w = tc_ym y 0 0 w := by
  funext a
  by_cases h : a = 0
  · subst h; rw [tc_ym_eq, tc_ym_eq]; funext i
    rw [tc_ym_eq]
    unfold upd; split <;> rfl
  · rw [tc_ym_ne h, tc_ym_ne h, tc_ym_ne h]
theorem tc_R0 : tc_R tc_x0 (fun _ _ => 0) := by
  refine ⟨fun _ => 0, fun _ => 0, ⟨rfl, rfl, rfl, by decide, by decide⟩, fun b hb => absurd hb (Nat.not_lt_zero _), fun b hb => absurd hb (Nat.not_lt_zero _), fun p hp => ⟨fun _ => rfl, fun i hi => absurd hi (Nat.succ_ne_zero _).symm, Nat.zero_le _⟩, fun _ _ => rfl, fun b b' hb => absurd hb (Nat.not_lt_zero _), fun p i _ hi => absurd hi (Nat.not_lt_zero _), rfl, fun _ _ => rfl⟩
end TCRL
/-! which argument is a place, a crane, in a range -/
theorem tc_inR (a lo hi : Int32) : f_X2_isBetween a lo hi = f_X3_isIn a lo hi := rfl
theorem tc_in01 (a lo hi : Int32) : (f_X3_isIn a lo hi = some 0 ∧ ¬ (lo ≤ a ∧ a ≤ hi)) ∨ (f_X3_isIn a lo hi = some 1 ∧ lo ≤ a ∧ a ≤ hi) := by
  unfold f_X3_isIn
  by_cases h1 : a < lo
  · exact Or.inl ⟨if_pos h1, fun z => absurd h1 (Int32.not_lt.mpr z.1)⟩
  · rw [if_neg h1]
    by_cases h2 : hi < a
    · exact Or.inl ⟨if_pos h2, fun z => absurd h2 (Int32.not_lt.mpr z.2)⟩
    · exact Or.inr ⟨if_neg h2, Int32.not_lt.mp h1, Int32.not_lt.mp h2⟩
theorem tc_nat {a M : Int32} {n : Nat} (hM : M.toInt = n) (h0 : 0 ≤ a) (h1 : a ≤ M) : ∃ j : Nat, j ≤ n ∧ a = nI j := nI_of2 hM (Int32.not_lt.mpr h0) h1
theorem tc_plc (a : Int32) : (f_X3_isPlace a = some 0 ∧ (∀ x, f_X2_requirePlace x a = some 1)) ∨ (∃ p, p < 16 ∧ a = nI p ∧ f_X3_isPlace a = some 1 ∧ f_X2_isPlace a = some 1 ∧ ∀ x, f_X2_requirePlace x a = some 0) := by
  rcases tc_in01 a 0 15 with ⟨h, -⟩ | ⟨h, h0, h1⟩
  · refine Or.inl ⟨?_, fun x => ?_⟩
    · unfold f_X3_isPlace; rw [h]; rfl
    · unfold f_X2_requirePlace f_X2_isPlace; rw [tc_inR, h]; rfl
  · obtain ⟨j, hj, e⟩ := tc_nat (n := 15) (by decide) h0 h1
    refine Or.inr ⟨j, by omega, e, ?_, ?_, fun x => ?_⟩
    · unfold f_X3_isPlace; rw [h]; rfl
    · unfold f_X2_isPlace; rw [tc_inR, h]; rfl
    · unfold f_X2_requirePlace f_X2_isPlace; rw [tc_inR, h]; rfl
theorem tc_crn {pa lv : Nat → Nat} {x : tc_X} {y : tc_Y} (h : tc_Rl pa lv x y) (a : Int32) : (f_X3_isCrane y a = some 0 ∧ f_X2_requireCrane x a = some 1) ∨ (∃ c, c < tc_nc x ∧ a = nI c ∧ f_X3_isCrane y a = some 1 ∧ f_X2_requireCrane x a = some 0) := by
  obtain ⟨⟨-, -, g6, -, g8⟩, -⟩ := h
  rcases tc_in01 a 0 (nI (tc_nc x) - 1) with ⟨h, -⟩ | ⟨h, h0, h1⟩
  · refine Or.inl ⟨?_, ?_⟩
    · unfold f_X3_isCrane; rw [g6, h]; rfl
    · unfold f_X2_requireCrane; rw [tc_inR, h]; rfl
  · have hn : 0 < tc_nc x := by
      rcases Nat.eq_zero_or_pos (tc_nc x) with z | z
      · rw [z] at h1
        exact absurd (Int32.le_trans h0 h1) (by decide)
      · exact z
    have e1 : nI (tc_nc x) - 1 = nI (tc_nc x - 1) := pk_sub hn
    rw [e1] at h1
    obtain ⟨j, hj, e⟩ := tc_nat (n := tc_nc x - 1) (nI_toInt (by omega)) h0 h1
    refine Or.inr ⟨j, by omega, e, ?_, ?_⟩
    · unfold f_X3_isCrane; rw [g6, h]; rfl
    · unfold f_X2_requireCrane; rw [tc_inR, h]; rfl
theorem tc_gd {c n : Nat} (h : c < n) (hn : n ≤ 1000) : ¬ nI c < 0 ∧ (nI c).toNatClampNeg < n := ⟨nI_pos (by omega), by rw [nI_clamp (by omega)]; exact h⟩
theorem tc_cl {c : Nat} (h : c ≤ 1000) : (nI c).toNatClampNeg = c := nI_clamp (by omega)
