/-! The class's state and cells; the reference's. -/
/-- int registers (code, index), reference registers, how many barrels, how many cranes -/
abbrev tc_X : Type := (Nat → Nat → Int32) × (Nat → Nat → Option Nat) × Nat × Nat
abbrev tc_Y : Type := Nat → Nat → Int32
abbrev tc_nb (x : tc_X) : Nat := x.2.2.1
abbrev tc_nc (x : tc_X) : Nat := x.2.2.2
def tc_si (x : tc_X) (c i : Nat) (v : Int32) : tc_X := (fun c' i' => if c' = c ∧ i' = i then v else x.1 c' i', x.2)
def tc_sr (x : tc_X) (c i : Nat) (v : Option Nat) : tc_X := (x.1, fun c' i' => if c' = c ∧ i' = i then v else x.2.1 c' i', x.2.2)
def tc_ym (y : tc_Y) (a i : Nat) (v : Int32) : tc_Y := va_up y a (upd (y a) i v)
theorem tc_si_eq {x : tc_X} {c i : Nat} {v : Int32} : (tc_si x c i v).1 c i = v := if_pos ⟨rfl, rfl⟩
theorem tc_si_ne {x : tc_X} {c i : Nat} {v : Int32} {c' i' : Nat} (h : ¬ (c' = c ∧ i' = i)) : (tc_si x c i v).1 c' i' = x.1 c' i' := if_neg h
theorem tc_si_2 {x : tc_X} {c i : Nat} {v : Int32} : (tc_si x c i v).2 = x.2 := rfl
theorem tc_sr_eq {x : tc_X} {c i : Nat} {v : Option Nat} : (tc_sr x c i v).2.1 c i = v := if_pos ⟨rfl, rfl⟩
theorem tc_sr_ne {x : tc_X} {c i : Nat} {v : Option Nat} {c' i' : Nat} (h : ¬ (c' = c ∧ i' = i)) : (tc_sr x c i v).2.1 c' i' = x.2.1 c' i' := if_neg h
theorem tc_sr_1 {x : tc_X} {c i : Nat} {v : Option Nat} : (tc_sr x c i v).1 = x.1 := rfl
theorem tc_sr_2 {x : tc_X} {c i : Nat} {v : Option Nat} : (tc_sr x c i v).2.2 = x.2.2 := rfl
theorem tc_ym_eq {y : tc_Y} {a i : Nat} {v : Int32} : tc_ym y a i v a = upd (y a) i v := va_up_self _ _ _
theorem tc_ym_ne {y : tc_Y} {a i : Nat} {v : Int32} {b : Nat} (h : b ≠ a) : tc_ym y a i v b = y b := va_up_ne _ _ h
/-- a value that gets a name -/
def tc_let {α β : Type} (v : α) (f : α → β) : β := f v
theorem tc_lt {α β : Type} {v z : α} {f : α → β} {r : β} (h : tc_let v f = r) (e : z = v) : f z = r := by subst e; exact h
def tc_ad (E : Nat → Nat) (k : Nat) (o : Option Nat) : Option Nat := o.map (fun j => E (k + j))
abbrev tc_cO (E : Nat → Nat) (x : tc_X) : va_E := .inr (3, [.ref (E 1), .ref (E 2), .ref (E 3), .int (x.1 0 0)])
abbrev tc_cU (cU : ClassId) (E : Nat → Nat) (x : tc_X) : va_E := .inl (cU, 16, .inr (.inr (.inr (.inr (fun p => tc_ad E 6 (x.2.1 0 p))))))
abbrev tc_cB (E : Nat → Nat) (x : tc_X) (b : Nat) : va_E := .inr (1, [.int (x.1 10 b), .int (x.1 11 b), .int (x.1 12 b), .int (x.1 13 b), va_rf (tc_ad E 6 (x.2.1 1 b)), .int (x.1 14 b), .int (x.1 15 b)])
abbrev tc_cC (E : Nat → Nat) (x : tc_X) (k : Nat) : va_E := .inr (2, [.int (x.1 20 k), .int (x.1 21 k), .int (x.1 22 k), .int (x.1 23 k), .int (x.1 24 k), .int (x.1 25 k), .int (x.1 26 k), va_rf (tc_ad E 6 (x.2.1 2 k))])
theorem tc_cO_x {E : Nat → Nat} {x x' : tc_X} (h : x'.1 0 0 = x.1 0 0) : tc_cO E x' = tc_cO E x := by simp only [tc_cO, h]
theorem tc_cU_x {cU : ClassId} {E : Nat → Nat} {x x' : tc_X} (h : ∀ p, x'.2.1 0 p = x.2.1 0 p) : tc_cU cU E x' = tc_cU cU E x := by simp only [tc_cU, h]
theorem tc_cB_x {E : Nat → Nat} {x x' : tc_X} {b : Nat} (h : ∀ c, 10 ≤ c → c ≤ 15 → x'.1 c b = x.1 c b) (h2 : x'.2.1 1 b = x.2.1 1 b) : tc_cB E x' b = tc_cB E x b := by simp only [tc_cB, h 10 (by decide) (by decide), h 11 (by decide) (by decide), h 12 (by decide) (by decide), h 13 (by decide) (by decide), h 14 (by decide) (by decide), h 15 (by decide) (by decide), h2]
theorem tc_cC_x {E : Nat → Nat} {x x' : tc_X} {k : Nat} (h : ∀ c, 20 ≤ c → c ≤ 26 → x'.1 c k = x.1 c k) (h2 : x'.2.1 2 k = x.2.1 2 k) : tc_cC E x' k = tc_cC E x k := by simp only [tc_cC, h 20 (by decide) (by decide), h 21 (by decide) (by decide), h 22 (by decide) (by decide), h 23 (by decide) (by decide), h 24 (by decide) (by decide), h 25 (by decide) (by decide), h 26 (by decide) (by decide), h2]
def tc_lv (x : tc_X) (k : Nat) : Prop := k < 4 ∨ (k = 4 ∧ 0 < tc_nb x) ∨ (k = 5 ∧ 0 < tc_nc x) ∨ (6 ≤ k ∧ k < 6 + tc_nb x) ∨ (46 ≤ k ∧ k < 46 + tc_nc x)
/-- a list of n elements, the objects E kb, E (kb + 1) ..; the empty one has the shared row e0 -/
def tc_Li (D : va_G) (cO : ClassId) (e0 : Nat) (E : Nat → Nat) (ko kd kb n : Nat) (H : Heap) : Prop := ∃ mo : Int32, va_at D vwCl (E ko, .inr (0, [.int mo, .ref (E kd), .int (nI n)])) H ∧ ((n = 0 ∧ E kd = e0) ∨ (0 < n ∧ ∃ (cap : Nat) (f : Nat → Option Nat), va_at D vwCl (E kd, .inl (cO, cap, .inr (.inr (.inr (.inr f))))) H ∧ n ≤ cap ∧ cap ≤ 1000 ∧ (∀ i, i < n → f i = some (E (kb + i))) ∧ 10 ≤ cap))
theorem tc_Li.full {D : va_G} {cO : ClassId} {e0 : Nat} {E : Nat → Nat} {ko kd kb n : Nat} {H : Heap} (h : tc_Li D cO e0 E ko kd kb n H) (hn : 0 < n) : ∃ (mo : Int32) (cap : Nat) (f : Nat → Option Nat), va_at D vwCl (E ko, .inr (0, [.int mo, .ref (E kd), .int (nI n)])) H ∧ va_at D vwCl (E kd, .inl (cO, cap, .inr (.inr (.inr (.inr f))))) H ∧ n ≤ cap ∧ cap ≤ 1000 ∧ (∀ i, i < n → f i = some (E (kb + i))) := by
  obtain ⟨mo, h1, ⟨z, _⟩ | ⟨_, cap, f, h2, h3, h4, h5, _⟩⟩ := h
  · omega
  · exact ⟨mo, cap, f, h1, h2, h3, h4, h5⟩
theorem tc_Li.kp {D : va_G} {cO : ClassId} {e0 : Nat} {E : Nat → Nat} {ko kd kb n : Nat} {H H1 : Heap} (h : tc_Li D cO e0 E ko kd kb n H) (h1 : H1[E ko]? = H[E ko]?) (h2 : 0 < n → H1[E kd]? = H[E kd]?) : tc_Li D cO e0 E ko kd kb n H1 := by
  obtain ⟨mo, a1, z | ⟨z, cap, f, a2, a3⟩⟩ := h
  · exact ⟨mo, a1.kept h1, Or.inl z⟩
  · exact ⟨mo, a1.kept h1, Or.inr ⟨z, cap, f, a2.kept (h2 z), a3⟩⟩
def tc_WC (D : va_G) (cU cO : ClassId) (e0 : Nat) (A : Nat → Prop) (E : Nat → Nat) (x : tc_X) (H : Heap) : Prop := va_at D vwCl (E 0, tc_cO E x) H ∧ va_at D vwCl (E 1, tc_cU cU E x) H ∧ tc_Li D cO e0 E 2 4 6 (tc_nb x) H ∧ tc_Li D cO e0 E 3 5 46 (tc_nc x) H ∧ (∀ b, b < tc_nb x → va_at D vwCl (E (6 + b), tc_cB E x b) H) ∧ (∀ k, k < tc_nc x → va_at D vwCl (E (46 + k), tc_cC E x k) H) ∧ (∀ i j, tc_lv x i → tc_lv x j → E i = E j → i = j) ∧ (∀ i, tc_lv x i → A (E i)) ∧ ¬ A e0 ∧ tc_nb x ≤ 40 ∧ tc_nc x ≤ 5
section TCW
variable {D : va_G} {cU cO : ClassId} {e0 : Nat} {A : Nat → Prop} {E : Nat → Nat} {x x' : tc_X} {H H1 : Heap}
theorem tc_WC.o (h : tc_WC D cU cO e0 A E x H) : va_at D vwCl (E 0, tc_cO E x) H := h.1
theorem tc_WC.u (h : tc_WC D cU cO e0 A E x H) : va_at D vwCl (E 1, tc_cU cU E x) H := h.2.1
theorem tc_WC.b (h : tc_WC D cU cO e0 A E x H) {b : Nat} (hb : b < tc_nb x) : va_at D vwCl (E (6 + b), tc_cB E x b) H := h.2.2.2.2.1 b hb
theorem tc_WC.c (h : tc_WC D cU cO e0 A E x H) {k : Nat} (hk : k < tc_nc x) : va_at D vwCl (E (46 + k), tc_cC E x k) H := h.2.2.2.2.2.1 k hk
theorem tc_WC.inj (h : tc_WC D cU cO e0 A E x H) {i j : Nat} (hi : tc_lv x i) (hj : tc_lv x j) (e : E i = E j) : i = j := h.2.2.2.2.2.2.1 i j hi hj e
theorem tc_WC.own (h : tc_WC D cU cO e0 A E x H) {i : Nat} (hi : tc_lv x i) : A (E i) := h.2.2.2.2.2.2.2.1 i hi
theorem tc_lv.b {b : Nat} (hb : b < tc_nb x) : tc_lv x (6 + b) := Or.inr (Or.inr (Or.inr (Or.inl ⟨Nat.le_add_right _ _, Nat.add_lt_add_left hb _⟩)))
theorem tc_lv.c {k : Nat} (hk : k < tc_nc x) : tc_lv x (46 + k) := Or.inr (Or.inr (Or.inr (Or.inr ⟨Nat.le_add_right _ _, Nat.add_lt_add_left hk _⟩)))
theorem tc_lv.f {k : Nat} (hk : k < 4) : tc_lv x k := Or.inl hk
theorem tc_lv.eqn (h : x'.2.2 = x.2.2) {k : Nat} : tc_lv x' k ↔ tc_lv x k := by unfold tc_lv tc_nb tc_nc; rw [h]
/-- every cell of the class's stays, where the heap stays below its size, in A -/
theorem tc_WC.kept (h : tc_WC D cU cO e0 A E x H) (o : ∀ q, q < H.size → A q → H1[q]? = H[q]?) : tc_WC D cU cO e0 A E x H1 := by
  obtain ⟨h0, h1, h2, h3, h4, h5, h6, h7, h8, h9, h10⟩ := h
  have kp : ∀ (j : Nat) (w : va_E), tc_lv x j → va_at D vwCl (E j, w) H → H1[E j]? = H[E j]? := fun j w hj hv => o _ hv.lt (h7 j hj)
  have lk : ∀ (ko kd kb n : Nat), tc_lv x ko → (0 < n → tc_lv x kd) → tc_Li D cO e0 E ko kd kb n H → tc_Li D cO e0 E ko kd kb n H1 := fun ko kd kb n q1 q2 hL => by
    obtain ⟨mo, a1, a2⟩ := id hL
    refine hL.kp (kp _ _ q1 a1) (fun z => ?_)
    rcases a2 with ⟨z0, _⟩ | ⟨_, cap, f, a3, _⟩
    · omega
    · exact kp _ _ (q2 z) a3
  exact ⟨h0.kept (kp _ _ (tc_lv.f (by decide)) h0), h1.kept (kp _ _ (tc_lv.f (by decide)) h1), lk _ _ _ _ (tc_lv.f (by decide)) (fun z => Or.inr (Or.inl ⟨rfl, z⟩)) h2, lk _ _ _ _ (tc_lv.f (by decide)) (fun z => Or.inr (Or.inr (Or.inl ⟨rfl, z⟩))) h3, fun b hb => (h4 b hb).kept (kp _ _ (tc_lv.b hb) (h4 b hb)), fun k hk => (h5 k hk).kept (kp _ _ (tc_lv.c hk) (h5 k hk)), h6, h7, h8, h9, h10⟩
theorem tc_WC.grown (h : tc_WC D cU cO e0 A E x H) (o : ∀ q, q < H.size → H1[q]? = H[q]?) : tc_WC D cU cO e0 A E x H1 := h.kept (fun q hq _ => o q hq)
/-- one cell E k0 changes -/
theorem tc_WC.chg (h : tc_WC D cU cO e0 A E x H) {k0 : Nat} (hk : tc_lv x k0) (hk2 : k0 < 2 ∨ 6 ≤ k0) (hn : x'.2.2 = x.2.2) (o : ∀ q, q ≠ E k0 → H1[q]? = H[q]?)
    (g0 : (0 ≠ k0 ∧ tc_cO E x' = tc_cO E x) ∨ va_at D vwCl (E 0, tc_cO E x') H1) (g1 : (1 ≠ k0 ∧ tc_cU cU E x' = tc_cU cU E x) ∨ va_at D vwCl (E 1, tc_cU cU E x') H1)
    (gB : ∀ b, b < tc_nb x → (6 + b ≠ k0 ∧ tc_cB E x' b = tc_cB E x b) ∨ va_at D vwCl (E (6 + b), tc_cB E x' b) H1) (gC : ∀ k, k < tc_nc x → (46 + k ≠ k0 ∧ tc_cC E x' k = tc_cC E x k) ∨ va_at D vwCl (E (46 + k), tc_cC E x' k) H1) : tc_WC D cU cO e0 A E x' H1 := by
  obtain ⟨h0, h1, h2, h3, h4, h5, h6, h7, h8, h9, h10⟩ := h
  have ek : ∀ j : Nat, tc_lv x j → j ≠ k0 → H1[E j]? = H[E j]? := fun j hj hne => o _ (fun q => hne (h6 _ _ hj hk q))
  have lk : ∀ (ko kd kb n : Nat), tc_lv x ko → ko ≠ k0 → (0 < n → tc_lv x kd) → kd ≠ k0 → tc_Li D cO e0 E ko kd kb n H → tc_Li D cO e0 E ko kd kb n H1 := fun ko kd kb n q1 q2 q3 q4 hL => hL.kp (ek _ q1 q2) (fun z => ek _ (q3 z) q4)
  have e1 : tc_nb x' = tc_nb x := by unfold tc_nb; rw [hn]
  have e2 : tc_nc x' = tc_nc x := by unfold tc_nc; rw [hn]
  refine ⟨?_, ?_, ?_, ?_, ?_, ?_, ?_, ?_, h8, ?_, ?_⟩
  · rcases g0 with ⟨a, b⟩ | g
    · rw [b]; exact h0.kept (ek _ (tc_lv.f (by decide)) a)
    · exact g
  · rcases g1 with ⟨a, b⟩ | g
    · rw [b]; exact h1.kept (ek _ (tc_lv.f (by decide)) a)
    · exact g
  · rw [e1]; exact lk _ _ _ _ (tc_lv.f (by decide)) (by omega) (fun z => Or.inr (Or.inl ⟨rfl, z⟩)) (by omega) h2
  · rw [e2]; exact lk _ _ _ _ (tc_lv.f (by decide)) (by omega) (fun z => Or.inr (Or.inr (Or.inl ⟨rfl, z⟩))) (by omega) h3
  · intro b hb
    rw [e1] at hb
    rcases gB b hb with ⟨a, z⟩ | g
    · rw [z]; exact (h4 b hb).kept (ek _ (tc_lv.b hb) a)
    · exact g
  · intro k hk9
    rw [e2] at hk9
    rcases gC k hk9 with ⟨a, z⟩ | g
    · rw [z]; exact (h5 k hk9).kept (ek _ (tc_lv.c hk9) a)
    · exact g
  · intro i j hi hj; exact h6 i j ((tc_lv.eqn hn).mp hi) ((tc_lv.eqn hn).mp hj)
  · intro i hi; exact h7 i ((tc_lv.eqn hn).mp hi)
  · rw [e1]; exact h9
  · rw [e2]; exact h10
theorem tc_WC.sO (h : tc_WC D cU cO e0 A E x H) {v : Int32} (e1 : va_at D vwCl (E 0, .inr (3, [.ref (E 1), .ref (E 2), .ref (E 3), .int v])) H1) (o : ∀ q, q ≠ E 0 → H1[q]? = H[q]?) : tc_WC D cU cO e0 A E (tc_si x 0 0 v) H1 := by
  refine h.chg (tc_lv.f (by decide)) (Or.inl (by decide)) rfl o (Or.inr ?_) (Or.inl ⟨by decide, rfl⟩) (fun b hb => Or.inl ⟨by omega, tc_cB_x (fun c h1 h2 => tc_si_ne (by omega)) rfl⟩) (fun k hk => Or.inl ⟨by omega, tc_cC_x (fun c h1 h2 => tc_si_ne (by omega)) rfl⟩)
  have z : tc_cO E (tc_si x 0 0 v) = .inr (3, [.ref (E 1), .ref (E 2), .ref (E 3), .int v]) := by simp only [tc_cO, tc_si_eq]
  rw [z]; exact e1
theorem tc_WC.sB (h : tc_WC D cU cO e0 A E x H) {b c : Nat} (hb : b < tc_nb x) (h1 : 10 ≤ c) (h2 : c ≤ 15) {v : Int32} (e1 : va_at D vwCl (E (6 + b), tc_cB E (tc_si x c b v) b) H1) (o : ∀ q, q ≠ E (6 + b) → H1[q]? = H[q]?) : tc_WC D cU cO e0 A E (tc_si x c b v) H1 := by
  have h9 := h.2.2.2.2.2.2.2.2.2.1
  refine h.chg (tc_lv.b hb) (Or.inr (by omega)) rfl o (Or.inl ⟨by omega, tc_cO_x (tc_si_ne (by omega))⟩) (Or.inl ⟨by omega, rfl⟩) (fun b' hb' => ?_) (fun k hk => Or.inl ⟨by omega, tc_cC_x (fun c h1 h2 => tc_si_ne (by omega)) rfl⟩)
  by_cases q : b' = b
  · subst q; exact Or.inr e1
  · exact Or.inl ⟨by omega, tc_cB_x (fun c h1 h2 => tc_si_ne (fun z => q z.2)) rfl⟩
theorem tc_WC.sBr (h : tc_WC D cU cO e0 A E x H) {b : Nat} (hb : b < tc_nb x) {v : Option Nat} (e1 : va_at D vwCl (E (6 + b), tc_cB E (tc_sr x 1 b v) b) H1) (o : ∀ q, q ≠ E (6 + b) → H1[q]? = H[q]?) : tc_WC D cU cO e0 A E (tc_sr x 1 b v) H1 := by
  have h9 := h.2.2.2.2.2.2.2.2.2.1
  refine h.chg (tc_lv.b hb) (Or.inr (by omega)) rfl o (Or.inl ⟨by omega, rfl⟩) (Or.inl ⟨by omega, tc_cU_x (fun p => tc_sr_ne (by omega))⟩) (fun b' hb' => ?_) (fun k hk => Or.inl ⟨by omega, tc_cC_x (fun c h1 h2 => rfl) (tc_sr_ne (by omega))⟩)
  by_cases q : b' = b
  · subst q; exact Or.inr e1
  · exact Or.inl ⟨by omega, tc_cB_x (fun c h1 h2 => rfl) (tc_sr_ne (fun z => q z.2))⟩
theorem tc_WC.sC (h : tc_WC D cU cO e0 A E x H) {b c : Nat} (hb : b < tc_nc x) (h1 : 20 ≤ c) (h2 : c ≤ 26) {v : Int32} (e1 : va_at D vwCl (E (46 + b), tc_cC E (tc_si x c b v) b) H1) (o : ∀ q, q ≠ E (46 + b) → H1[q]? = H[q]?) : tc_WC D cU cO e0 A E (tc_si x c b v) H1 := by
  have h9 := h.2.2.2.2.2.2.2.2.2.1
  refine h.chg (tc_lv.c hb) (Or.inr (by omega)) rfl o (Or.inl ⟨by omega, tc_cO_x (tc_si_ne (by omega))⟩) (Or.inl ⟨by omega, rfl⟩) (fun k hk => Or.inl ⟨by omega, tc_cB_x (fun c h1 h2 => tc_si_ne (by omega)) rfl⟩) (fun b' hb' => ?_)
  by_cases q : b' = b
  · subst q; exact Or.inr e1
  · exact Or.inl ⟨by omega, tc_cC_x (fun c h1 h2 => tc_si_ne (fun z => q z.2)) rfl⟩
theorem tc_WC.sCr (h : tc_WC D cU cO e0 A E x H) {b : Nat} (hb : b < tc_nc x) {v : Option Nat} (e1 : va_at D vwCl (E (46 + b), tc_cC E (tc_sr x 2 b v) b) H1) (o : ∀ q, q ≠ E (46 + b) → H1[q]? = H[q]?) : tc_WC D cU cO e0 A E (tc_sr x 2 b v) H1 := by
  have h9 := h.2.2.2.2.2.2.2.2.2.1
  refine h.chg (tc_lv.c hb) (Or.inr (by omega)) rfl o (Or.inl ⟨by omega, rfl⟩) (Or.inl ⟨by omega, tc_cU_x (fun p => tc_sr_ne (by omega))⟩) (fun k hk => Or.inl ⟨by omega, tc_cB_x (fun c h1 h2 => rfl) (tc_sr_ne (by omega))⟩) (fun b' hb' => ?_)
  by_cases q : b' = b
  · subst q; exact Or.inr e1
  · exact Or.inl ⟨by omega, tc_cC_x (fun c h1 h2 => rfl) (tc_sr_ne (fun z => q z.2))⟩
theorem tc_WC.sU (h : tc_WC D cU cO e0 A E x H) {i : Nat} {v : Option Nat} (e1 : va_at D vwCl (E 1, .inl (cU, 16, .inr (.inr (.inr (.inr (va_up (fun p => tc_ad E 6 (x.2.1 0 p)) i (tc_ad E 6 v))))))) H1) (o : ∀ q, q ≠ E 1 → H1[q]? = H[q]?) : tc_WC D cU cO e0 A E (tc_sr x 0 i v) H1 := by
  refine h.chg (tc_lv.f (by decide)) (Or.inl (by decide)) rfl o (Or.inl ⟨by decide, rfl⟩) (Or.inr ?_) (fun b hb => Or.inl ⟨by omega, tc_cB_x (fun c h1 h2 => rfl) (tc_sr_ne (by omega))⟩) (fun k hk => Or.inl ⟨by omega, tc_cC_x (fun c h1 h2 => rfl) (tc_sr_ne (by omega))⟩)
  have z : (fun p => tc_ad E 6 ((tc_sr x 0 i v).2.1 0 p)) = va_up (fun p => tc_ad E 6 (x.2.1 0 p)) i (tc_ad E 6 v) := by
    funext p
    by_cases q : p = i
    · subst q; rw [va_up_self, tc_sr_eq]
    · rw [va_up_ne _ _ q, tc_sr_ne (fun z => q z.2)]
  unfold tc_cU
  rw [z]; exact e1
end TCW
/-! ===== the reference ===== -/
abbrev tc_cM (E : Nat → Nat) (y : tc_Y) : va_E := .inr (4, [.int (y 0 0), .int (y 1 0), .int (y 2 0), .ref (E 3), .ref (E 4), .ref (E 5), .int (y 6 0), .ref (E 7), .ref (E 8), .ref (E 9), .ref (E 10), .ref (E 11), .ref (E 12), .ref (E 13), .ref (E 14)])
def tc_lm (k : Nat) : Prop := k = 0 ∨ (3 ≤ k ∧ k ≤ 5) ∨ (7 ≤ k ∧ k ≤ 14)
def tc_WM (D : va_G) (cI : ClassId) (A : Nat → Prop) (E : Nat → Nat) (y : tc_Y) (H : Heap) : Prop := va_at D vwCl (E 0, tc_cM E y) H ∧ (∀ a, 3 ≤ a ∧ a ≤ 5 → va_at D vwCl (E a, .inl (cI, 40, .inl (y a))) H) ∧ (∀ a, 7 ≤ a ∧ a ≤ 14 → va_at D vwCl (E a, .inl (cI, 5, .inl (y a))) H) ∧ (∀ i j, tc_lm i → tc_lm j → E i = E j → i = j) ∧ (∀ i, tc_lm i → A (E i))
section TCM
variable {D : va_G} {cI : ClassId} {A : Nat → Prop} {E : Nat → Nat} {y : tc_Y} {H H1 : Heap}
theorem tc_WM.kept (h : tc_WM D cI A E y H) (o : ∀ q, q < H.size → A q → H1[q]? = H[q]?) : tc_WM D cI A E y H1 := by
  obtain ⟨h0, h1, h2, h3, h4⟩ := h
  exact ⟨h0.kept (o _ h0.lt (h4 _ (Or.inl rfl))), fun a ha => (h1 a ha).kept (o _ (h1 a ha).lt (h4 _ (Or.inr (Or.inl ha)))), fun a ha => (h2 a ha).kept (o _ (h2 a ha).lt (h4 _ (Or.inr (Or.inr ha)))), h3, h4⟩
theorem tc_WM.grown (h : tc_WM D cI A E y H) (o : ∀ q, q < H.size → H1[q]? = H[q]?) : tc_WM D cI A E y H1 := h.kept (fun q hq _ => o q hq)
theorem tc_WM.ne (h : tc_WM D cI A E y H) {q : Nat} (hq : H.size ≤ q) : ∀ i, tc_lm i → E i ≠ q := fun i hi e => by
  have k : E i < H.size := by
    rcases hi with rfl | z | z
    · exact h.1.lt
    · exact (h.2.1 i z).lt
    · exact (h.2.2.1 i z).lt
  omega
theorem tc_WM.kept2 (h : tc_WM D cI A E y H) (o : ∀ i, tc_lm i → H1[E i]? = H[E i]?) : tc_WM D cI A E y H1 := by
  obtain ⟨h0, h1, h2, h3, h4⟩ := h
  exact ⟨h0.kept (o _ (Or.inl rfl)), fun a ha => (h1 a ha).kept (o _ (Or.inr (Or.inl ha))), fun a ha => (h2 a ha).kept (o _ (Or.inr (Or.inr ha))), h3, h4⟩
theorem tc_WM.lo (h : tc_WM D cI A E y H) {a : Nat} (ha : 3 ≤ a ∧ a ≤ 5) : va_at D vwCl (E a, .inl (cI, 40, .inl (y a))) H := h.2.1 a ha
theorem tc_WM.hi (h : tc_WM D cI A E y H) {a : Nat} (ha : 7 ≤ a ∧ a ≤ 14) : va_at D vwCl (E a, .inl (cI, 5, .inl (y a))) H := h.2.2.1 a ha
theorem tc_WM.own (h : tc_WM D cI A E y H) {a : Nat} (ha : tc_lm a) : A (E a) := h.2.2.2.2 a ha
theorem tc_WM.sl (h : tc_WM D cI A E y H) {a i : Nat} {v : Int32} (ha : 3 ≤ a ∧ a ≤ 5) (e1 : va_at D vwCl (E a, .inl (cI, 40, .inl (upd (y a) i v))) H1) (o : ∀ q, q ≠ E a → H1[q]? = H[q]?) : tc_WM D cI A E (tc_ym y a i v) H1 := by
  obtain ⟨h0, h1, h2, h3, h4⟩ := h
  have la : tc_lm a := Or.inr (Or.inl ha)
  have ek : ∀ j : Nat, tc_lm j → j ≠ a → H1[E j]? = H[E j]? := fun j hj hne => o _ (fun q => hne (h3 _ _ hj la q))
  refine ⟨?_, fun b hb => ?_, fun b hb => ?_, h3, h4⟩
  · have z : tc_cM E (tc_ym y a i v) = tc_cM E y := by simp only [tc_cM, tc_ym_ne (show 0 ≠ a by omega), tc_ym_ne (show 1 ≠ a by omega), tc_ym_ne (show 2 ≠ a by omega), tc_ym_ne (show 6 ≠ a by omega)]
    rw [z]; exact h0.kept (ek _ (Or.inl rfl) (by omega))
  · by_cases q : b = a
    · subst q; rw [tc_ym_eq]; exact e1
    · rw [tc_ym_ne q]; exact (h1 b hb).kept (ek _ (Or.inr (Or.inl hb)) q)
  · rw [tc_ym_ne (by omega)]; exact (h2 b hb).kept (ek _ (Or.inr (Or.inr hb)) (by omega))
theorem tc_WM.sh (h : tc_WM D cI A E y H) {a i : Nat} {v : Int32} (ha : 7 ≤ a ∧ a ≤ 14) (e1 : va_at D vwCl (E a, .inl (cI, 5, .inl (upd (y a) i v))) H1) (o : ∀ q, q ≠ E a → H1[q]? = H[q]?) : tc_WM D cI A E (tc_ym y a i v) H1 := by
  obtain ⟨h0, h1, h2, h3, h4⟩ := h
  have la : tc_lm a := Or.inr (Or.inr ha)
  have ek : ∀ j : Nat, tc_lm j → j ≠ a → H1[E j]? = H[E j]? := fun j hj hne => o _ (fun q => hne (h3 _ _ hj la q))
  refine ⟨?_, fun b hb => ?_, fun b hb => ?_, h3, h4⟩
  · have z : tc_cM E (tc_ym y a i v) = tc_cM E y := by simp only [tc_cM, tc_ym_ne (show 0 ≠ a by omega), tc_ym_ne (show 1 ≠ a by omega), tc_ym_ne (show 2 ≠ a by omega), tc_ym_ne (show 6 ≠ a by omega)]
    rw [z]; exact h0.kept (ek _ (Or.inl rfl) (by omega))
  · rw [tc_ym_ne (by omega)]; exact (h1 b hb).kept (ek _ (Or.inr (Or.inl hb)) (by omega))
  · by_cases q : b = a
    · subst q; rw [tc_ym_eq]; exact e1
    · rw [tc_ym_ne q]; exact (h2 b hb).kept (ek _ (Or.inr (Or.inr hb)) q)
theorem tc_upd_0 {f : Nat → Int32} {v : Int32} : upd f 0 v 0 = v := pk_us
theorem tc_WM.sf (h : tc_WM D cI A E y H) {a : Nat} {v : Int32} (ha : a = 0 ∨ a = 1 ∨ a = 2 ∨ a = 6) (e1 : va_at D vwCl (E 0, tc_cM E (tc_ym y a 0 v)) H1) (o : ∀ q, q ≠ E 0 → H1[q]? = H[q]?) : tc_WM D cI A E (tc_ym y a 0 v) H1 := by
  obtain ⟨h0, h1, h2, h3, h4⟩ := h
  have la : tc_lm 0 := Or.inl rfl
  have ek : ∀ j : Nat, tc_lm j → j ≠ 0 → H1[E j]? = H[E j]? := fun j hj hne => o _ (fun q => hne (h3 _ _ hj la q))
  refine ⟨e1, fun b hb => ?_, fun b hb => ?_, h3, h4⟩
  · rw [tc_ym_ne (by omega)]; exact (h1 b hb).kept (ek _ (Or.inr (Or.inl hb)) (by omega))
  · rw [tc_ym_ne (by omega)]; exact (h2 b hb).kept (ek _ (Or.inr (Or.inr hb)) (by omega))
theorem tc_m0 {v : Int32} : tc_cM E (tc_ym y 0 0 v) = .inr (4, [.int v, .int (y 1 0), .int (y 2 0), .ref (E 3), .ref (E 4), .ref (E 5), .int (y 6 0), .ref (E 7), .ref (E 8), .ref (E 9), .ref (E 10), .ref (E 11), .ref (E 12), .ref (E 13), .ref (E 14)]) := by simp only [tc_cM, tc_ym_eq, tc_upd_0, tc_ym_ne (show 1 ≠ 0 by decide), tc_ym_ne (show 2 ≠ 0 by decide), tc_ym_ne (show 6 ≠ 0 by decide)]
theorem tc_m1 {v : Int32} : tc_cM E (tc_ym y 1 0 v) = .inr (4, [.int (y 0 0), .int v, .int (y 2 0), .ref (E 3), .ref (E 4), .ref (E 5), .int (y 6 0), .ref (E 7), .ref (E 8), .ref (E 9), .ref (E 10), .ref (E 11), .ref (E 12), .ref (E 13), .ref (E 14)]) := by simp only [tc_cM, tc_ym_eq, tc_upd_0, tc_ym_ne (show 0 ≠ 1 by decide), tc_ym_ne (show 2 ≠ 1 by decide), tc_ym_ne (show 6 ≠ 1 by decide)]
theorem tc_m2 {v : Int32} : tc_cM E (tc_ym y 2 0 v) = .inr (4, [.int (y 0 0), .int (y 1 0), .int v, .ref (E 3), .ref (E 4), .ref (E 5), .int (y 6 0), .ref (E 7), .ref (E 8), .ref (E 9), .ref (E 10), .ref (E 11), .ref (E 12), .ref (E 13), .ref (E 14)]) := by simp only [tc_cM, tc_ym_eq, tc_upd_0, tc_ym_ne (show 1 ≠ 2 by decide), tc_ym_ne (show 0 ≠ 2 by decide), tc_ym_ne (show 6 ≠ 2 by decide)]
theorem tc_m6 {v : Int32} : tc_cM E (tc_ym y 6 0 v) = .inr (4, [.int (y 0 0), .int (y 1 0), .int (y 2 0), .ref (E 3), .ref (E 4), .ref (E 5), .int v, .ref (E 7), .ref (E 8), .ref (E 9), .ref (E 10), .ref (E 11), .ref (E 12), .ref (E 13), .ref (E 14)]) := by simp only [tc_cM, tc_ym_eq, tc_upd_0, tc_ym_ne (show 1 ≠ 6 by decide), tc_ym_ne (show 2 ≠ 6 by decide), tc_ym_ne (show 0 ≠ 6 by decide)]
end TCM
/-! ===== what a method asks of the tables ===== -/
abbrev tc_ty (cU cO cI : ClassId) : List (ClassId × FieldType) := [(cU, .object "TreadCranes$Barrel"), (cO, .object "java/lang/Object"), (cI, .int)]
def tc_KC (D : va_G) (cU cO cI : ClassId) (U : State) : Prop := va_K D vwCl (tc_ty cU cO cI) U ∧ va_Nw (.methodLinkNest RX1 34 yX2_distance RX2) U ∧ va_Nw (.methodLinkNest RX1 45 yX2_wearInATick RX2) U
theorem tc_KC.warm {D : va_G} {cU cO cI : ClassId} {s U : State} (hW : s.WarmedH U.vm) (h : tc_KC D cU cO cI s) : tc_KC D cU cO cI U := ⟨va_K.moved hW.alike h.1, va_Nw.warmM hW h.2.1, va_Nw.warmM hW h.2.2⟩
theorem tc_KC.call {D : va_G} {cU cO cI : ClassId} {U : State} {g : JFrame} {mk : MethodId} {a : Array Value} (h : tc_KC D cU cO cI U) : tc_KC D cU cO cI (U.calling g mk a) := ⟨va_K.moved (Vm.Alike.refl U.vm) h.1, va_Nw.same rfl rfl h.2.1, va_Nw.same rfl rfl h.2.2⟩
def tc_tx : List (Nat × String) := [(42, "no room for another barrel"), (51, "a hook is in the way"), (73, "no such reach or drum"), (79, "no room for another crane"), (103, "the place is out of reach"), (118, "a place is in the way"), (126, "no such height"), (128, "the place below is in the way"), (140, "the load is too heavy"), (153, "no barrel can be taken"), (161, "no load can be set down"), (163, "another hook is in the way"), (173, "no such barrel"), (207, "no such place"), (209, "no such crane"), (211, "nothing is told under this number"), (213, "no such weight"), (215, "no such number of walkers")]
abbrev tc_en (k : Nat) : String := if k = 1 then "java/lang/IndexOutOfBoundsException" else if k = 2 then "java/lang/IllegalArgumentException" else "java/lang/IllegalStateException"
def tc_dn : List String := ["java/lang/RuntimeException", "java/lang/Exception", "java/lang/Throwable"]
def tc_KX (D : va_G) (cU cO cI : ClassId) (e0 : Nat) (A : Nat → Prop) (U : State) : Prop := tc_KC D cU cO cI U ∧ (∀ q, U.heap.size ≤ q → A q) ∧ vx_Zq Bundle.tN "UNASSIGNED_STACK" Bundle.steD A U U.heap ∧ vx_Zq Bundle.tN "SUPPRESSED_SENTINEL" Bundle.listD A U U.heap ∧ va_Z "java/util/ArrayList" "DEFAULTCAPACITY_EMPTY_ELEMENTDATA" "[Ljava/lang/Object;" (.ref e0) A U U.heap ∧ (∀ q ∈ tc_tx, ∃ sa, vk_R RX2 q.1 q.2 sa U) ∧ (∀ n ∈ tc_dn, va_Nw (.declares (Bundle.initS n)) U) ∧ va_Nw (.castable "java/lang/IndexOutOfBoundsException" "java/lang/IndexOutOfBoundsException") U ∧ va_Nw (.castable "java/lang/IllegalArgumentException" "java/lang/IllegalArgumentException") U ∧ va_Nw (.castable "java/lang/IllegalStateException" "java/lang/IllegalStateException") U ∧ va_T (.object "java/lang/Object") e0 0 (fun _ => .null) A U U.heap ∧ (∃ mi : Nat, va_Mi "[Ljava/lang/Object;" mi U) ∧ va_Dc U ∧ va_AO "java/lang/Object" U ∧ va_AO "TreadCranes$Barrel" U ∧ va_Nw (.castable RX0 "java/lang/Object") U ∧ va_Nw (.castable RX1 "java/lang/Object") U
theorem tc_KX.call {D : va_G} {cU cO cI : ClassId} {e0 : Nat} {A : Nat → Prop} {U : State} {g : JFrame} {mk : MethodId} {a : Array Value} (h : tc_KX D cU cO cI e0 A U) : tc_KX D cU cO cI e0 A (U.calling g mk a) := by
  obtain ⟨h1, h2, h3, h4, h5, h6, h0, h7, h8, h9, g1, ⟨mi, g2⟩, g3, g4, g5, g6, g7⟩ := h
  have al : U.vm.Alike (U.calling g mk a).vm := Vm.Alike.refl U.vm
  exact ⟨h1.call, h2, vx_Zq.moved al h3, vx_Zq.moved al h4, va_Z.moved al h5, fun q hq => (h6 q hq).elim fun sa z => ⟨sa, vk_R.same rfl z⟩, fun n hn => va_Nw.same rfl rfl (h0 n hn), va_Nw.same rfl rfl h7, va_Nw.same rfl rfl h8, va_Nw.same rfl rfl h9, va_T.moved al g1, ⟨mi, va_Mi.moved al g2⟩, va_Dc.moved al g3, va_AO.moved al g4, va_AO.moved al g5, va_Nw.same rfl rfl g6, va_Nw.same rfl rfl g7⟩
/-- at a call: from the method's start s, with heap H at hand -/
theorem tc_KX.go {D : va_G} {cU cO cI : ClassId} {e0 : Nat} {A : Nat → Prop} {s U : State} {H : Heap} {locs : List Loc} (h : tc_KX D cU cO cI e0 A s) (hS : va_S A s.heap H locs) (hU : U.heap = H) (hW : s.WarmedH U.vm) : tc_KX D cU cO cI e0 A U := by
  obtain ⟨h1, h2, h3, h4, h5, h6, h0, h7, h8, h9, g1, ⟨mi, g2⟩, g3, g4, g5, g6, g7⟩ := h
  subst hU
  exact ⟨h1.warm hW, fun q hq => h2 q (Nat.le_trans hS.1 hq), vx_Zq.moved hW.alike (h3.kept hS.2.1), vx_Zq.moved hW.alike (h4.kept hS.2.1), va_Z.moved hW.alike (h5.kept hS.2.1), fun q hq => (h6 q hq).elim fun sa z => ⟨sa, vk_R.warm hW z⟩, fun n hn => va_Nw.warmD hW (h0 n hn), va_Nw.warmC hW h7, va_Nw.warmC hW h8, va_Nw.warmC hW h9, va_T.moved hW.alike (g1.kept hS.2.1), ⟨mi, va_Mi.moved hW.alike g2⟩, va_Dc.moved hW.alike g3, va_AO.moved hW.alike g4, va_AO.moved hW.alike g5, va_Nw.warmC hW g6, va_Nw.warmC hW g7⟩
theorem tc_e10 {E : Nat → Nat} {x : tc_X} {b : Nat} {v : Int32} : tc_cB E (tc_si x 10 b v) b = .inr (1, [.int v, .int (x.1 11 b), .int (x.1 12 b), .int (x.1 13 b), va_rf (tc_ad E 6 (x.2.1 1 b)), .int (x.1 14 b), .int (x.1 15 b)]) := by simp only [tc_cB, tc_si_eq, tc_si_2, tc_si_ne (show ¬ (11 = 10 ∧ b = b) by omega), tc_si_ne (show ¬ (12 = 10 ∧ b = b) by omega), tc_si_ne (show ¬ (13 = 10 ∧ b = b) by omega), tc_si_ne (show ¬ (14 = 10 ∧ b = b) by omega), tc_si_ne (show ¬ (15 = 10 ∧ b = b) by omega)]
theorem tc_e11 {E : Nat → Nat} {x : tc_X} {b : Nat} {v : Int32} : tc_cB E (tc_si x 11 b v) b = .inr (1, [.int (x.1 10 b), .int v, .int (x.1 12 b), .int (x.1 13 b), va_rf (tc_ad E 6 (x.2.1 1 b)), .int (x.1 14 b), .int (x.1 15 b)]) := by simp only [tc_cB, tc_si_eq, tc_si_2, tc_si_ne (show ¬ (10 = 11 ∧ b = b) by omega), tc_si_ne (show ¬ (12 = 11 ∧ b = b) by omega), tc_si_ne (show ¬ (13 = 11 ∧ b = b) by omega), tc_si_ne (show ¬ (14 = 11 ∧ b = b) by omega), tc_si_ne (show ¬ (15 = 11 ∧ b = b) by omega)]
theorem tc_e12 {E : Nat → Nat} {x : tc_X} {b : Nat} {v : Int32} : tc_cB E (tc_si x 12 b v) b = .inr (1, [.int (x.1 10 b), .int (x.1 11 b), .int v, .int (x.1 13 b), va_rf (tc_ad E 6 (x.2.1 1 b)), .int (x.1 14 b), .int (x.1 15 b)]) := by simp only [tc_cB, tc_si_eq, tc_si_2, tc_si_ne (show ¬ (10 = 12 ∧ b = b) by omega), tc_si_ne (show ¬ (11 = 12 ∧ b = b) by omega), tc_si_ne (show ¬ (13 = 12 ∧ b = b) by omega), tc_si_ne (show ¬ (14 = 12 ∧ b = b) by omega), tc_si_ne (show ¬ (15 = 12 ∧ b = b) by omega)]
theorem tc_e13 {E : Nat → Nat} {x : tc_X} {b : Nat} {v : Int32} : tc_cB E (tc_si x 13 b v) b = .inr (1, [.int (x.1 10 b), .int (x.1 11 b), .int (x.1 12 b), .int v, va_rf (tc_ad E 6 (x.2.1 1 b)), .int (x.1 14 b), .int (x.1 15 b)]) := by simp only [tc_cB, tc_si_eq, tc_si_2, tc_si_ne (show ¬ (10 = 13 ∧ b = b) by omega), tc_si_ne (show ¬ (11 = 13 ∧ b = b) by omega), tc_si_ne (show ¬ (12 = 13 ∧ b = b) by omega), tc_si_ne (show ¬ (14 = 13 ∧ b = b) by omega), tc_si_ne (show ¬ (15 = 13 ∧ b = b) by omega)]
theorem tc_e14 {E : Nat → Nat} {x : tc_X} {b : Nat} {v : Int32} : tc_cB E (tc_si x 14 b v) b = .inr (1, [.int (x.1 10 b), .int (x.1 11 b), .int (x.1 12 b), .int (x.1 13 b), va_rf (tc_ad E 6 (x.2.1 1 b)), .int v, .int (x.1 15 b)]) := by simp only [tc_cB, tc_si_eq, tc_si_2, tc_si_ne (show ¬ (10 = 14 ∧ b = b) by omega), tc_si_ne (show ¬ (11 = 14 ∧ b = b) by omega), tc_si_ne (show ¬ (12 = 14 ∧ b = b) by omega), tc_si_ne (show ¬ (13 = 14 ∧ b = b) by omega), tc_si_ne (show ¬ (15 = 14 ∧ b = b) by omega)]
theorem tc_e15 {E : Nat → Nat} {x : tc_X} {b : Nat} {v : Int32} : tc_cB E (tc_si x 15 b v) b = .inr (1, [.int (x.1 10 b), .int (x.1 11 b), .int (x.1 12 b), .int (x.1 13 b), va_rf (tc_ad E 6 (x.2.1 1 b)), .int (x.1 14 b), .int v]) := by simp only [tc_cB, tc_si_eq, tc_si_2, tc_si_ne (show ¬ (10 = 15 ∧ b = b) by omega), tc_si_ne (show ¬ (11 = 15 ∧ b = b) by omega), tc_si_ne (show ¬ (12 = 15 ∧ b = b) by omega), tc_si_ne (show ¬ (13 = 15 ∧ b = b) by omega), tc_si_ne (show ¬ (14 = 15 ∧ b = b) by omega)]
theorem tc_e20 {E : Nat → Nat} {x : tc_X} {b : Nat} {v : Int32} : tc_cC E (tc_si x 20 b v) b = .inr (2, [.int v, .int (x.1 21 b), .int (x.1 22 b), .int (x.1 23 b), .int (x.1 24 b), .int (x.1 25 b), .int (x.1 26 b), va_rf (tc_ad E 6 (x.2.1 2 b))]) := by simp only [tc_cC, tc_si_eq, tc_si_2, tc_si_ne (show ¬ (21 = 20 ∧ b = b) by omega), tc_si_ne (show ¬ (22 = 20 ∧ b = b) by omega), tc_si_ne (show ¬ (23 = 20 ∧ b = b) by omega), tc_si_ne (show ¬ (24 = 20 ∧ b = b) by omega), tc_si_ne (show ¬ (25 = 20 ∧ b = b) by omega), tc_si_ne (show ¬ (26 = 20 ∧ b = b) by omega)]
theorem tc_e21 {E : Nat → Nat} {x : tc_X} {b : Nat} {v : Int32} : tc_cC E (tc_si x 21 b v) b = .inr (2, [.int (x.1 20 b), .int v, .int (x.1 22 b), .int (x.1 23 b), .int (x.1 24 b), .int (x.1 25 b), .int (x.1 26 b), va_rf (tc_ad E 6 (x.2.1 2 b))]) := by simp only [tc_cC, tc_si_eq, tc_si_2, tc_si_ne (show ¬ (20 = 21 ∧ b = b) by omega), tc_si_ne (show ¬ (22 = 21 ∧ b = b) by omega), tc_si_ne (show ¬ (23 = 21 ∧ b = b) by omega), tc_si_ne (show ¬ (24 = 21 ∧ b = b) by omega), tc_si_ne (show ¬ (25 = 21 ∧ b = b) by omega), tc_si_ne (show ¬ (26 = 21 ∧ b = b) by omega)]
theorem tc_e22 {E : Nat → Nat} {x : tc_X} {b : Nat} {v : Int32} : tc_cC E (tc_si x 22 b v) b = .inr (2, [.int (x.1 20 b), .int (x.1 21 b), .int v, .int (x.1 23 b), .int (x.1 24 b), .int (x.1 25 b), .int (x.1 26 b), va_rf (tc_ad E 6 (x.2.1 2 b))]) := by simp only [tc_cC, tc_si_eq, tc_si_2, tc_si_ne (show ¬ (20 = 22 ∧ b = b) by omega), tc_si_ne (show ¬ (21 = 22 ∧ b = b) by omega), tc_si_ne (show ¬ (23 = 22 ∧ b = b) by omega), tc_si_ne (show ¬ (24 = 22 ∧ b = b) by omega), tc_si_ne (show ¬ (25 = 22 ∧ b = b) by omega), tc_si_ne (show ¬ (26 = 22 ∧ b = b) by omega)]
theorem tc_e23 {E : Nat → Nat} {x : tc_X} {b : Nat} {v : Int32} : tc_cC E (tc_si x 23 b v) b = .inr (2, [.int (x.1 20 b), .int (x.1 21 b), .int (x.1 22 b), .int v, .int (x.1 24 b), .int (x.1 25 b), .int (x.1 26 b), va_rf (tc_ad E 6 (x.2.1 2 b))]) := by simp only [tc_cC, tc_si_eq, tc_si_2, tc_si_ne (show ¬ (20 = 23 ∧ b = b) by omega), tc_si_ne (show ¬ (21 = 23 ∧ b = b) by omega), tc_si_ne (show ¬ (22 = 23 ∧ b = b) by omega), tc_si_ne (show ¬ (24 = 23 ∧ b = b) by omega), tc_si_ne (show ¬ (25 = 23 ∧ b = b) by omega), tc_si_ne (show ¬ (26 = 23 ∧ b = b) by omega)]
theorem tc_e24 {E : Nat → Nat} {x : tc_X} {b : Nat} {v : Int32} : tc_cC E (tc_si x 24 b v) b = .inr (2, [.int (x.1 20 b), .int (x.1 21 b), .int (x.1 22 b), .int (x.1 23 b), .int v, .int (x.1 25 b), .int (x.1 26 b), va_rf (tc_ad E 6 (x.2.1 2 b))]) := by simp only [tc_cC, tc_si_eq, tc_si_2, tc_si_ne (show ¬ (20 = 24 ∧ b = b) by omega), tc_si_ne (show ¬ (21 = 24 ∧ b = b) by omega), tc_si_ne (show ¬ (22 = 24 ∧ b = b) by omega), tc_si_ne (show ¬ (23 = 24 ∧ b = b) by omega), tc_si_ne (show ¬ (25 = 24 ∧ b = b) by omega), tc_si_ne (show ¬ (26 = 24 ∧ b = b) by omega)]
theorem tc_e25 {E : Nat → Nat} {x : tc_X} {b : Nat} {v : Int32} : tc_cC E (tc_si x 25 b v) b = .inr (2, [.int (x.1 20 b), .int (x.1 21 b), .int (x.1 22 b), .int (x.1 23 b), .int (x.1 24 b), .int v, .int (x.1 26 b), va_rf (tc_ad E 6 (x.2.1 2 b))]) := by simp only [tc_cC, tc_si_eq, tc_si_2, tc_si_ne (show ¬ (20 = 25 ∧ b = b) by omega), tc_si_ne (show ¬ (21 = 25 ∧ b = b) by omega), tc_si_ne (show ¬ (22 = 25 ∧ b = b) by omega), tc_si_ne (show ¬ (23 = 25 ∧ b = b) by omega), tc_si_ne (show ¬ (24 = 25 ∧ b = b) by omega), tc_si_ne (show ¬ (26 = 25 ∧ b = b) by omega)]
theorem tc_e26 {E : Nat → Nat} {x : tc_X} {b : Nat} {v : Int32} : tc_cC E (tc_si x 26 b v) b = .inr (2, [.int (x.1 20 b), .int (x.1 21 b), .int (x.1 22 b), .int (x.1 23 b), .int (x.1 24 b), .int (x.1 25 b), .int v, va_rf (tc_ad E 6 (x.2.1 2 b))]) := by simp only [tc_cC, tc_si_eq, tc_si_2, tc_si_ne (show ¬ (20 = 26 ∧ b = b) by omega), tc_si_ne (show ¬ (21 = 26 ∧ b = b) by omega), tc_si_ne (show ¬ (22 = 26 ∧ b = b) by omega), tc_si_ne (show ¬ (23 = 26 ∧ b = b) by omega), tc_si_ne (show ¬ (24 = 26 ∧ b = b) by omega), tc_si_ne (show ¬ (25 = 26 ∧ b = b) by omega)]
def tc_KM (D : va_G) (cU cO cI : ClassId) (A : Nat → Prop) (U : State) : Prop := va_K D vwCl (tc_ty cU cO cI) U ∧ ∀ q, U.heap.size ≤ q → A q
theorem tc_KM.call {D : va_G} {cU cO cI : ClassId} {A : Nat → Prop} {U : State} {g : JFrame} {mk : MethodId} {a : Array Value} (h : tc_KM D cU cO cI A U) : tc_KM D cU cO cI A (U.calling g mk a) := ⟨va_K.moved (Vm.Alike.refl U.vm) h.1, h.2⟩
theorem tc_KM.go {D : va_G} {cU cO cI : ClassId} {A : Nat → Prop} {s U : State} {H : Heap} {locs : List Loc} (h : tc_KM D cU cO cI A s) (hS : va_S A s.heap H locs) (hU : U.heap = H) (hW : s.WarmedH U.vm) : tc_KM D cU cO cI A U := by
  subst hU
  exact ⟨va_K.moved hW.alike h.1, fun q hq => h.2 q (Nat.le_trans hS.1 hq)⟩
