/-! The law's loops: the build, the pictures before an act, what has changed. -/
theorem lk_cell (xs : Nat → Int32) {L k : Nat} (hL : L ≤ 260) (hk : k < 16) : ∃ v, f_L_cell xs L (nI k) = some v := by
  unfold f_L_cell
  by_cases w : nI L ≤ nI k
  · rw [if_pos w]; exact ⟨_, rfl⟩
  · have : k < L := Nat.lt_of_not_le (fun z => w ((nI_leI (by omega) (by omega)).mpr z))
    rw [if_neg w, tc_cl (show k ≤ 1000 by omega), if_pos (tc_g2 this (by omega))]
    exact ⟨_, rfl⟩
theorem lk_16 {i : Nat} (hi : i < 61) : nI i - nI i / (16 : Int32) * (16 : Int32) = nI (i % 16) := by
  have all : ∀ i, i < 61 → nI i - nI i / (16 : Int32) * (16 : Int32) = nI (i % 16) := by decide +kernel
  exact all i hi
theorem lk_b3 {α : Type} {a : Int32} {x : tc_X} {z : tc_Z} {f : Int32 → tc_X → tc_Z → Option α} : tc_b3 (some (a, x, z)) f = f a x z := rfl
section LKL
variable {pa lv : Nat → Nat} {x : tc_X} {y : tc_Y} {z : tc_Z} {t : Nat} {xs : Nat → Int32} {L : Nat}
theorem B_loop (hL : L ≤ 260) (kc : tc_X → tc_Z → Option (Int32 × tc_X × tc_Z)) (n : Nat) : ∀ i pa lv x y z t, tc_J pa lv x y z t → i ≤ 30 → 30 - i < n → ∃ pa' lv' x' y' z' t', lp_L_build_11 n xs L kc (nI i) x z = kc x' z' ∧ tc_J pa' lv' x' y' z' t' ∧ t' ≤ t + 35 * (30 - i) := by
  induction n with
  | zero => intro i pa lv x y z t _ _ h; omega
  | succ n ih =>
    intro i pa lv x y z t J hi hn
    rw [lp_L_build_11]
    have c30 : (30 : Int32) ≤ nI i ↔ 30 ≤ i := nI_leI (a := 30) (by omega) (by omega)
    by_cases e1 : i = 30
    · rw [if_pos (c30.mpr (by omega))]
      exact ⟨pa, lv, x, y, z, t, rfl, J, by omega⟩
    · obtain ⟨cv, ec⟩ := lk_cell xs hL (show i % 16 < 16 by omega)
      rw [if_neg (fun z => e1 (by have := c30.mp z; omega)), lk_16 (by omega), ec, Option.bind_some, tc_leteq]
      have key : ∀ (v17 : Int32) (G : Int32 → Option (Int32 × tc_X × tc_Z)), ∃ v, tc_jn G (fun kc21 => (if 12 ≤ nI i then kc21 v17 else Option.bind (f_L_below v17 10000) (fun r34 => tc_jn (fun (w36 : Int32) => tc_let ((r34 * (14 : Int32)) + w36) (fun v40 => kc21 v40)) (fun kc39 => (if (nI i - nI i / (4 : Int32) * (4 : Int32)) = 3 then kc39 3 else kc39 (nI i - nI i / (3 : Int32) * (3 : Int32))))))) = G v := by
        intro v17 G
        obtain ⟨j, hj, ej⟩ := lk_Jbelow v17 (n := 10000) (by decide) (by decide)
        have ej' : f_L_below v17 10000 = some (nI j) := ej
        dsimp only [tc_jn]
        rw [ej', Option.bind_some]
        split
        · exact ⟨_, rfl⟩
        · split
          · exact ⟨_, rfl⟩
          · exact ⟨_, rfl⟩
      obtain ⟨v, ev⟩ := key _ (fun (w18 : Int32) => tc_wif x (tc_b3 (f_L_act x z w18) (fun r23 x24 z25 => (if r23 = 0 then none else tc_let (nI i + 1) (fun v32 => lp_L_build_11 n xs L kc v32 x24 z25)))))
      rw [ev]
      obtain ⟨pa', lv', x', y', z', t', ea, J', T'⟩ := A_act J v
      rw [tc_wiy J.1.wf, ea, lk_b3, if_neg tc_10, tc_leteq, nI_1]
      obtain ⟨pa2, lv2, x2, y2, z2, t2, e2, J2, h2⟩ := ih (i + 1) pa' lv' x' y' z' t' J' (by omega) (by omega)
      have := T'.1.2
      exact ⟨pa2, lv2, x2, y2, z2, t2, e2, J2, by omega⟩
theorem B_build (hL : L ≤ 260) : ∃ pa lv x y z t, f_L_build xs L tc_x0 = some (1, x, z) ∧ tc_J pa lv x y z t ∧ t ≤ 1050 := by
  obtain ⟨pa, lv, x, y, z, t, e, J, ht⟩ := B_loop (xs := xs) hL (fun x4 z5 => some (1, x4, z5)) 31 0 _ _ _ _ _ _ tc_J0 (by decide) (by decide)
  exact ⟨pa, lv, x, y, z, t, e, J, by omega⟩
theorem P_89 (h : tc_Rl pa lv x y) (kc : (Nat → Int32) → Option Int32) (n : Nat) : ∀ b u, b ≤ tc_nb x → tc_nb x - b < n → (∀ b', b' < b → u b' = if pa b' = 17 then 1 else 0) → ∃ u', lp_L_law_89 n x (nI (tc_nb x)) kc (nI b) u = kc u' ∧ ∀ b', b' < tc_nb x → u' b' = if pa b' = 17 then 1 else 0 := by
  have h40 := h.n40
  induction n with
  | zero => intro b u _ h; omega
  | succ n ih =>
    intro b u hb hn hu
    rw [lp_L_law_89]
    by_cases e1 : b = tc_nb x
    · rw [e1, if_pos (nI_le (Nat.le_refl _) (by omega))]
      exact ⟨u, rfl, fun b' hb' => hu b' (by omega)⟩
    · have hbn : b < tc_nb x := by omega
      have cN := tc_cl (show tc_nb x ≤ 1000 by omega)
      rw [if_neg (nI_ge (a := b) (by omega) (by omega)), h.barrel4 hbn, Option.bind_some, tc_cl (show b ≤ 1000 by omega), cN]
      have go : ∀ v : Int32, v = (if pa b = 17 then 1 else 0) → (v = 0 ∨ v = 1) → ∃ u', (if ¬ nI b < 0 ∧ b < tc_nb x then (if v = 0 ∨ v = 1 then tc_let (upd u b v) (fun u452 => tc_let (nI b + 1) (fun v453 => lp_L_law_89 n x (nI (tc_nb x)) kc v453 u452)) else none) else none) = kc u' ∧ ∀ b', b' < tc_nb x → u' b' = if pa b' = 17 then 1 else 0 := fun v ev hv => by
        rw [if_pos (tc_g2 hbn (by omega)), if_pos hv, tc_leteq, tc_leteq, nI_1]
        refine ih (b + 1) _ (by omega) (by omega) (fun b' hb' => ?_)
        by_cases e2 : b' = b
        · rw [e2, ← ev]; exact pk_us
        · exact (if_neg e2).trans (hu b' (by omega))
      dsimp only [tc_jn]
      by_cases w : pa b = 17
      · rw [if_pos w, if_pos rfl]; exact go 1 (if_pos w).symm (Or.inr rfl)
      · rw [if_neg w, if_neg (show ¬ (0 : Int32) = 1 by decide)]; exact go 0 (if_neg w).symm (Or.inl rfl)
/-- a crane's nine answers -/
def lk_a9 (y : tc_Y) (k w : Nat) : Int32 := if w = 8 then 12 * y 10 k / y 9 k else y (7 + w) k
theorem lk_c9 (h : tc_Rl pa lv x y) {k w : Nat} (hk : k < tc_nc x) (hw : w < 9) : tc_rd (f_X2_crane x (nI k) (nI w)) = some (lk_a9 y k w) := by
  unfold lk_a9
  by_cases e : w = 8
  · subst e; rw [if_pos rfl]; exact h.crane8 hk
  · rw [if_neg e]; exact h.crane hk (by omega)
theorem P_146 (h : tc_Rl pa lv x y) {k : Nat} (hk : k < tc_nc x) (kc : (Nat → Nat → Int32) → Option Int32) (n : Nat) : ∀ w u, w ≤ 9 → 9 - w < n → (∀ w', w' < w → u k w' = lk_a9 y k w') → ∃ u', lp_L_law_146 n x (nI (tc_nc x)) (nI k) kc (nI w) u = kc u' ∧ (∀ w', w' < 9 → u' k w' = lk_a9 y k w') ∧ ∀ k', k' ≠ k → u' k' = u k' := by
  have h5 := h.n5
  induction n with
  | zero => intro w u _ h; omega
  | succ n ih =>
    intro w u hw hn hu
    rw [lp_L_law_146]
    have c9 : (9 : Int32) ≤ nI w ↔ 9 ≤ w := nI_leI (a := 9) (by omega) (by omega)
    by_cases e1 : w = 9
    · rw [if_pos (c9.mpr (by omega))]
      exact ⟨u, rfl, fun w' hw' => hu w' (by omega), fun _ _ => rfl⟩
    · rw [if_neg (fun z => e1 (by have := c9.mp z; omega)), tc_cl (show k ≤ 1000 by omega), tc_cl (show tc_nc x ≤ 1000 by omega), if_pos (tc_g2 hk (by omega)), lk_c9 h hk (show w < 9 by omega), Option.bind_some, tc_cl (show w ≤ 1000 by omega), if_pos (tc_g2 (show w < 9 by omega) (by omega)), tc_leteq, tc_leteq, nI_1]
      obtain ⟨u', e, a1, a2⟩ := ih (w + 1) (va_up u k (upd (u k) w (lk_a9 y k w))) (by omega) (by omega) (fun w' hw' => by
        rw [va_up_self]
        by_cases e2 : w' = w
        · rw [e2]; exact pk_us
        · exact (if_neg e2).trans (hu w' (by omega)))
      exact ⟨u', e, a1, fun k' hk' => (a2 k' hk').trans (va_up_ne _ _ hk')⟩
theorem P_146a (h : tc_Rl pa lv x y) {k : Nat} (hk : k < tc_nc x) (kc : (Nat → Nat → Int32) → Option Int32) (a : Int32) (ha : a = nI 0) (u : Nat → Nat → Int32) : ∃ u', lp_L_law_146 10 x (nI (tc_nc x)) (nI k) kc a u = kc u' ∧ (∀ w', w' < 9 → u' k w' = lk_a9 y k w') ∧ ∀ k', k' ≠ k → u' k' = u k' := by
  subst ha
  exact P_146 h hk kc 10 0 u (by decide) (by decide) (fun w' hw' => absurd hw' (Nat.not_lt_zero _))
theorem P_136 (h : tc_Rl pa lv x y) (kc : (Nat → Nat → Int32) → Option Int32) (n : Nat) : ∀ k u, k ≤ tc_nc x → tc_nc x - k < n → (∀ k', k' < k → ∀ w, w < 9 → u k' w = lk_a9 y k' w) → ∃ u', lp_L_law_136 n x (nI (tc_nc x)) kc (nI k) u = kc u' ∧ ∀ k', k' < tc_nc x → ∀ w, w < 9 → u' k' w = lk_a9 y k' w := by
  have h5 := h.n5
  induction n with
  | zero => intro k u _ h; omega
  | succ n ih =>
    intro k u hk hn hu
    rw [lp_L_law_136]
    by_cases e1 : k = tc_nc x
    · rw [e1, if_pos (nI_le (Nat.le_refl _) (by omega))]
      exact ⟨u, rfl, fun k' hk' => hu k' (by omega)⟩
    · have hkn : k < tc_nc x := by omega
      rw [if_neg (nI_ge (a := k) (by omega) (by omega))]
      dsimp only [tc_jn]
      obtain ⟨u1, e2, a1, a2⟩ := P_146a h hkn (fun (u423 : Nat → Nat → Int32) => tc_let (nI k + 1) (fun v427 => lp_L_law_136 n x (nI (tc_nc x)) kc v427 u423)) 0 rfl u
      rw [e2, tc_leteq, nI_1]
      refine ih (k + 1) u1 (by omega) (by omega) (fun k' hk' w hw => ?_)
      by_cases e4 : k' = k
      · subst e4; exact a1 w hw
      · rw [a2 k' e4]; exact hu k' (by omega) w hw
theorem P_243 {pa' lv' : Nat → Nat} {x' : tc_X} {y' : tc_Y} (h : tc_Rl pa lv x y) (h' : tc_Rl pa' lv' x' y') (hN : tc_nb x ≤ tc_nb x') (h17 : ∀ b, b < tc_nb x → pa b = 17 → pa' b = 17) (u : Nat → Int32) (hu : ∀ b, b < tc_nb x → u b = if pa b = 17 then 1 else 0) (kc : Option Int32) (n : Nat) : ∀ b, b ≤ tc_nb x → tc_nb x - b < n → lp_L_law_243 n (nI (tc_nb x)) u x' kc (nI b) = kc := by
  have h40 := h.n40
  induction n with
  | zero => intro b _ h; omega
  | succ n ih =>
    intro b hb hn
    rw [lp_L_law_243]
    by_cases e1 : b = tc_nb x
    · rw [e1, if_pos (nI_le (Nat.le_refl _) (by omega))]
    · have hbn : b < tc_nb x := by omega
      rw [if_neg (nI_ge (a := b) (by omega) (by omega)), tc_cl (show b ≤ 1000 by omega), tc_cl (show tc_nb x ≤ 1000 by omega), if_pos (tc_g2 hbn (by omega)), hu b hbn]
      dsimp only [tc_jn, tc_let]
      rw [nI_1]
      have st := ih (b + 1) (by omega) (by omega)
      by_cases w : pa b = 17
      · rw [if_pos w, if_neg tc_10, h'.barrel4 (show b < tc_nb x' by omega), Option.bind_some, if_pos (h17 b hbn w), if_pos rfl]; exact st
      · rw [if_neg w, if_pos rfl]; exact st
theorem P_296 {pa' lv' : Nat → Nat} {x' : tc_X} {y' : tc_Y} (h' : tc_Rl pa' lv' x' y') {k n0 : Nat} (hk : k < tc_nc x') (hkn : k < n0) (hn0 : n0 ≤ 5) (u : Nat → Nat → Int32) (kc : Int32 → Option Int32) (n : Nat) : ∀ w (e : Int32), w ≤ 9 → 9 - w < n → ∃ e', lp_L_law_296 n (nI n0) u x' (nI k) kc (nI w) e = kc e' ∧ (e = 0 → (∀ w', w' < 9 → lk_a9 y' k w' = u k w') → e' = 0) := by
  induction n with
  | zero => intro w e _ h; omega
  | succ n ih =>
    intro w e hw hn
    rw [lp_L_law_296]
    have c9 : (9 : Int32) ≤ nI w ↔ 9 ≤ w := nI_leI (a := 9) (by omega) (by omega)
    by_cases e1 : w = 9
    · rw [if_pos (c9.mpr (by omega))]
      exact ⟨e, rfl, fun z _ => z⟩
    · rw [if_neg (fun z => e1 (by have := c9.mp z; omega)), lk_c9 h' hk (show w < 9 by omega), Option.bind_some, tc_cl (show k ≤ 1000 by omega), tc_cl (show n0 ≤ 1000 by omega), if_pos (tc_g2 hkn (by omega)), tc_cl (show w ≤ 1000 by omega), if_pos (tc_g2 (show w < 9 by omega) (by omega))]
      dsimp only [tc_jn, tc_let]
      rw [nI_1]
      by_cases g : lk_a9 y' k w = u k w
      · rw [if_pos g]
        obtain ⟨e', a1, a2⟩ := ih (w + 1) (e ||| 0) (by omega) (by omega)
        exact ⟨e', a1, fun z hh => a2 (by rw [z]; decide) hh⟩
      · rw [if_neg g]
        obtain ⟨e', a1, a2⟩ := ih (w + 1) (e ||| 1) (by omega) (by omega)
        exact ⟨e', a1, fun z hh => absurd (hh w (by omega)) g⟩
theorem P_296a {pa' lv' : Nat → Nat} {x' : tc_X} {y' : tc_Y} (h' : tc_Rl pa' lv' x' y') {k n0 : Nat} (hk : k < tc_nc x') (hkn : k < n0) (hn0 : n0 ≤ 5) (u : Nat → Nat → Int32) (kc : Int32 → Option Int32) (a : Int32) (ha : a = nI 0) : ∃ e', lp_L_law_296 10 (nI n0) u x' (nI k) kc a a = kc e' ∧ ((∀ w', w' < 9 → lk_a9 y' k w' = u k w') → e' = 0) := by
  obtain ⟨e', a1, a2⟩ := P_296 h' hk hkn hn0 u kc 10 0 a (by decide) (by decide)
  exact ⟨e', by rw [← ha] at a1; exact a1, a2 (by rw [ha]; decide)⟩
theorem P_283 {pa' lv' : Nat → Nat} {x' : tc_X} {y' : tc_Y} {t' : Nat} (h : tc_Rl pa lv x y) (h' : tc_Rl pa' lv' x' y') (T : tc_T pa x y t pa' x' y' t') (u : Nat → Nat → Int32) (hu : ∀ k, k < tc_nc x → ∀ w, w < 9 → u k w = lk_a9 y k w) (kc : Int32 → Option Int32) (n : Nat) : ∀ k s, k ≤ tc_nc x → tc_nc x - k < n → (∀ c, (∀ k, k < tc_nc x → k ≠ c → ∀ i, i < 8 → y' (7 + i) k = y (7 + i) k) ∧ (c < tc_nc x → (y' 7 c = y 7 c ∧ y' 8 c = y 8 c ∧ y' 9 c = y 9 c) ∧ (y' 11 c ≤ y 11 c ∨ (¬ y 14 c < 0 ∧ (y' 14 c < 0 ∨ ¬ y 13 c ≤ y' 13 c) ∧ (0 ≤ y' 14 c ∨ y' 11 c = 99)))) → s ≤ (if c < k then 1 else 0) → ∃ s', s' ≤ 1 ∧ lp_L_law_283 n (nI (tc_nc x)) u x' kc (nI k) (nI s) = kc (nI s')) := by
  have h5 := h.n5
  obtain ⟨-, ⟨-, hnc⟩, -, -, -⟩ := T
  induction n with
  | zero => intro k s _ h; omega
  | succ n ih =>
    intro k s hk hn c hT hs
    obtain ⟨hT1, hT2⟩ := hT
    rw [lp_L_law_283]
    by_cases e1 : k = tc_nc x
    · rw [e1, if_pos (nI_le (Nat.le_refl _) (by omega))]
      exact ⟨s, by split at hs <;> omega, rfl⟩
    · have hkn : k < tc_nc x := by omega
      have hk' : k < tc_nc x' := by omega
      rw [if_neg (nI_ge (a := k) (by omega) (by omega))]
      dsimp only [tc_jn]
      obtain ⟨e', a1, a2⟩ := P_296a (n0 := tc_nc x) h' hk' hkn h5 u _ 0 rfl
      rw [a1]
      have q0 : tc_rd (f_X2_crane x' (nI k) 0) = some (y' 7 k) := h'.crane hk' (w := 0) (by decide)
      have q1 : tc_rd (f_X2_crane x' (nI k) 1) = some (y' 8 k) := h'.crane hk' (w := 1) (by decide)
      have q2 : tc_rd (f_X2_crane x' (nI k) 2) = some (y' 9 k) := h'.crane hk' (w := 2) (by decide)
      have q4 : tc_rd (f_X2_crane x' (nI k) 4) = some (y' 11 k) := h'.crane hk' (w := 4) (by decide)
      have q6 : tc_rd (f_X2_crane x' (nI k) 6) = some (y' 13 k) := h'.crane hk' (w := 6) (by decide)
      have q7 : tc_rd (f_X2_crane x' (nI k) 7) = some (y' 14 k) := h'.crane hk' (w := 7) (by decide)
      have u0 : u k 0 = y 7 k := hu k hkn 0 (by decide)
      have u1 : u k 1 = y 8 k := hu k hkn 1 (by decide)
      have u2 : u k 2 = y 9 k := hu k hkn 2 (by decide)
      have u4 : u k 4 = y 11 k := hu k hkn 4 (by decide)
      have u6 : u k 6 = y 13 k := hu k hkn 6 (by decide)
      have u7 : u k 7 = y 14 k := hu k hkn 7 (by decide)
      have st : ∀ s', s' ≤ (if c < k + 1 then 1 else 0) → ∃ s'', s'' ≤ 1 ∧ lp_L_law_283 n (nI (tc_nc x)) u x' kc (nI (k + 1)) (nI s') = kc (nI s'') := fun s' hs' => ih (k + 1) s' (by omega) (by omega) c ⟨hT1, hT2⟩ hs'
      have same : k ≠ c → ∀ w', w' < 9 → lk_a9 y' k w' = u k w' := fun hkc w' hw' => by
        rw [hu k hkn w' hw']
        unfold lk_a9
        by_cases e : w' = 8
        · rw [if_pos e, if_pos e, show y' 10 k = y 10 k from hT1 k hkn hkc 3 (by decide), show y' 9 k = y 9 k from hT1 k hkn hkc 2 (by decide)]
        · rw [if_neg e, if_neg e]; exact hT1 k hkn hkc w' (by omega)
      have fx : (y' 7 k = y 7 k ∧ y' 8 k = y 8 k ∧ y' 9 k = y 9 k) ∧ (y' 11 k ≤ y 11 k ∨ (¬ y 14 k < 0 ∧ (y' 14 k < 0 ∨ ¬ y 13 k ≤ y' 13 k) ∧ (0 ≤ y' 14 k ∨ y' 11 k = 99))) := by
        by_cases e : k = c
        · rw [e]; exact hT2 (by omega)
        · exact ⟨⟨hT1 k hkn e 0 (by decide), hT1 k hkn e 1 (by decide), hT1 k hkn e 2 (by decide)⟩, Or.inl (by rw [show y' 11 k = y 11 k from hT1 k hkn e 4 (by decide)]; exact Int32.le_refl _)⟩
      obtain ⟨⟨f0, f1, f2⟩, fw⟩ := fx
      have cK := tc_cl (show k ≤ 1000 by omega)
      have cN := tc_cl (show tc_nc x ≤ 1000 by omega)
      have gK := tc_g2 hkn (show k ≤ 1000 by omega)
      have fin : ∀ K : Option Int32, (if y' 11 k ≤ y 11 k then K else (if y 14 k < 0 then none else (if y' 14 k < 0 then (if 0 ≤ y' 14 k then K else (if y' 11 k = 99 then K else none)) else (if y 13 k ≤ y' 13 k then none else (if 0 ≤ y' 14 k then K else (if y' 11 k = 99 then K else none)))))) = K := fun K => by
        rcases fw with w | ⟨w1, w2, w3⟩
        · rw [if_pos w]
        · have g : (if 0 ≤ y' 14 k then K else (if y' 11 k = 99 then K else none)) = K := by
            rcases w3 with w | w
            · rw [if_pos w]
            · rw [if_pos w]; split <;> rfl
          rw [if_neg w1, g]
          rcases w2 with w | w
          · rw [if_pos w]; split <;> rfl
          · rw [if_neg w]; split
            · rfl
            · split <;> rfl
      by_cases w0 : e' = 0
      · rw [if_pos w0, q0, q1, q2, q4, q6, q7]
        dsimp only [Option.bind_some, tc_let]
        rw [cK, cN, if_pos gK, u0, u1, u2, u4, u6, u7, if_pos f0, if_pos f1, if_pos f2, fin, nI_1, show nI s + 0 = nI s from by rw [show (0 : Int32) = nI 0 from rfl, nI_add]; rfl]
        exact st s (by split at hs <;> split <;> omega)
      · rw [if_neg w0, q0, q1, q2, q4, q6, q7]
        dsimp only [Option.bind_some, tc_let]
        rw [cK, cN, if_pos gK, u0, u1, u2, u4, u6, u7, if_pos f0, if_pos f1, if_pos f2, fin, nI_1, nI_1]
        have ekc : k = c := by
          by_cases e : k = c
          · exact e
          · exact absurd (a2 (same e)) w0
        exact st (s + 1) (by rw [if_neg (show ¬ c < k by omega)] at hs; rw [if_pos (show c < k + 1 by omega)]; omega)
theorem P_283a {pa' lv' : Nat → Nat} {x' : tc_X} {y' : tc_Y} {t' : Nat} (h : tc_Rl pa lv x y) (h' : tc_Rl pa' lv' x' y') (T : tc_T pa x y t pa' x' y' t') (u : Nat → Nat → Int32) (hu : ∀ k, k < tc_nc x → ∀ w, w < 9 → u k w = lk_a9 y k w) (kc : Int32 → Option Int32) (a : Int32) (ha : a = nI 0) : ∃ s, s ≤ 1 ∧ lp_L_law_283 6 (nI (tc_nc x)) u x' kc a a = kc (nI s) := by
  subst ha
  have h5 := h.n5
  have T0 := T
  obtain ⟨-, -, -, -, c, hT1, hT2⟩ := T
  exact P_283 h h' T0 u hu kc 6 0 0 (Nat.zero_le _) (by omega) c ⟨hT1, hT2⟩ (Nat.zero_le _)
theorem P_89a (h : tc_Rl pa lv x y) (kc : (Nat → Int32) → Option Int32) (a : Int32) (ha : a = nI 0) (u : Nat → Int32) : ∃ u', lp_L_law_89 41 x (nI (tc_nb x)) kc a u = kc u' ∧ ∀ b', b' < tc_nb x → u' b' = if pa b' = 17 then 1 else 0 := by
  subst ha
  have := h.n40
  exact P_89 h kc 41 0 u (Nat.zero_le _) (by omega) (fun b' hb' => absurd hb' (Nat.not_lt_zero _))
theorem P_136a (h : tc_Rl pa lv x y) (kc : (Nat → Nat → Int32) → Option Int32) (a : Int32) (ha : a = nI 0) (u : Nat → Nat → Int32) : ∃ u', lp_L_law_136 6 x (nI (tc_nc x)) kc a u = kc u' ∧ ∀ k', k' < tc_nc x → ∀ w, w < 9 → u' k' w = lk_a9 y k' w := by
  subst ha
  have := h.n5
  exact P_136 h kc 6 0 u (Nat.zero_le _) (by omega) (fun k' hk' => absurd hk' (Nat.not_lt_zero _))
theorem P_243a {pa' lv' : Nat → Nat} {x' : tc_X} {y' : tc_Y} (h : tc_Rl pa lv x y) (h' : tc_Rl pa' lv' x' y') (hN : tc_nb x ≤ tc_nb x') (h17 : ∀ b, b < tc_nb x → pa b = 17 → pa' b = 17) (u : Nat → Int32) (hu : ∀ b, b < tc_nb x → u b = if pa b = 17 then 1 else 0) (kc : Option Int32) (a : Int32) (ha : a = nI 0) : lp_L_law_243 41 (nI (tc_nb x)) u x' kc a = kc := by
  subst ha
  have := h.n40
  exact P_243 h h' hN h17 u hu kc 41 0 (Nat.zero_le _) (by omega)
end LKL
