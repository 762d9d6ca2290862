/-! The law's own wharf: how its cells change with the numbers; what it reckons. -/
theorem lk_Jbelow (v : Int32) {n : Nat} (hn : 0 < n) (h1 : n ≤ 1000000) : ∃ j, j < n ∧ f_L_below v (nI n) = some (nI j) := by
  have h0 : (0 : Int32) ≤ v &&& 2147483647 := by
    rw [Int32.le_iff_toInt_le]
    show (0 : Int) ≤ (v &&& 2147483647).toBitVec.toInt
    rw [Int32.toBitVec_and, BitVec.toInt_eq_msb_cond, BitVec.msb_and]
    have : (Int32.toBitVec 2147483647).msb = false := by decide
    rw [this, Bool.and_false, if_neg (by decide)]
    omega
  have hm : v &&& 2147483647 ≤ 2147483647 := by
    rw [Int32.le_iff_toInt_le]
    have := Int32.toInt_lt (v &&& 2147483647)
    show _ ≤ (2147483647 : Int)
    omega
  obtain ⟨u, hu, eu⟩ := tc_nat (n := 2147483647) (by decide) h0 hm
  have ne : ¬ nI n = 0 := fun z => by
    have := (nI_eq (a := n) (b := 0) (by omega) (by omega)).mp z
    omega
  refine ⟨u % n, Nat.mod_lt _ hn, ?_⟩
  unfold f_L_below
  rw [if_pos ne, eu]
  congr 1
  have i1 : ∀ a : Nat, a ≤ 2147483647 → (nI a).toInt = a := fun a ha => nI_toInt (by omega)
  apply Int32.toInt_inj.mp
  rw [i1 (u % n) (by have := Nat.mod_le u n; omega)]
  have bm : ∀ a : Nat, a ≤ 2147483647 → Int.bmod (a : Int) (2 ^ 32) = a := fun a ha => Int.bmod_eq_of_le (by omega) (by omega)
  have hq : u / n ≤ u := Nat.div_le_self u n
  have hm2 : u / n * n ≤ u := Nat.div_mul_le_self u n
  have hr : u % n + u / n * n = u := by rw [Nat.mul_comm]; exact Nat.mod_add_div u n
  have e1 : nI u / nI n = nI (u / n) := by
    apply Int32.toInt_inj.mp
    rw [Int32.toInt_div, i1 u hu, i1 n (by omega), i1 (u / n) (by omega)]
    exact bm (u / n) (by omega)
  have e2 : nI (u / n) * nI n = nI (u / n * n) := by
    apply Int32.toInt_inj.mp
    rw [Int32.toInt_mul, i1 (u / n) (by omega), i1 n (by omega), i1 (u / n * n) (by omega)]
    exact bm (u / n * n) (by omega)
  rw [e1, e2, Int32.toInt_sub, i1 u hu, i1 (u / n * n) (by omega), show (u : Int) - ((u / n * n : Nat) : Int) = ((u % n : Nat) : Int) by omega]
  exact bm (u % n) (by omega)
/-! the cells -/
theorem lk_zs1 {z : tc_Z} {i j : Nat} {v : Int32} : (tc_zs z i j v).1 = z.1 := rfl
theorem lk_zsl {z : tc_Z} {i j k : Nat} {v : Int32} : tc_zl (tc_zs z i j v) k = tc_zl z k := rfl
theorem lk_zsn {z : tc_Z} {i j : Nat} {v : Int32} : tc_zn (tc_zs z i j v) = tc_zn z := rfl
theorem lk_zgs {z : tc_Z} {c : Nat} {v : Int32} : (tc_zg z c v).1 c = v := by
  show upd z.1 c v c = v
  exact pk_us
theorem lk_zgn {z : tc_Z} {c j : Nat} {v : Int32} (h : j ≠ c) : (tc_zg z c v).1 j = z.1 j := by
  show upd z.1 c v j = z.1 j
  unfold upd
  rw [if_neg h]
section LKS
variable {pa lv : Nat → Nat} {N n : Nat} {y : tc_Y} {z : tc_Z}
theorem tc_S.cong (S : tc_S pa lv N n y z) {y' : tc_Y} (h1 : y' 1 0 = y 1 0) (h3 : ∀ b, b < N → y' 3 b = y 3 b) (hk : ∀ k, k < n → ∀ i, i < 8 → y' (7 + i) k = y (7 + i) k) : tc_S pa lv N n y' z := by
  obtain ⟨⟨a1, a2, a3, a4, a5⟩, b, c, d⟩ := S
  exact ⟨⟨a1.trans h1.symm, a2, a3, a4, fun b hb => (a5 b hb).trans (h3 b hb).symm⟩, b, fun k hk' => ⟨(c k hk').1, fun i hi => ((c k hk').2 i hi).trans (hk k hk' i hi).symm⟩, d⟩
/-- a crane's number -/
theorem tc_S.cr (S : tc_S pa lv N n y z) {c i : Nat} (hc : c < n) (hi : i < 8) (v : Int32) : tc_S pa lv N n (tc_ym y (7 + i) c v) (tc_zs z (21 + c) i v) := by
  obtain ⟨⟨a1, a2, a3, a4, a5⟩, b, cc, d⟩ := S
  refine ⟨⟨by rw [lk_zs1, tc_ym_ne (by omega)]; exact a1, a2, a3, a4, fun b hb => by rw [tc_zs_f (by omega), tc_ym_ne (by omega)]; exact a5 b hb⟩, fun p hp => ⟨(b p hp).1, fun b1 hb e => by rw [tc_zs_f (by omega)]; exact (b p hp).2 b1 hb e⟩, fun k hk => ⟨(cc k hk).1, fun i1 hi1 => ?_⟩, fun b1 hb => by rw [tc_zs_f (by omega)]; exact d b1 hb⟩
  by_cases e : k = c
  · subst e
    rw [tc_zs_s]
    by_cases e2 : i1 = i
    · subst e2; rw [tc_ymv]; exact pk_us
    · rw [tc_ym_ne (by omega)]
      exact (if_neg e2).trans ((cc k hk).2 i1 hi1)
  · rw [tc_zs_f (by omega), tc_ymi e]; exact (cc k hk).2 i1 hi1
/-- the ticks -/
theorem tc_S.tk (S : tc_S pa lv N n y z) (v : Int32) : tc_S pa lv N n (tc_ym y 1 0 v) (tc_zg z 0 v) := by
  obtain ⟨⟨a1, a2, a3, a4, a5⟩, b, cc, d⟩ := S
  refine ⟨⟨by rw [tc_ymv]; exact lk_zgs, (lk_zgn (by decide)).trans a2, a3, a4, fun b hb => by rw [tc_ym_ne (by omega)]; exact a5 b hb⟩, b, fun k hk => ⟨(cc k hk).1, fun i hi => by rw [tc_ym_ne (by omega)]; exact (cc k hk).2 i hi⟩, d⟩
/-- a barrel upon a place -/
theorem tc_S.pushP (S : tc_S pa lv N n y z) {b p N' : Nat} (hp : p < 16) (hN : ∀ b', b' < N' → b' ≠ b → b' < N) (hc : ∀ r, r < 16 → tc_cnt (va_up pa b p) N' r = tc_cnt pa N r + (if r = p then 1 else 0)) (hlv : ∀ b', b' < N → pa b' = p → lv b' < tc_cnt pa N p) {z' : tc_Z} (z1 : tc_zl z' (5 + p) = tc_zl z (5 + p) + 1) (z2 : tc_zf z' (5 + p) = tc_wf2 (tc_zl z (5 + p)) (tc_zf z (5 + p)) (nI b)) (z3 : ∀ r, r < 16 → r ≠ p → tc_zl z' (5 + r) = tc_zl z (5 + r) ∧ tc_zf z' (5 + r) = tc_zf z (5 + r)) : ∀ r, r < 16 → tc_zl z' (5 + r) = tc_cnt (va_up pa b p) N' r ∧ ∀ b', b' < N' → va_up pa b p b' = r → tc_zf z' (5 + r) (va_up lv b (tc_cnt pa N p) b') = nI b' := by
  intro r hr
  obtain ⟨-, B, -, -⟩ := S
  rw [hc r hr]
  by_cases e : r = p
  · subst e
    rw [if_pos rfl, z1, z2, (B r hr).1]
    refine ⟨rfl, fun b' hb' e1 => ?_⟩
    by_cases e2 : b' = b
    · subst e2; rw [va_up_self]; exact tc_wf2_n
    · rw [va_up_ne _ _ e2] at e1 ⊢
      have hb2 := hN b' hb' e2
      rw [tc_wf2_lt (hlv b' hb2 e1)]
      exact (B r hr).2 b' hb2 e1
  · rw [if_neg e, (z3 r hr e).1, (z3 r hr e).2]
    refine ⟨(B r hr).1, fun b' hb' e1 => ?_⟩
    by_cases e2 : b' = b
    · subst e2; rw [va_up_self] at e1; exact absurd e1.symm e
    · rw [va_up_ne _ _ e2] at e1 ⊢
      exact (B r hr).2 b' (hN b' hb' e2) e1
theorem tc_S.lay (S : tc_S pa lv N n y z) {b p : Nat} (hp : p < 16) (hb : b < N) (h16 : pa b = 16) (hlv : ∀ b', b' < N → pa b' = p → lv b' < tc_cnt pa N p) : tc_S (va_up pa b p) (va_up lv b (tc_cnt pa N p)) N n y (tc_zR z (5 + p) (tc_zl z (5 + p) + 1) (tc_wf2 (tc_zl z (5 + p)) (tc_zf z (5 + p)) (nI b))) := by
  have hc : ∀ r, r ≠ 16 → tc_cnt (va_up pa b p) N r = tc_cnt pa N r + (if r = p then 1 else 0) := fun r hr => by
    have := tc_cnt_up (pa := pa) (q := p) (p := r) N hb
    rw [h16, if_neg (fun z => hr z.symm)] at this
    rw [Nat.add_zero] at this
    rw [this]
    by_cases e : p = r
    · rw [if_pos e, if_pos e.symm]
    · rw [if_neg e, if_neg (fun z => e z.symm)]
  have P := S.pushP hp (N' := N) (fun _ h _ => h) (fun r hr => hc r (by omega)) hlv (z' := tc_zR z (5 + p) (tc_zl z (5 + p) + 1) (tc_wf2 (tc_zl z (5 + p)) (tc_zf z (5 + p)) (nI b))) tc_zR_ls tc_zR_s (fun r _ hr => ⟨tc_zR_l (by omega), tc_zR_f (by omega)⟩)
  obtain ⟨⟨a1, a2, a3, a4, a5⟩, B, cc, d⟩ := S
  refine ⟨⟨a1, by rw [hc 17 (by decide), if_neg (by omega)]; exact a2, a3, by rw [tc_zR_l (by omega)]; exact a4, fun b' hb' => by rw [tc_zR_f (by omega)]; exact a5 b' hb'⟩, P, fun k hk => ⟨by rw [tc_zR_l (by omega)]; exact (cc k hk).1, fun i hi => by rw [tc_zR_f (by omega)]; exact (cc k hk).2 i hi⟩, fun b' hb' => ?_⟩
  rw [tc_zR_f (by omega), d b' hb']
  by_cases e : b' = b
  · subst e; rw [va_up_self, h16, if_neg (by omega), if_neg (by omega)]
  · rw [va_up_ne _ _ e]
theorem tc_S.land (S : tc_S pa lv N n y z) {p : Nat} (hp : p < 16) (hlv : ∀ b', b' < N → pa b' = p → lv b' < tc_cnt pa N p) {y' : tc_Y} {v : Int32} (h1 : y' 1 0 = y 1 0) (h3 : ∀ b, b < N → y' 3 b = y 3 b) (h3n : y' 3 N = v) (hk : ∀ k, k < n → ∀ i, i < 8 → y' (7 + i) k = y (7 + i) k) {z1 : tc_Z} (ez : z1 = tc_zR z (5 + p) (tc_zl z (5 + p) + 1) (tc_wf2 (tc_zl z (5 + p)) (tc_zf z (5 + p)) (nI N))) : tc_S (va_up pa N p) (va_up lv N (tc_cnt pa N p)) (N + 1) n y' (tc_zR z1 2 (tc_zl z1 2 + 1) (tc_wf2 (tc_zl z1 2) (tc_zf z1 2) v)) := by
  have hc : ∀ r, tc_cnt (va_up pa N p) (N + 1) r = tc_cnt pa N r + (if r = p then 1 else 0) := fun r => by
    show tc_cnt (va_up pa N p) N r + (if va_up pa N p N = r then 1 else 0) = _
    rw [tc_cnt_ge N (Nat.le_refl _), va_up_self]
    by_cases e : p = r
    · rw [if_pos e, if_pos e.symm]
    · rw [if_neg e, if_neg (fun z => e z.symm)]
  have zl2 : tc_zl z1 2 = tc_zl z 2 := by rw [ez]; exact tc_zR_l (by omega)
  have zf2 : tc_zf z1 2 = tc_zf z 2 := by rw [ez]; exact tc_zR_f (by omega)
  have P := S.pushP hp (N' := N + 1) (fun b' h1 h2 => by omega) (fun r _ => hc r) hlv (z' := tc_zR z1 2 (tc_zl z1 2 + 1) (tc_wf2 (tc_zl z1 2) (tc_zf z1 2) v)) (by rw [tc_zR_l (by omega), ez]; exact tc_zR_ls) (by rw [tc_zR_f (by omega), ez]; exact tc_zR_s) (fun r _ hr => ⟨by rw [tc_zR_l (by omega), ez]; exact tc_zR_l (by omega), by rw [tc_zR_f (by omega), ez]; exact tc_zR_f (by omega)⟩)
  obtain ⟨⟨a1, a2, a3, a4, a5⟩, B, cc, d⟩ := S
  have e1 : z1.1 = z.1 := by rw [ez]; rfl
  have en : tc_zn z1 = tc_zn z := by rw [ez]; rfl
  refine ⟨⟨?_, ?_, ?_, by rw [tc_zR_ls, zl2, a4], fun b' hb' => ?_⟩, P, fun k hk' => ⟨?_, fun i hi => ?_⟩, fun b' hb' => ?_⟩
  · show z1.1 0 = _
    rw [e1, h1]; exact a1
  · show z1.1 1 = _
    rw [e1, hc 17, if_neg (by omega)]; exact a2
  · show tc_zn z1 = _
    rw [en]; exact a3
  · rw [tc_zR_s, zl2, zf2, a4]
    by_cases e : b' = N
    · rw [e, h3n]; exact tc_wf2_n
    · rw [tc_wf2_lt (by omega), h3 b' (by omega)]; exact a5 b' (by omega)
  · rw [tc_zR_l (by omega), ez, tc_zR_l (by omega)]; exact (cc k hk').1
  · rw [tc_zR_f (by omega), ez, tc_zR_f (by omega), hk k hk' i hi]; exact (cc k hk').2 i hi
  · rw [tc_zR_f (by omega), ez, tc_zR_f (by omega), d b' hb']
    by_cases e : b' = N
    · rw [e, va_up_self, if_neg (by omega), if_neg (by omega)]
    · rw [va_up_ne _ _ e]
      by_cases e2 : b' < N ∧ pa b' = 17
      · rw [if_pos e2, if_pos ⟨by omega, e2.2⟩]
      · rw [if_neg e2, if_neg (fun z => e2 ⟨by omega, z.2⟩)]
/-- the uppermost barrel away -/
theorem tc_S.take (S : tc_S pa lv N n y z) {t p l : Nat} (hp : p < 16) (ht : t < N) (hpt : pa t = p) (hlt : lv t = l) (hcn : tc_cnt pa N p = l + 1) (hlv : ∀ b', b' < N → pa b' = p → lv b' < tc_cnt pa N p) (hin : ∀ b', b' < N → pa b' = p → lv b' = l → b' = t) : tc_S (va_up pa t 16) lv N n y (tc_zR z (5 + p) (tc_zl z (5 + p) - 1) (tc_wo2 (tc_zl z (5 + p)) (tc_zf z (5 + p)))) := by
  have hc : ∀ r, r ≠ 16 → tc_cnt (va_up pa t 16) N r + (if r = p then 1 else 0) = tc_cnt pa N r := fun r hr => by
    have := tc_cnt_up (pa := pa) (q := 16) (p := r) N ht
    rw [hpt, if_neg (show ¬ 16 = r from fun z => hr z.symm)] at this
    rw [Nat.add_zero] at this
    rw [← this]
    by_cases e : p = r
    · rw [if_pos e, if_pos e.symm]
    · rw [if_neg e, if_neg (fun z => e z.symm)]
  obtain ⟨⟨a1, a2, a3, a4, a5⟩, B, cc, d⟩ := S
  refine ⟨⟨a1, ?_, a3, by rw [tc_zR_l (by omega)]; exact a4, fun b' hb' => by rw [tc_zR_f (by omega)]; exact a5 b' hb'⟩, fun r hr => ?_, fun k hk => ⟨by rw [tc_zR_l (by omega)]; exact (cc k hk).1, fun i hi => by rw [tc_zR_f (by omega)]; exact (cc k hk).2 i hi⟩, fun b' hb' => ?_⟩
  · have := hc 17 (by decide)
    rw [if_neg (by omega), Nat.add_zero] at this
    rw [this]; exact a2
  · have h9 := hc r (by omega)
    by_cases e : r = p
    · subst e
      rw [if_pos rfl] at h9
      rw [tc_zR_ls, tc_zR_s, (B r hr).1]
      refine ⟨by omega, fun b' hb' e1 => ?_⟩
      have e2 : b' ≠ t := fun w => by rw [w, va_up_self] at e1; omega
      rw [va_up_ne _ _ e2] at e1
      have k1 := hlv b' hb' e1
      have k2 : lv b' ≠ l := fun w => e2 (hin b' hb' e1 w)
      rw [tc_wo2_lt (by omega)]
      exact (B r hr).2 b' hb' e1
    · rw [if_neg e, Nat.add_zero] at h9
      rw [tc_zR_l (by omega), tc_zR_f (by omega), h9]
      refine ⟨(B r hr).1, fun b' hb' e1 => ?_⟩
      have e2 : b' ≠ t := fun w => by rw [w, va_up_self] at e1; omega
      rw [va_up_ne _ _ e2] at e1
      exact (B r hr).2 b' hb' e1
  · rw [tc_zR_f (by omega), d b' hb']
    by_cases e : b' = t
    · rw [e, va_up_self, hpt, if_neg (by omega), if_neg (by omega)]
    · rw [va_up_ne _ _ e]
/-- a hanging barrel breaks -/
theorem tc_S.fall (S : tc_S pa lv N n y z) {j : Nat} (hj : j < N) (h16 : pa j = 16) : tc_S (va_up pa j 17) lv N n y (tc_zg (tc_zs z 4 j 1) 1 ((tc_zs z 4 j 1).1 1 + 1)) := by
  have hc : ∀ r, r ≠ 16 → tc_cnt (va_up pa j 17) N r = tc_cnt pa N r + (if r = 17 then 1 else 0) := fun r hr => by
    have := tc_cnt_up (pa := pa) (q := 17) (p := r) N hj
    rw [h16, if_neg (show ¬ 16 = r from fun z => hr z.symm)] at this
    rw [Nat.add_zero] at this
    rw [this]
    by_cases e : 17 = r
    · rw [if_pos e, if_pos e.symm]
    · rw [if_neg e, if_neg (fun z => e z.symm)]
  obtain ⟨⟨a1, a2, a3, a4, a5⟩, B, cc, d⟩ := S
  have zf : ∀ k, k ≠ 4 → tc_zf (tc_zg (tc_zs z 4 j 1) 1 ((tc_zs z 4 j 1).1 1 + 1)) k = tc_zf z k := fun k hk => tc_zs_f hk
  refine ⟨⟨(lk_zgn (by decide)).trans a1, ?_, a3, a4, fun b hb => by rw [zf 2 (by decide)]; exact a5 b hb⟩, fun r hr => ?_, fun k hk => ⟨(cc k hk).1, fun i hi => by rw [zf (21 + k) (by omega)]; exact (cc k hk).2 i hi⟩, fun b hb => ?_⟩
  · refine lk_zgs.trans ?_
    show z.1 1 + 1 = _
    rw [a2, hc 17 (by decide), if_pos rfl, nI_1]
  · have h9 := hc r (by omega)
    rw [if_neg (by omega), Nat.add_zero] at h9
    rw [zf (5 + r) (by omega), h9]
    refine ⟨(B r hr).1, fun b' hb' e1 => ?_⟩
    have e2 : b' ≠ j := fun w => by rw [w, va_up_self] at e1; omega
    rw [va_up_ne _ _ e2] at e1
    exact (B r hr).2 b' hb' e1
  · show tc_zf (tc_zs z 4 j 1) 4 b = _
    rw [tc_zs_s]
    by_cases e : b = j
    · subst e
      rw [va_up_self, if_pos ⟨hj, rfl⟩]; exact pk_us
    · rw [va_up_ne _ _ e]
      exact (if_neg e).trans (d b hb)
/-- one crane more -/
theorem tc_S.crane (S : tc_S pa lv N n y z) {y' : tc_Y} {u : Nat → Int32} (h1 : y' 1 0 = y 1 0) (h3 : ∀ b, b < N → y' 3 b = y 3 b) (hk : ∀ k, k < n → ∀ i, i < 8 → y' (7 + i) k = y (7 + i) k) (hn : ∀ i, i < 8 → u i = y' (7 + i) n) : tc_S pa lv N (n + 1) y' (tc_zC z u) := by
  obtain ⟨⟨a1, a2, a3, a4, a5⟩, B, cc, d⟩ := S
  have a3' : z.2.2.2 = n := a3
  have zf : ∀ k, k ≠ 21 + n → tc_zf (tc_zC z u) k = tc_zf z k := fun k hk => by
    show va_up z.2.2.1 (21 + z.2.2.2) u k = _
    rw [a3', va_up_ne _ _ hk]
  have zl : ∀ k, k ≠ 21 + n → tc_zl (tc_zC z u) k = tc_zl z k := fun k hk => by
    show va_up z.2.1 (21 + z.2.2.2) 8 k = _
    rw [a3', va_up_ne _ _ hk]
  have zfn : tc_zf (tc_zC z u) (21 + n) = u := by
    show va_up z.2.2.1 (21 + z.2.2.2) u (21 + n) = _
    rw [a3', va_up_self]
  have zln : tc_zl (tc_zC z u) (21 + n) = 8 := by
    show va_up z.2.1 (21 + z.2.2.2) 8 (21 + n) = _
    rw [a3', va_up_self]
  refine ⟨⟨a1.trans h1.symm, a2, by show z.2.2.2 + 1 = _; rw [a3'], by rw [zl 2 (by omega)]; exact a4, fun b hb => by rw [zf 2 (by omega), h3 b hb]; exact a5 b hb⟩, fun p hp => ⟨by rw [zl (5 + p) (by omega)]; exact (B p hp).1, fun b hb e => by rw [zf (5 + p) (by omega)]; exact (B p hp).2 b hb e⟩, fun k hk' => ?_, fun b hb => by rw [zf 4 (by omega)]; exact d b hb⟩
  by_cases e : k = n
  · subst e; exact ⟨zln, fun i hi => by rw [zfn]; exact hn i hi⟩
  · have hk9 : k < n := by omega
    exact ⟨by rw [zl (21 + k) (by omega)]; exact (cc k hk9).1, fun i hi => by rw [zf (21 + k) (by omega), hk k hk9 i hi]; exact (cc k hk9).2 i hi⟩
end LKS
