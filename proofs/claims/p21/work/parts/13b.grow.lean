/-! A barrel or a crane more: the world grows. -/
theorem tc_newC {p : Program} {l : Launch} {e : Env} {R : Room} {s : State} {m : MethodId} {args : Array Value} {below : List Frame} {meth : Method} {c : Code} {H : Heap} {locs : List Loc} {cells slots : Nat} {Q : State → Prop} {cc : ByteArray} {pc : Nat} {ls : Array Slot} {rest : List Value} {D : va_G} {cl : List vw_C} {tys : List (ClassId × FieldType)} {A : Nat → Prop} {H0 : Heap} (hexec : p.tables.exec = Jvm.exec) (hb : c.code = cc) {Ts : List Cond} (hts : ∀ w ∈ Ts, w.before args s = true) {own C : String} {T : u_T} {N ci index : Nat} (hin : ∀ w ∈ u_ws C T N, w ∈ Ts) (ty : Nat → FieldType) (hty : ∀ k, k < N → parseFieldDescriptor (T k).2.2.1 = some (ty k)) (hown : s.vm.findClass own = some m.cls) (hcl : (Cond.classLink own index C).before args s = true) (hinst : (Cond.instantiable C N).before args s = true) (hini : (Cond.initialized C).before args s = true)
    (hK : va_K D cl tys s) (hS : va_S A H0 H locs) (hA : ∀ q, H0.size ≤ q → A q) (hc : cl[ci]? = some (C, T, N)) {fs : List Value} (hfs : ∀ j, j < N → defaultValue (ty j) = vp_V fs j) (hcells : cells + 1 ≤ R.cells) (hslots : slots + N ≤ R.slots) (hdg : decode cc pc = .ok (.new index, 3))
    (kk : ∀ (q : Nat) (H1 : Heap), H.size ≤ q → A q → va_at D cl (q, .inr (ci, fs)) H1 → H1.size = H.size + 1 → (∀ z, z < H.size → H1[z]? = H[z]?) → va_S A H0 H1 locs →
      W p l e R s m args below meth c H1 locs (cells + 1) (slots + N) Q (F0 m (pc + 3) ls (.ref q :: rest))) : W p l e R s m args below meth c H locs cells slots Q (F0 m pc ls rest) :=
  tc_new hexec hb hts hin ty hty hown hcl hinst hini hK hS hc hfs hcells hslots hdg (fun H1 e1 z1 o1 hS1 => kk H.size H1 (Nat.le_refl _) (hA _ hS.1) e1 z1 o1 hS1)
section TCG
variable {D : va_G} {cU cO cI : ClassId} {e0 : Nat} {A : Nat → Prop} {E : Nat → Nat} {x : tc_X} {H H1 : Heap}
theorem tc_WC.lt (h : tc_WC D cU cO e0 A E x H) {j : Nat} (hj : tc_lv x j) : E j < H.size := by
  obtain ⟨h0, h1, h2, h3, h4, h5, -⟩ := h
  rcases hj with z | ⟨rfl, z⟩ | ⟨rfl, z⟩ | z | z
  · rcases (show j = 0 ∨ j = 1 ∨ j = 2 ∨ j = 3 by omega) with rfl | rfl | rfl | rfl
    · exact h0.lt
    · exact h1.lt
    · obtain ⟨mo, a1, -⟩ := h2; exact a1.lt
    · obtain ⟨mo, a1, -⟩ := h3; exact a1.lt
  · obtain ⟨mo, cap, f, a1, a2, -⟩ := h2.full z; exact a2.lt
  · obtain ⟨mo, cap, f, a1, a2, -⟩ := h3.full z; exact a2.lt
  · have k := h4 (j - 6) (by omega)
    rw [show 6 + (j - 6) = j by omega] at k
    exact k.lt
  · have k := h5 (j - 46) (by omega)
    rw [show 46 + (j - 46) = j by omega] at k
    exact k.lt
theorem tc_WC.ne (h : tc_WC D cU cO e0 A E x H) {q : Nat} (hq : H.size ≤ q) : ∀ j, tc_lv x j → E j ≠ q := fun j hj z => absurd (h.lt hj) (Nat.not_lt.mpr (by rw [z]; exact hq))
theorem tc_WC.kept2 (h : tc_WC D cU cO e0 A E x H) (o : ∀ j, tc_lv x j → H1[E j]? = H[E j]?) : tc_WC D cU cO e0 A E x H1 := by
  obtain ⟨h0, h1, h2, h3, h4, h5, h6⟩ := h
  exact ⟨h0.kept (o _ (tc_lv.f (by decide))), h1.kept (o _ (tc_lv.f (by decide))), h2.kp (o _ (tc_lv.f (by decide))) (fun z => o _ (Or.inr (Or.inl ⟨rfl, z⟩))), h3.kp (o _ (tc_lv.f (by decide))) (fun z => o _ (Or.inr (Or.inr (Or.inl ⟨rfl, z⟩)))), fun b hb => (h4 b hb).kept (o _ (tc_lv.b hb)), fun k hk => (h5 k hk).kept (o _ (tc_lv.c hk)), h6⟩
theorem tc_AnyO {s : State} {tys : List (ClassId × FieldType)} {q ci : Nat} {fs : List Value} {r : vw_C} (hK : va_K D vwCl tys s) (he : va_at D vwCl (q, .inr (ci, fs)) H) (hc : vwCl[ci]? = some r) (hca : va_Nw (.castable r.1 "java/lang/Object") s) : va_Any "java/lang/Object" s H q :=
  va_rAny hK (tc_p1 he) (q0 := 0) rfl hc (fun comp c0 h1 h2 => vb_asgC hca comp c0 h1 h2)
theorem tc_LWof {s : State} {locs : List Loc} {ko kd kb n : Nat} (hKX : tc_KX D cU cO cI e0 A s) (hS : va_S A s.heap H locs) (hL : tc_Li D cO e0 E ko kd kb n H) (hn : n ≤ 40) (owna : A (E ko)) (ownd : 0 < n → A (E kd)) (hne : 0 < n → E ko ≠ E kd) (he0 : ¬ A e0) (hel : ∀ i, i < n → E (kb + i) ≠ E ko ∧ E (kb + i) ≠ E kd ∧ va_Any "java/lang/Object" s H (E (kb + i))) :
    ∃ (mo : Int32) (mi cap : Nat) (f : Nat → Option Nat), n ≤ cap ∧ cap ≤ 1000 ∧ (0 < cap → 0 < n) ∧ (∀ i, i < n → f i = some (E (kb + i))) ∧ (∀ z, tc_LA (E ko) (E kd) cap H.size z → A z) ∧ va_at D vwCl (E ko, .inr (0, [.int mo, .ref (E kd), .int (nI n)])) H ∧ ∀ U : State, U.heap = H → s.WarmedH U.vm → tc_LW D cO e0 mi H.size (E ko) mo (E kd) (nI n) cap f U := by
  obtain ⟨mo, a1, a2⟩ := hL
  have hmi := hKX.2.2.2.2.2.2.2.2.2.2.2.1
  obtain ⟨mi, hmi⟩ := hmi
  have hsz : ∀ q, H.size ≤ q → A q := fun q hq => hKX.2.1 q (Nat.le_trans hS.1 hq)
  rcases a2 with ⟨z, ze⟩ | ⟨z, cap, f, b1, b2, b3, b4, b5⟩
  · subst z
    have hLA : ∀ z, tc_LA (E ko) (E kd) 0 H.size z → A z := fun z hz => by
      rcases hz with w | w | w
      · rw [w]; exact owna
      · exact absurd w.2 (by decide)
      · exact hsz z w
    refine ⟨mo, mi, 0, fun _ => none, Nat.le_refl _, by decide, fun w => w, fun i hi => absurd hi (Nat.not_lt_zero _), hLA, a1, fun U hU hW9 => ?_⟩
    have k := hKX.go hS hU hW9
    subst hU
    refine ⟨rfl, a1, k.1.1.sub [1] rfl, va_Mi.moved hW9.alike hmi, k.2.2.2.2.2.2.2.2.2.2.2.2.2.1, k.2.2.2.2.2.2.2.2.2.2.2.2.1, k.2.2.2.2.1.narrow hLA, fun w => he0 (by rw [← ze, ← w]; exact owna), Or.inl ⟨rfl, ze, k.2.2.2.2.2.2.2.2.2.2.1.narrow hLA⟩⟩
  · have hLA : ∀ z, tc_LA (E ko) (E kd) cap H.size z → A z := fun w hz => by
      rcases hz with w | w | w
      · rw [w]; exact owna
      · rw [w.1]; exact ownd z
      · exact hsz _ w
    refine ⟨mo, mi, cap, f, b2, b3, fun _ => z, b4, hLA, a1, fun U hU hW9 => ?_⟩
    have k := hKX.go hS hU hW9
    subst hU
    refine ⟨rfl, a1, k.1.1.sub [1] rfl, va_Mi.moved hW9.alike hmi, k.2.2.2.2.2.2.2.2.2.2.2.2.2.1, k.2.2.2.2.2.2.2.2.2.2.2.2.1, k.2.2.2.2.1.narrow hLA, hne z, Or.inr ⟨b5, b1, fun hv i y hi hy => ?_⟩⟩
    have hnc : n = cap := (nI_eq (by omega) (by omega)).mp hv
    have hy2 := b4 i (by omega)
    have e1 : y = E (kb + i) := Option.some.inj (hy.symm.trans hy2)
    obtain ⟨c1, c2, c3⟩ := hel i (by omega)
    rw [e1]
    exact ⟨c1, c2, tc_AnyM hW9.alike c3 rfl⟩
theorem tc_LWofB {s : State} {locs : List Loc} (hKX : tc_KX D cU cO cI e0 A s) (hS : va_S A s.heap H locs) (h : tc_WC D cU cO e0 A E x H) :
    ∃ (mo : Int32) (mi cap : Nat) (f : Nat → Option Nat), tc_nb x ≤ cap ∧ cap ≤ 1000 ∧ (0 < cap → 0 < tc_nb x) ∧ (∀ i, i < tc_nb x → f i = some (E (6 + i))) ∧ (∀ z, tc_LA (E 2) (E 4) cap H.size z → A z) ∧ va_at D vwCl (E 2, .inr (0, [.int mo, .ref (E 4), .int (nI (tc_nb x))])) H ∧ ∀ U : State, U.heap = H → s.WarmedH U.vm → tc_LW D cO e0 mi H.size (E 2) mo (E 4) (nI (tc_nb x)) cap f U :=
  tc_LWof hKX hS h.2.2.1 h.2.2.2.2.2.2.2.2.2.1 (h.own (tc_lv.f (by decide))) (fun z => h.own (Or.inr (Or.inl ⟨rfl, z⟩))) (fun z w => absurd (h.inj (tc_lv.f (by decide)) (Or.inr (Or.inl ⟨rfl, z⟩)) w) (by decide)) h.2.2.2.2.2.2.2.2.1
    (fun i hi => ⟨fun w => absurd (h.inj (tc_lv.b hi) (tc_lv.f (by decide)) w) (by omega), fun w => absurd (h.inj (tc_lv.b hi) (Or.inr (Or.inl ⟨rfl, Nat.lt_of_le_of_lt (Nat.zero_le _) hi⟩)) w) (by omega), tc_AnyO hKX.1.1 (h.b hi) rfl hKX.2.2.2.2.2.2.2.2.2.2.2.2.2.2.2.1⟩)
theorem tc_LWofC {s : State} {locs : List Loc} (hKX : tc_KX D cU cO cI e0 A s) (hS : va_S A s.heap H locs) (h : tc_WC D cU cO e0 A E x H) :
    ∃ (mo : Int32) (mi cap : Nat) (f : Nat → Option Nat), tc_nc x ≤ cap ∧ cap ≤ 1000 ∧ (0 < cap → 0 < tc_nc x) ∧ (∀ i, i < tc_nc x → f i = some (E (46 + i))) ∧ (∀ z, tc_LA (E 3) (E 5) cap H.size z → A z) ∧ va_at D vwCl (E 3, .inr (0, [.int mo, .ref (E 5), .int (nI (tc_nc x))])) H ∧ ∀ U : State, U.heap = H → s.WarmedH U.vm → tc_LW D cO e0 mi H.size (E 3) mo (E 5) (nI (tc_nc x)) cap f U :=
  tc_LWof hKX hS h.2.2.2.1 (Nat.le_trans h.2.2.2.2.2.2.2.2.2.2 (by decide)) (h.own (tc_lv.f (by decide))) (fun z => h.own (Or.inr (Or.inr (Or.inl ⟨rfl, z⟩)))) (fun z w => absurd (h.inj (tc_lv.f (by decide)) (Or.inr (Or.inr (Or.inl ⟨rfl, z⟩))) w) (by decide)) h.2.2.2.2.2.2.2.2.1
    (fun i hi => ⟨fun w => absurd (h.inj (tc_lv.c hi) (tc_lv.f (by decide)) w) (by omega), fun w => absurd (h.inj (tc_lv.c hi) (Or.inr (Or.inr (Or.inl ⟨rfl, Nat.lt_of_le_of_lt (Nat.zero_le _) hi⟩))) w) (by omega), tc_AnyO hKX.1.1 (h.c hi) rfl hKX.2.2.2.2.2.2.2.2.2.2.2.2.2.2.2.2⟩)
def tc_nB (x : tc_X) (n w : Int32) : tc_X := (fun c i => if i = tc_nb x ∧ 10 ≤ c ∧ c ≤ 15 then (if c = 10 then n else if c = 11 then w else if c = 12 then -1 else if c = 13 then 0 else if c = 14 then -1 else 0) else x.1 c i, fun c i => if c = 1 ∧ i = tc_nb x then none else x.2.1 c i, tc_nb x + 1, tc_nc x)
def tc_nC (x : tc_X) (a1 a2 a3 a4 : Int32) : tc_X := (fun c i => if i = tc_nc x ∧ 20 ≤ c ∧ c ≤ 26 then (if c = 20 then a1 else if c = 21 then a2 else if c = 22 then a3 else if c = 23 then a4 else if c = 24 then 0 else if c = 25 then a1 else 10) else x.1 c i, fun c i => if c = 2 ∧ i = tc_nc x then none else x.2.1 c i, tc_nb x, tc_nc x + 1)
def tc_wf (x : tc_X) : Prop := (∀ p j, x.2.1 0 p = some j → j < tc_nb x) ∧ (∀ b j, b < tc_nb x → x.2.1 1 b = some j → j < tc_nb x) ∧ (∀ k j, k < tc_nc x → x.2.1 2 k = some j → j < tc_nb x)
def tc_E2 (E : Nat → Nat) (kd kn d q : Nat) : Nat → Nat := fun k => if k = kd then d else if k = kn then q else E k
theorem tc_E2d {kd kn d q : Nat} : tc_E2 E kd kn d q kd = d := if_pos rfl
theorem tc_E2n {kd kn d q : Nat} (h : kn ≠ kd) : tc_E2 E kd kn d q kn = q := by unfold tc_E2; rw [if_neg h, if_pos rfl]
theorem tc_E2o {kd kn d q k : Nat} (h : k ≠ kd) (h2 : k ≠ kn) : tc_E2 E kd kn d q k = E k := by unfold tc_E2; rw [if_neg h, if_neg h2]
theorem tc_E2i {P P' : Nat → Prop} {kd kn d q : Nat} (hkn : kn ≠ kd) (hP : ∀ i, P' i → i ≠ kd → i ≠ kn → P i) (inj : ∀ i j, P i → P j → E i = E j → i = j) (hd : ∀ i, P i → i ≠ kd → E i ≠ d) (hq : ∀ i, P i → E i ≠ q) (hdq : d ≠ q) : ∀ i j, P' i → P' j → tc_E2 E kd kn d q i = tc_E2 E kd kn d q j → i = j := by
  intro i j hi hj e
  by_cases i1 : i = kd
  · by_cases j1 : j = kd
    · rw [i1, j1]
    · by_cases j2 : j = kn
      · rw [i1, j2, tc_E2d, tc_E2n hkn] at e; exact absurd e hdq
      · rw [i1, tc_E2d, tc_E2o j1 j2] at e; exact absurd e.symm (hd j (hP j hj j1 j2) j1)
  · by_cases i2 : i = kn
    · by_cases j1 : j = kd
      · rw [i2, j1, tc_E2d, tc_E2n hkn] at e; exact absurd e.symm hdq
      · by_cases j2 : j = kn
        · rw [i2, j2]
        · rw [i2, tc_E2n hkn, tc_E2o j1 j2] at e; exact absurd e.symm (hq j (hP j hj j1 j2))
    · by_cases j1 : j = kd
      · rw [j1, tc_E2d, tc_E2o i1 i2] at e; exact absurd e (hd i (hP i hi i1 i2) i1)
      · by_cases j2 : j = kn
        · rw [j2, tc_E2n hkn, tc_E2o i1 i2] at e; exact absurd e (hq i (hP i hi i1 i2))
        · rw [tc_E2o i1 i2, tc_E2o j1 j2] at e; exact inj i j (hP i hi i1 i2) (hP j hj j1 j2) e
theorem tc_Li.eE {E' : Nat → Nat} {ko kd kb n : Nat} (h : tc_Li D cO e0 E ko kd kb n H) (h1 : E' ko = E ko) (h2 : E' kd = E kd) (h3 : ∀ i, i < n → E' (kb + i) = E (kb + i)) : tc_Li D cO e0 E' ko kd kb n H := by
  obtain ⟨mo, a1, a2⟩ := h
  refine ⟨mo, by rw [h1, h2]; exact a1, ?_⟩
  rcases a2 with ⟨z, ze⟩ | ⟨z, cap, f, b1, b2, b3, b4, b5⟩
  · exact Or.inl ⟨z, by rw [h2]; exact ze⟩
  · exact Or.inr ⟨z, cap, f, by rw [h2]; exact b1, b2, b3, fun i hi => by rw [h3 i hi]; exact b4 i hi, b5⟩
theorem tc_adE {E' : Nat → Nat} {k : Nat} {o : Option Nat} (h : ∀ j, o = some j → E' (k + j) = E (k + j)) : tc_ad E' k o = tc_ad E k o := by
  cases o with
  | none => rfl
  | some j => show some (E' (k + j)) = some (E (k + j)); rw [h j rfl]
theorem tc_addedB {q d' cap' cap : Nat} {f f' : Nat → Option Nat} {mo n w : Int32} (h : tc_WC D cU cO e0 A E x H) (hwf : tc_wf x) (hnb : tc_nb x < 40) (hA : ∀ z, H.size ≤ z → A z) (hAq : A q) (hqn : ∀ j, tc_lv x j → E j ≠ q) (hqH : va_at D vwCl (q, .inr (1, [.int n, .int w, .int (-1), .int 0, .null, .int (-1), .int 0])) H) (hq4 : q ≠ E 4) (hf : ∀ i, i < tc_nb x → f i = some (E (6 + i))) (hcap : 0 < cap → 0 < tc_nb x)
    (r1 : va_at D vwCl (E 2, .inr (0, [.int mo, .ref d', .int (nI (tc_nb x + 1))])) H1) (r2 : va_at D vwCl (d', .inl (cO, cap', .inr (.inr (.inr (.inr f'))))) H1) (r3 : tc_nb x + 1 ≤ cap') (r4 : 10 ≤ cap') (r5 : cap' ≤ 1000) (r6 : ∀ i, i < tc_nb x → f' i = f i) (r7 : f' (tc_nb x) = some q) (r8 : (d' = E 4 ∧ 10 ≤ cap) ∨ H.size ≤ d')
    (o : ∀ z : Nat, z < H.size → ¬ tc_LA (E 2) (E 4) cap H.size z → H1[z]? = H[z]?) : ∃ E' : Nat → Nat, E' 0 = E 0 ∧ E' (6 + tc_nb x) = q ∧ tc_WC D cU cO e0 A E' (tc_nB x n w) H1 := by
  have hqlt := hqH.lt
  have k4 : 6 + tc_nb x ≠ 4 := by omega
  have eo : ∀ k, k ≠ 4 → k ≠ 6 + tc_nb x → tc_E2 E 4 (6 + tc_nb x) d' q k = E k := fun k h1 h2 => tc_E2o h1 h2
  have kp : ∀ j, tc_lv x j → j ≠ 2 → j ≠ 4 → H1[E j]? = H[E j]? := fun j hj n2 n4 => o _ (h.lt hj) (fun z => by
    rcases z with z | z | z
    · exact n2 (h.inj hj (tc_lv.f (by decide)) z)
    · exact n4 (h.inj hj (Or.inr (Or.inl ⟨rfl, hcap z.2⟩)) z.1)
    · exact absurd (h.lt hj) (Nat.not_lt.mpr z))
  have kq : H1[q]? = H[q]? := o _ hqlt (fun z => by
    rcases z with z | z | z
    · exact hqn 2 (tc_lv.f (by decide)) z.symm
    · exact hq4 z.1
    · exact absurd hqlt (Nat.not_lt.mpr z))
  have hd : ∀ i, tc_lv x i → i ≠ 4 → E i ≠ d' := fun i hi hn z => by
    rcases r8 with w | w
    · exact hn (h.inj hi (Or.inr (Or.inl ⟨rfl, hcap (by omega)⟩)) (z.trans w.1))
    · exact absurd (h.lt hi) (Nat.not_lt.mpr (by rw [z]; exact w))
  have hdq : d' ≠ q := fun z => by
    rcases r8 with w | w
    · exact hq4 (z.symm.trans w.1)
    · exact absurd hqlt (Nat.not_lt.mpr (by rw [← z]; exact w))
  have lvx : ∀ i, tc_lv (tc_nB x n w) i → i ≠ 4 → i ≠ 6 + tc_nb x → tc_lv x i := fun i hi h1 h2 => by
    rcases hi with z | ⟨z, _⟩ | ⟨z, z2⟩ | ⟨z, z2⟩ | z
    · exact Or.inl z
    · exact absurd z h1
    · exact Or.inr (Or.inr (Or.inl ⟨z, z2⟩))
    · exact Or.inr (Or.inr (Or.inr (Or.inl ⟨z, by have z3 : i < 6 + (tc_nb x + 1) := z2; omega⟩)))
    · exact Or.inr (Or.inr (Or.inr (Or.inr z)))
  obtain ⟨w1, w2, w3⟩ := hwf
  refine ⟨tc_E2 E 4 (6 + tc_nb x) d' q, eo 0 (by decide) (by omega), tc_E2n k4, ?_, ?_, ⟨mo, ?_, Or.inr ⟨Nat.succ_pos _, cap', f', ?_, r3, r5, fun i hi => ?_, r4⟩⟩, ?_, fun b hb => ?_, fun k hk => ?_, ?_, fun i hi => ?_, h.2.2.2.2.2.2.2.2.1, ?_, h.2.2.2.2.2.2.2.2.2.2⟩
  · have z : tc_cO (tc_E2 E 4 (6 + tc_nb x) d' q) (tc_nB x n w) = tc_cO E x := by
      unfold tc_cO
      rw [eo 1 (by decide) (by omega), eo 2 (by decide) (by omega), eo 3 (by decide) (by omega)]
      show Sum.inr (3, [Value.ref (E 1), .ref (E 2), .ref (E 3), .int (if 0 = tc_nb x ∧ 10 ≤ 0 ∧ 0 ≤ 15 then _ else x.1 0 0)]) = _
      rw [if_neg (by omega)]
    rw [eo 0 (by decide) (by omega), z]
    exact h.o.kept (kp 0 (tc_lv.f (by decide)) (by decide) (by decide))
  · have z : tc_cU cU (tc_E2 E 4 (6 + tc_nb x) d' q) (tc_nB x n w) = tc_cU cU E x := by
      unfold tc_cU
      have z2 : (fun p => tc_ad (tc_E2 E 4 (6 + tc_nb x) d' q) 6 ((tc_nB x n w).2.1 0 p)) = (fun p => tc_ad E 6 (x.2.1 0 p)) := by
        funext p
        have z3 : (tc_nB x n w).2.1 0 p = x.2.1 0 p := rfl
        rw [z3]
        exact tc_adE (fun j hj => eo _ (by omega) (by have := w1 p j hj; omega))
      rw [z2]
    rw [eo 1 (by decide) (by omega), z]
    exact h.u.kept (kp 1 (tc_lv.f (by decide)) (by decide) (by decide))
  · rw [eo 2 (by decide) (by omega), tc_E2d]; exact r1
  · rw [tc_E2d]; exact r2
  · have hi2 : i < tc_nb x + 1 := hi
    by_cases e : i = tc_nb x
    · rw [e, tc_E2n k4]; exact r7
    · rw [eo _ (by omega) (by omega), r6 i (by omega)]; exact hf i (by omega)
  · show tc_Li D cO e0 _ 3 5 46 (tc_nc x) H1
    refine (h.2.2.2.1.kp (kp 3 (tc_lv.f (by decide)) (by decide) (by decide)) (fun z => kp 5 (Or.inr (Or.inr (Or.inl ⟨rfl, z⟩))) (by decide) (by decide))).eE (eo 3 (by decide) (by omega)) (eo 5 (by decide) (by omega)) (fun i _ => eo _ (by omega) (by omega))
  · have hb2 : b < tc_nb x + 1 := hb
    by_cases e : b = tc_nb x
    · subst e
      have z : tc_cB (tc_E2 E 4 (6 + tc_nb x) d' q) (tc_nB x n w) (tc_nb x) = .inr (1, [.int n, .int w, .int (-1), .int 0, .null, .int (-1), .int 0]) := by
        unfold tc_cB
        have i0 : ∀ c, 10 ≤ c → c ≤ 15 → (tc_nB x n w).1 c (tc_nb x) = (if c = 10 then n else if c = 11 then w else if c = 12 then -1 else if c = 13 then 0 else if c = 14 then -1 else 0) := fun c h1 h2 => if_pos ⟨rfl, h1, h2⟩
        have i1 : (tc_nB x n w).2.1 1 (tc_nb x) = none := if_pos ⟨rfl, rfl⟩
        rw [i0 10 (by decide) (by decide), i0 11 (by decide) (by decide), i0 12 (by decide) (by decide), i0 13 (by decide) (by decide), i0 14 (by decide) (by decide), i0 15 (by decide) (by decide), i1]
        rfl
      rw [tc_E2n k4, z]
      exact hqH.kept kq
    · have hb3 : b < tc_nb x := by omega
      have z : tc_cB (tc_E2 E 4 (6 + tc_nb x) d' q) (tc_nB x n w) b = tc_cB E x b := by
        unfold tc_cB
        have i0 : ∀ c, (tc_nB x n w).1 c b = x.1 c b := fun c => if_neg (fun z => e z.1)
        have i1 : (tc_nB x n w).2.1 1 b = x.2.1 1 b := if_neg (fun z => e z.2)
        rw [i0, i0, i0, i0, i0, i0, i1, tc_adE (fun j hj => eo _ (by omega) (by have := w2 b j hb3 hj; omega))]
      rw [eo _ (by omega) (by omega), z]
      exact (h.b hb3).kept (kp _ (tc_lv.b hb3) (by omega) (by omega))
  · have hk2 : k < tc_nc x := hk
    have z : tc_cC (tc_E2 E 4 (6 + tc_nb x) d' q) (tc_nB x n w) k = tc_cC E x k := by
      unfold tc_cC
      have i0 : ∀ c, 20 ≤ c → (tc_nB x n w).1 c k = x.1 c k := fun c hc => if_neg (by omega)
      have i1 : (tc_nB x n w).2.1 2 k = x.2.1 2 k := rfl
      rw [i0 20 (by decide), i0 21 (by decide), i0 22 (by decide), i0 23 (by decide), i0 24 (by decide), i0 25 (by decide), i0 26 (by decide), i1, tc_adE (fun j hj => eo _ (by omega) (by have := w3 k j hk2 hj; omega))]
    rw [eo _ (by omega) (by omega), z]
    exact (h.c hk2).kept (kp _ (tc_lv.c hk2) (by omega) (by omega))
  · exact tc_E2i k4 lvx (fun i j hi hj => h.inj hi hj) hd hqn hdq
  · by_cases i1 : i = 4
    · rw [i1, tc_E2d]
      rcases r8 with w | w
      · rw [w.1]; exact h.own (Or.inr (Or.inl ⟨rfl, hcap (by omega)⟩))
      · exact hA _ w
    · by_cases i2 : i = 6 + tc_nb x
      · rw [i2, tc_E2n k4]; exact hAq
      · rw [eo i i1 i2]; exact h.own (lvx i hi i1 i2)
  · show tc_nb x + 1 ≤ 40
    omega
theorem tc_addedC {q d' cap' cap : Nat} {f f' : Nat → Option Nat} {mo a1 a2 a3 a4 : Int32} (h : tc_WC D cU cO e0 A E x H) (hwf : tc_wf x) (hnc : tc_nc x < 5) (hA : ∀ z, H.size ≤ z → A z) (hAq : A q) (hqn : ∀ j, tc_lv x j → E j ≠ q) (hqH : va_at D vwCl (q, .inr (2, [.int a1, .int a2, .int a3, .int a4, .int 0, .int a1, .int 10, .null])) H) (hq4 : q ≠ E 5) (hf : ∀ i, i < tc_nc x → f i = some (E (46 + i))) (hcap : 0 < cap → 0 < tc_nc x)
    (r1 : va_at D vwCl (E 3, .inr (0, [.int mo, .ref d', .int (nI (tc_nc x + 1))])) H1) (r2 : va_at D vwCl (d', .inl (cO, cap', .inr (.inr (.inr (.inr f'))))) H1) (r3 : tc_nc x + 1 ≤ cap') (r4 : 10 ≤ cap') (r5 : cap' ≤ 1000) (r6 : ∀ i, i < tc_nc x → f' i = f i) (r7 : f' (tc_nc x) = some q) (r8 : (d' = E 5 ∧ 10 ≤ cap) ∨ H.size ≤ d')
    (o : ∀ z : Nat, z < H.size → ¬ tc_LA (E 3) (E 5) cap H.size z → H1[z]? = H[z]?) : ∃ E' : Nat → Nat, E' 0 = E 0 ∧ E' (46 + tc_nc x) = q ∧ tc_WC D cU cO e0 A E' (tc_nC x a1 a2 a3 a4) H1 := by
  have hqlt := hqH.lt
  have hnb := h.2.2.2.2.2.2.2.2.2.1
  have k4 : 46 + tc_nc x ≠ 5 := by omega
  have eo : ∀ k, k ≠ 5 → k ≠ 46 + tc_nc x → tc_E2 E 5 (46 + tc_nc x) d' q k = E k := fun k h1 h2 => tc_E2o h1 h2
  have kp : ∀ j, tc_lv x j → j ≠ 3 → j ≠ 5 → H1[E j]? = H[E j]? := fun j hj n2 n4 => o _ (h.lt hj) (fun z => by
    rcases z with z | z | z
    · exact n2 (h.inj hj (tc_lv.f (by decide)) z)
    · exact n4 (h.inj hj (Or.inr (Or.inr (Or.inl ⟨rfl, hcap z.2⟩))) z.1)
    · exact absurd (h.lt hj) (Nat.not_lt.mpr z))
  have kq : H1[q]? = H[q]? := o _ hqlt (fun z => by
    rcases z with z | z | z
    · exact hqn 3 (tc_lv.f (by decide)) z.symm
    · exact hq4 z.1
    · exact absurd hqlt (Nat.not_lt.mpr z))
  have hd : ∀ i, tc_lv x i → i ≠ 5 → E i ≠ d' := fun i hi hn z => by
    rcases r8 with w | w
    · exact hn (h.inj hi (Or.inr (Or.inr (Or.inl ⟨rfl, hcap (by omega)⟩))) (z.trans w.1))
    · exact absurd (h.lt hi) (Nat.not_lt.mpr (by rw [z]; exact w))
  have hdq : d' ≠ q := fun z => by
    rcases r8 with w | w
    · exact hq4 (z.symm.trans w.1)
    · exact absurd hqlt (Nat.not_lt.mpr (by rw [← z]; exact w))
  have lvx : ∀ i, tc_lv (tc_nC x a1 a2 a3 a4) i → i ≠ 5 → i ≠ 46 + tc_nc x → tc_lv x i := fun i hi h1 h2 => by
    rcases hi with z | z | ⟨z, z2⟩ | z | ⟨z, z2⟩
    · exact Or.inl z
    · exact Or.inr (Or.inl z)
    · exact absurd z h1
    · exact Or.inr (Or.inr (Or.inr (Or.inl z)))
    · exact Or.inr (Or.inr (Or.inr (Or.inr ⟨z, by have z3 : i < 46 + (tc_nc x + 1) := z2; omega⟩)))
  obtain ⟨w1, w2, w3⟩ := hwf
  refine ⟨tc_E2 E 5 (46 + tc_nc x) d' q, eo 0 (by decide) (by omega), tc_E2n k4, ?_, ?_, ?_, ⟨mo, ?_, Or.inr ⟨Nat.succ_pos _, cap', f', ?_, r3, r5, fun i hi => ?_, r4⟩⟩, fun b hb => ?_, fun k hk => ?_, ?_, fun i hi => ?_, h.2.2.2.2.2.2.2.2.1, hnb, ?_⟩
  · have z : tc_cO (tc_E2 E 5 (46 + tc_nc x) d' q) (tc_nC x a1 a2 a3 a4) = tc_cO E x := by
      unfold tc_cO
      rw [eo 1 (by decide) (by omega), eo 2 (by decide) (by omega), eo 3 (by decide) (by omega)]
      show Sum.inr (3, [Value.ref (E 1), .ref (E 2), .ref (E 3), .int (if 0 = tc_nc x ∧ 20 ≤ 0 ∧ 0 ≤ 26 then _ else x.1 0 0)]) = _
      rw [if_neg (by omega)]
    rw [eo 0 (by decide) (by omega), z]
    exact h.o.kept (kp 0 (tc_lv.f (by decide)) (by decide) (by decide))
  · have z : tc_cU cU (tc_E2 E 5 (46 + tc_nc x) d' q) (tc_nC x a1 a2 a3 a4) = tc_cU cU E x := by
      unfold tc_cU
      have z2 : (fun p => tc_ad (tc_E2 E 5 (46 + tc_nc x) d' q) 6 ((tc_nC x a1 a2 a3 a4).2.1 0 p)) = (fun p => tc_ad E 6 (x.2.1 0 p)) := by
        funext p
        have z3 : (tc_nC x a1 a2 a3 a4).2.1 0 p = x.2.1 0 p := rfl
        rw [z3]
        exact tc_adE (fun j hj => eo _ (by omega) (by have := w1 p j hj; omega))
      rw [z2]
    rw [eo 1 (by decide) (by omega), z]
    exact h.u.kept (kp 1 (tc_lv.f (by decide)) (by decide) (by decide))
  · show tc_Li D cO e0 _ 2 4 6 (tc_nb x) H1
    refine (h.2.2.1.kp (kp 2 (tc_lv.f (by decide)) (by decide) (by decide)) (fun z => kp 4 (Or.inr (Or.inl ⟨rfl, z⟩)) (by decide) (by decide))).eE (eo 2 (by decide) (by omega)) (eo 4 (by decide) (by omega)) (fun i _ => eo _ (by omega) (by omega))
  · rw [eo 3 (by decide) (by omega), tc_E2d]; exact r1
  · rw [tc_E2d]; exact r2
  · have hi2 : i < tc_nc x + 1 := hi
    by_cases e : i = tc_nc x
    · rw [e, tc_E2n k4]; exact r7
    · rw [eo _ (by omega) (by omega), r6 i (by omega)]; exact hf i (by omega)
  · have hb2 : b < tc_nb x := hb
    have z : tc_cB (tc_E2 E 5 (46 + tc_nc x) d' q) (tc_nC x a1 a2 a3 a4) b = tc_cB E x b := by
      unfold tc_cB
      have i0 : ∀ c, c ≤ 15 → (tc_nC x a1 a2 a3 a4).1 c b = x.1 c b := fun c hc => if_neg (by omega)
      have i1 : (tc_nC x a1 a2 a3 a4).2.1 1 b = x.2.1 1 b := rfl
      rw [i0 10 (by decide), i0 11 (by decide), i0 12 (by decide), i0 13 (by decide), i0 14 (by decide), i0 15 (by decide), i1, tc_adE (fun j hj => eo _ (by omega) (by have := w2 b j hb2 hj; omega))]
    rw [eo _ (by omega) (by omega), z]
    exact (h.b hb2).kept (kp _ (tc_lv.b hb2) (by omega) (by omega))
  · have hk2 : k < tc_nc x + 1 := hk
    by_cases e : k = tc_nc x
    · subst e
      have z : tc_cC (tc_E2 E 5 (46 + tc_nc x) d' q) (tc_nC x a1 a2 a3 a4) (tc_nc x) = .inr (2, [.int a1, .int a2, .int a3, .int a4, .int 0, .int a1, .int 10, .null]) := by
        unfold tc_cC
        have i0 : ∀ c, 20 ≤ c → c ≤ 26 → (tc_nC x a1 a2 a3 a4).1 c (tc_nc x) = (if c = 20 then a1 else if c = 21 then a2 else if c = 22 then a3 else if c = 23 then a4 else if c = 24 then 0 else if c = 25 then a1 else 10) := fun c h1 h2 => if_pos ⟨rfl, h1, h2⟩
        have i1 : (tc_nC x a1 a2 a3 a4).2.1 2 (tc_nc x) = none := if_pos ⟨rfl, rfl⟩
        rw [i0 20 (by decide) (by decide), i0 21 (by decide) (by decide), i0 22 (by decide) (by decide), i0 23 (by decide) (by decide), i0 24 (by decide) (by decide), i0 25 (by decide) (by decide), i0 26 (by decide) (by decide), i1]
        rfl
      rw [tc_E2n k4, z]
      exact hqH.kept kq
    · have hk3 : k < tc_nc x := by omega
      have z : tc_cC (tc_E2 E 5 (46 + tc_nc x) d' q) (tc_nC x a1 a2 a3 a4) k = tc_cC E x k := by
        unfold tc_cC
        have i0 : ∀ c, (tc_nC x a1 a2 a3 a4).1 c k = x.1 c k := fun c => if_neg (fun z => e z.1)
        have i1 : (tc_nC x a1 a2 a3 a4).2.1 2 k = x.2.1 2 k := if_neg (fun z => e z.2)
        rw [i0, i0, i0, i0, i0, i0, i0, i1, tc_adE (fun j hj => eo _ (by omega) (by have := w3 k j hk3 hj; omega))]
      rw [eo _ (by omega) (by omega), z]
      exact (h.c hk3).kept (kp _ (tc_lv.c hk3) (by omega) (by omega))
  · exact tc_E2i k4 lvx (fun i j hi hj => h.inj hi hj) hd hqn hdq
  · by_cases i1 : i = 5
    · rw [i1, tc_E2d]
      rcases r8 with w | w
      · rw [w.1]; exact h.own (Or.inr (Or.inr (Or.inl ⟨rfl, hcap (by omega)⟩)))
      · exact hA _ w
    · by_cases i2 : i = 46 + tc_nc x
      · rw [i2, tc_E2n k4]; exact hAq
      · rw [eo i i1 i2]; exact h.own (lvx i hi i1 i2)
  · show tc_nc x + 1 ≤ 5
    omega
theorem tc_q4 {q : Nat} (h : tc_WC D cU cO e0 A E x H) (hAq : A q) (hqn : ∀ j, tc_lv x j → E j ≠ q) : q ≠ E 4 := fun z => by
  obtain ⟨mo, a1, a2⟩ := h.2.2.1
  rcases a2 with w | w
  · exact h.2.2.2.2.2.2.2.2.1 (by rw [← w.2, ← z]; exact hAq)
  · exact hqn 4 (Or.inr (Or.inl ⟨rfl, w.1⟩)) z.symm
theorem tc_q5 {q : Nat} (h : tc_WC D cU cO e0 A E x H) (hAq : A q) (hqn : ∀ j, tc_lv x j → E j ≠ q) : q ≠ E 5 := fun z => by
  obtain ⟨mo, a1, a2⟩ := h.2.2.2.1
  rcases a2 with w | w
  · exact h.2.2.2.2.2.2.2.2.1 (by rw [← w.2, ← z]; exact hAq)
  · exact hqn 5 (Or.inr (Or.inr (Or.inl ⟨rfl, w.1⟩))) z.symm
end TCG
