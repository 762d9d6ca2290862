/-! ArrayList.add (written by wip/whole/hand2.py). -/
def tc_Qq (B : Nat → Heap → Prop) (A : Nat → Prop) : Array Value → State → Outcome → State → Prop := fun _ st oc t => (∃ q : Nat, oc = .returned (some (.ref q)) ∧ B q t.heap) ∧ va_F A st t
section TCL
variable {p : Program} {l : Launch} {e : Env} {R : Room} {s : State} {m : MethodId} {args : Array Value} {below : List Frame} {meth : Method} {c : Code} {H : Heap} {locs : List Loc} {cells slots : Nat} {Q : State → Prop}
variable {mc ms : Nat} {free : Addr → Prop} {A0 A1 : Nat → Prop} {H0 : Heap} {a : Array Value} {pc : Nat} {ls : Array Slot} {st0 rest : List Value}
theorem tc_cq {B : Nat → Heap → Prop} (hr : va_Run p l e R s m args below meth c H locs cells slots mc ms (F0 m pc ls st0) rest (tc_Qq B A1 a) free) (hS : va_S A0 H0 H locs) (hA : ∀ q, q < H.size → A1 q → A0 q) (hf : ∀ q, free q → A0 q)
    (kk : ∀ (q : Nat) (H1 : Heap) (locs1 : List Loc), B q H1 → H.size ≤ H1.size → (∀ q : Nat, q < H.size → ¬ A1 q → H1[q]? = H[q]?) → va_S A0 H0 H1 locs1 → W p l e R s m args below meth c H1 locs1 (cells + mc) (slots + ms) Q (F0 m (pc + 3) ls (.ref q :: rest))) : W p l e R s m args below meth c H locs cells slots Q (F0 m pc ls st0) := by
  intro T hT X
  obtain ⟨v, st₀, t, T', L, h0, X', hL, e1, e2, ⟨⟨q, hv, hb⟩, hF⟩, st⟩ := hr T hT X
  cases hv
  obtain ⟨k1, k2, k3⟩ := vx_keep h0 e1 hS hA hf hL hF
  obtain ⟨t2, a1, b1⟩ := kk q T'.heap (locs ++ L) (by rw [e1]; exact hb) k1 k2 k3 T' rfl X'
  exact ⟨t2, st t2 a1, b1⟩
end TCL
theorem tc_AnyM {E : String} {s U : State} {H H1 : Heap} {a : Nat} (hal : s.vm.Alike U.vm) (h : va_Any E s H a) (e : H1[a]? = H[a]?) : va_Any E U H1 a := by
  obtain ⟨cellV, g1, g2, ⟨kC, hkC⟩, g4⟩ := h
  obtain ⟨kC', hkC', -⟩ := hal.2.2 _ _ hkC
  exact ⟨cellV, by rw [e]; exact g1, g2, ⟨kC', hkC'⟩, fun comp h => by
    rw [hal.findClass] at h
    rw [hal.assignable]; exact g4 comp h⟩
theorem tc_Any_lt {E : String} {s : State} {H : Heap} {a : Nat} (h : va_Any E s H a) : a < H.size := by
  obtain ⟨cellV, g1, -⟩ := h
  exact (Array.getElem?_eq_some_iff.mp g1).1
theorem tc_D2 {A : Nat → Prop} {a b : Nat} {w w' : va_E} (h : a ≠ b) (ha : A a) (hb : A b) : va_D A [(a, w), (b, w')] := by
  refine ⟨fun i j x y hi hj e => ?_, fun k x hk => ?_⟩
  · have h1 : i < 2 := (List.getElem?_eq_some_iff.mp hi).1
    have h2 : j < 2 := (List.getElem?_eq_some_iff.mp hj).1
    rcases (show i = 0 ∨ i = 1 by omega) with rfl | rfl <;> rcases (show j = 0 ∨ j = 1 by omega) with rfl | rfl <;> cases hi <;> cases hj
    · rfl
    · exact absurd e h
    · exact absurd e.symm h
    · rfl
  · have h1 : k < 2 := (List.getElem?_eq_some_iff.mp hk).1
    rcases (show k = 0 ∨ k = 1 by omega) with rfl | rfl <;> cases hk
    · exact ha
    · exact hb
theorem tc_P2 {D : va_G} {cl : List vw_C} {x y : Nat × va_E} {H : Heap} (h1 : va_at D cl x H) (h2 : va_at D cl y H) : va_P D cl [x, y] H := fun k q hk => by
  have h : k < 2 := (List.getElem?_eq_some_iff.mp hk).1
  rcases (show k = 0 ∨ k = 1 by omega) with rfl | rfl <;> cases hk
  · exact h1
  · exact h2
theorem tc_c0 : (0 : Int32).toNatClampNeg = 0 := by decide
/-- a row to copy -/
def tc_RW (D : va_G) (cO : ClassId) (mi sz d cap : Nat) (f : Nat → Option Nat) (U : State) : Prop := U.heap.size = sz ∧ va_at D vwCl (d, .inl (cO, cap, .inr (.inr (.inr (.inr f))))) U.heap ∧ va_K D vwCl [(cO, .object "java/lang/Object")] U ∧ va_Mi "[Ljava/lang/Object;" mi U ∧ va_AO "java/lang/Object" U ∧ va_Dc U ∧ ∀ i y, i < cap → f i = some y → y ≠ d ∧ va_Any "java/lang/Object" U U.heap y
theorem tc_RW.moved {D : va_G} {cO : ClassId} {mi sz d cap : Nat} {f : Nat → Option Nat} {u U : State} (h : tc_RW D cO mi sz d cap f u) (e : U.heap = u.heap) (al : u.vm.Alike U.vm) : tc_RW D cO mi sz d cap f U := by
  obtain ⟨h1, h2, h3, h4, h5, h6, h7⟩ := h
  exact ⟨by rw [e]; exact h1, by rw [e]; exact h2, va_K.moved al h3, va_Mi.moved al h4, va_AO.moved al h5, va_Dc.moved al h6, fun i y hi hy => ⟨(h7 i y hi hy).1, tc_AnyM al (h7 i y hi hy).2 (by rw [e])⟩⟩
def tc_LA (a d cap sz : Nat) (z : Nat) : Prop := z = a ∨ (z = d ∧ 0 < cap) ∨ sz ≤ z
def tc_LW (D : va_G) (cO : ClassId) (e0 mi sz a : Nat) (mo : Int32) (d : Nat) (v : Int32) (cap : Nat) (f : Nat → Option Nat) (U : State) : Prop := U.heap.size = sz ∧ va_at D vwCl (a, .inr (0, [.int mo, .ref d, .int v])) U.heap ∧ va_K D vwCl [(cO, .object "java/lang/Object")] U ∧ va_Mi "[Ljava/lang/Object;" mi U ∧ va_AO "java/lang/Object" U ∧ va_Dc U ∧ va_Z "java/util/ArrayList" "DEFAULTCAPACITY_EMPTY_ELEMENTDATA" "[Ljava/lang/Object;" (.ref e0) (tc_LA a d cap sz) U U.heap ∧ a ≠ d ∧ ((cap = 0 ∧ d = e0 ∧ va_T (.object "java/lang/Object") e0 0 (fun _ => .null) (tc_LA a d cap sz) U U.heap) ∨ (10 ≤ cap ∧ va_at D vwCl (d, .inl (cO, cap, .inr (.inr (.inr (.inr f))))) U.heap ∧ (v = nI cap → ∀ i y, i < cap → f i = some y → y ≠ a ∧ y ≠ d ∧ va_Any "java/lang/Object" U U.heap y)))
theorem tc_LW.put {D : va_G} {cO : ClassId} {e0 mi sz a : Nat} {mo mo' : Int32} {d : Nat} {v : Int32} {cap : Nat} {f : Nat → Option Nat} {u U : State} {H : Heap} (h : tc_LW D cO e0 mi sz a mo d v cap f u) (e : va_at D vwCl (a, .inr (0, [.int mo', .ref d, .int v])) H) (z : H.size = u.heap.size) (o : ∀ q, q ≠ a → H[q]? = u.heap[q]?) (hU : U.heap = H) (al : u.vm.Alike U.vm) : tc_LW D cO e0 mi sz a mo' d v cap f U := by
  obtain ⟨h1, h2, h3, h4, h5, h6, h7, h8, h9⟩ := h
  subst hU
  have o' : ∀ q, q < u.heap.size → ¬ tc_LA a d cap sz q → U.heap[q]? = u.heap[q]? := fun q _ hq => o q (fun z => hq (Or.inl z))
  refine ⟨z.trans h1, e, va_K.moved al h3, va_Mi.moved al h4, va_AO.moved al h5, va_Dc.moved al h6, va_Z.moved al (h7.kept o'), h8, ?_⟩
  rcases h9 with ⟨g1, g2, g3⟩ | ⟨g1, g2, g3⟩
  · exact Or.inl ⟨g1, g2, va_T.moved al (g3.kept o')⟩
  · exact Or.inr ⟨g1, g2.kept (o _ (fun q => h8 q.symm)), fun hv i y hi hy => ⟨(g3 hv i y hi hy).1, (g3 hv i y hi hy).2.1, tc_AnyM al (g3 hv i y hi hy).2.2 (o _ (g3 hv i y hi hy).1)⟩⟩
theorem tc_LW.moved {D : va_G} {cO : ClassId} {e0 mi sz a : Nat} {mo : Int32} {d : Nat} {v : Int32} {cap : Nat} {f : Nat → Option Nat} {u U : State} (h : tc_LW D cO e0 mi sz a mo d v cap f u) (e : U.heap = u.heap) (al : u.vm.Alike U.vm) : tc_LW D cO e0 mi sz a mo d v cap f U := h.put h.2.1 rfl (fun _ _ => rfl) e al
def tc_GR (D : va_G) (cO : ClassId) (sz a : Nat) (mo v : Int32) (cap : Nat) (f : Nat → Option Nat) (q : Nat) (H : Heap) : Prop := ∃ (cap' : Nat) (f' : Nat → Option Nat), sz ≤ q ∧ va_at D vwCl (a, .inr (0, [.int mo, .ref q, .int v])) H ∧ va_at D vwCl (q, .inl (cO, cap', .inr (.inr (.inr (.inr f'))))) H ∧ cap + 1 ≤ cap' ∧ 10 ≤ cap' ∧ cap' ≤ 1000 ∧ ∀ i, i < cap → f' i = f i
def tc_AR (D : va_G) (cO : ClassId) (sz a : Nat) (mo : Int32) (d cap n v : Nat) (f : Nat → Option Nat) (H : Heap) : Prop := ∃ (d' cap' : Nat) (f' : Nat → Option Nat), va_at D vwCl (a, .inr (0, [.int mo, .ref d', .int (nI (n + 1))])) H ∧ va_at D vwCl (d', .inl (cO, cap', .inr (.inr (.inr (.inr f'))))) H ∧ n + 1 ≤ cap' ∧ 10 ≤ cap' ∧ cap' ≤ 1000 ∧ (∀ i, i < n → f' i = f i) ∧ f' n = some v ∧ ((d' = d ∧ 10 ≤ cap) ∨ sz ≤ d')
set_option maxHeartbeats 4000000 in
set_option maxRecDepth 100000 in
theorem mt_newLength (l : Launch) (o a b v : Int32) (h1 : o + tc_max a b = v) (h2 : 0 < v) (h3 : ¬ 2147483639 < v) : Met l yJ8_newLength_cabcc wsJ8_newLength_cabcc ({ frames := 1, cells := 0, slots := 0, locals := 21 } : Room) (va_Pc [.int o, .int a, .int b] (fun _ => True)) (k2_QcV (.int v)) 0 0 (fun _ => False) := by
  refine Met.ofW (cc := cJ8_newLength_cabcc) (maxL := 4) (ret := (some .int)) (by decide) rfl ?_
  intro p e s m args below meth c s₁ B hml hv
  obtain ⟨rfl, -⟩ := hv
  have hx := B.exec
  have hb := B.bytes
  have hr := B.returns
  have hts := atoms_spec (ws := wsJ8_newLength_cabcc) B.pre
  have hown : s.vm.findClass RJ8 = some m.cls := findClass_of_methodNamed B.named
  have hlocks := B.notSynchronized
  have hl := lv_entry ([.int o, .int a, .int b]) (n := 4) (Nat.le_of_ble_eq_true rfl)
  rw [lg_entry_eq]
  generalize (lg_sl ([.int o, .int a, .int b]) ++ List.replicate (4 - (lg_sl ([.int o, .int a, .int b])).length) Slot.unset).toArray = ls at hl ⊢
  have hl : lv_has ls 4 [(0, .int o), (1, .int a), (2, .int b)] := hl
  refine lv_iload_n hx hb dJ8_newLength_cabcc_0 rfl (lv_at hl 0 rfl) ?_
  refine lv_iload_n hx hb dJ8_newLength_cabcc_1 rfl (lv_at hl 1 rfl) ?_
  refine lv_iload_n hx hb dJ8_newLength_cabcc_2 rfl (lv_at hl 2 rfl) ?_
  refine va_mmax hx hb (by rw [hml]; exact hl.1.symm) hown (hts (.methodLink RJ8 194 Lib.Math.max.name) (List.mem_of_getElem? (i := 1) rfl)) (hts (.static Lib.Math.max.name) (List.mem_of_getElem? (i := 2) rfl)) (hts (.initialized "java/lang/Math") (List.mem_of_getElem? (i := 3) rfl)) (hts (.code Lib.Math.max.name Lib.Math.max.code 2 (some .int)) (List.mem_of_getElem? (i := 4) rfl)) (Nat.le_of_ble_eq_true rfl) (Nat.le_of_ble_eq_true rfl) (Nat.le_of_ble_eq_true rfl) (Nat.le_of_ble_eq_true rfl) dJ8_newLength_cabcc_3 ?_
  refine lv_iadd hx hb dJ8_newLength_cabcc_6 ?_
  rw [show o + (if a < b then b else a) = v from h1]
  refine lv_istore_n (lv' := [(3, .int v), (0, .int o), (1, .int a), (2, .int b)]) hx hb dJ8_newLength_cabcc_7 rfl hl (by decide) rfl (fun ls hl => ?_)
  refine lv_iconst (v := 0) hx hb dJ8_newLength_cabcc_8 (by decide) ?_
  refine lv_iload_n hx hb dJ8_newLength_cabcc_9 rfl (lv_at hl 0 rfl) ?_
  refine lv_icmp_ge (tgt := 21) hx hb dJ8_newLength_cabcc_10 (by decide) (fun c1 => absurd h2 (Int32.not_lt.mpr c1)) (fun c1 => ?_)
  refine lv_iload_n hx hb dJ8_newLength_cabcc_13 rfl (lv_at hl 0 rfl) ?_
  refine lv_ldc hx hb hown (hts (.constant RJ8 200 (2147483639)) (List.mem_of_getElem? (i := 5) rfl)) dJ8_newLength_cabcc_14 ?_
  refine lv_icmp_gt (tgt := 21) hx hb dJ8_newLength_cabcc_16 (by decide) (fun c2 => absurd c2 h3) (fun c2 => ?_)
  refine lv_iload_n hx hb dJ8_newLength_cabcc_19 rfl (lv_at hl 0 rfl) ?_
  exact W.iret hx hb hr (fun t ht hW9 => ⟨rfl, ht⟩) (fun q h => absurd h List.not_mem_nil) dJ8_newLength_cabcc_20
set_option maxHeartbeats 4000000 in
set_option maxRecDepth 100000 in
theorem mt_cpO (l : Launch) (D : va_G) (cO : ClassId) (mi sz d cap N : Nat) (f : Nat → Option Nat) (hN : cap ≤ N) (hN2 : N ≤ 60) : Met l yJ7_copyOf_6403c wsJ7_copyOf_6403c ({ frames := 1, cells := 1, slots := 60, locals := 24 } : Room) (va_Pc [.ref d, .int (nI N), .ref mi] (tc_RW D cO mi sz d cap f)) (tc_Qq (fun q H => sz ≤ q ∧ va_at D vwCl (q, .inl (cO, N, .inr (.inr (.inr (.inr (va_cpy f (fun _ => none) 0 0 cap)))))) H) (fun z => z = d ∨ sz ≤ z)) 1 60 (fun z => z = d ∨ sz ≤ z) := by
  refine Met.ofW (cc := cJ7_copyOf_6403c) (maxL := 4) (ret := (some (.array (.object "java/lang/Object")))) (by decide) rfl ?_
  intro p e s m args below meth c s₁ B hml hv
  obtain ⟨rfl, hsz, hW, hK, hM, hAO, hDc, hel⟩ := hv
  have hx := B.exec
  have hb := B.bytes
  have hr := B.returns
  have hts := atoms_spec (ws := wsJ7_copyOf_6403c) B.pre
  have hown : s.vm.findClass RJ7 = some m.cls := findClass_of_methodNamed B.named
  have hlocks := B.notSynchronized
  have hl := lv_entry ([.ref d, .int (nI N), .ref mi]) (n := 4) (Nat.le_of_ble_eq_true rfl)
  rw [lg_entry_eq]
  generalize (lg_sl ([.ref d, .int (nI N), .ref mi]) ++ List.replicate (4 - (lg_sl ([.ref d, .int (nI N), .ref mi])).length) Slot.unset).toArray = ls at hl ⊢
  have hl : lv_has ls 4 [(0, .ref d), (1, .int (nI N)), (2, .ref mi)] := hl
  subst hsz
  have hS : va_S (fun z => z = d ∨ s.heap.size ≤ z) s.heap s.heap [] := va_S.rf
  have hA : ∀ q, s.heap.size ≤ q → q = d ∨ s.heap.size ≤ q := fun _ h => Or.inr h
  have hP : va_P D vwCl [(d, .inl (cO, cap, .inr (.inr (.inr (.inr f)))))] s.heap := tc_p1 hW
  have hD : va_D (fun z => z = d ∨ s.heap.size ≤ z) [(d, .inl (cO, cap, .inr (.inr (.inr (.inr f)))))] := ⟨fun i j a b hi hj _ => by
      have h1 : i < 1 := (List.getElem?_eq_some_iff.mp hi).1
      have h2 : j < 1 := (List.getElem?_eq_some_iff.mp hj).1
      omega, fun k a hk => by
      have h1 : k < 1 := (List.getElem?_eq_some_iff.mp hk).1
      rw [show k = 0 by omega] at hk
      cases hk; exact Or.inl rfl⟩
  refine lv_aload_n hx hb dJ7_copyOf_6403c_0 rfl (lv_at hl 2 rfl) ?_
  refine va_ldcM hx hb hown (hts (.classLink RJ7 110 "[Ljava/lang/Object;") (List.mem_of_getElem? (i := 1) rfl)) hM dJ7_copyOf_6403c_1 ?_
  refine lv_acmp_ne (rx := some mi) (ry := some mi) (tgt := 13) hx hb dJ7_copyOf_6403c_3 (by decide) (fun c1 => absurd rfl c1) (fun _ => ?_)
  refine lv_iload_n hx hb dJ7_copyOf_6403c_6 rfl (lv_at hl 1 rfl) ?_
  refine tc_newaQ (N := N) hx hb hown (hts (.classLink RJ7 2 "java/lang/Object") (List.mem_of_getElem? (i := 2) rfl)) hAO hK hP hD hS hA (nI_pos (by omega)) (nI_clamp (by omega)) (by omega) (Nat.le_of_ble_eq_true rfl) (by show 0 + N ≤ 60; omega) dJ7_copyOf_6403c_7 (cI := cO) 0 rfl (fun q H hP hD hS => ?_)
  have hqd : ¬ q = d := fun z => absurd (hD.1 1 0 _ _ rfl rfl z) (by decide)
  have hq : s.heap.size ≤ q := (hD.2 1 _ rfl).elim (fun z => absurd z hqd) (fun z => z)
  refine lv_goto (tgt := 24) hx hb dJ7_copyOf_6403c_10 (by decide) ?_
  refine lv_astore_n (lv' := [(3, .ref q), (0, .ref d), (1, .int (nI N)), (2, .ref mi)]) hx hb dJ7_copyOf_6403c_24 rfl hl (by decide) rfl (fun ls hl => ?_)
  refine lv_aload_n hx hb dJ7_copyOf_6403c_25 rfl (lv_at hl 1 rfl) ?_
  refine lv_iconst (v := 0) hx hb dJ7_copyOf_6403c_26 (by decide) ?_
  refine lv_aload_n hx hb dJ7_copyOf_6403c_27 rfl (lv_at hl 0 rfl) ?_
  refine lv_iconst (v := 0) hx hb dJ7_copyOf_6403c_28 (by decide) ?_
  refine lv_aload_n hx hb dJ7_copyOf_6403c_29 rfl (lv_at hl 1 rfl) ?_
  refine va_alen (v := nI cap) hx hb hK hP 0 0 rfl rfl rfl dJ7_copyOf_6403c_30 ?_
  refine lv_iload_n hx hb dJ7_copyOf_6403c_31 rfl (lv_at hl 2 rfl) ?_
  refine va_mmin hx hb (by rw [hml]; exact hl.1.symm) hown (hts (.methodLink RJ7 304 Lib.Math.min.name) (List.mem_of_getElem? (i := 3) rfl)) (hts (.static Lib.Math.min.name) (List.mem_of_getElem? (i := 4) rfl)) (hts (.initialized "java/lang/Math") (List.mem_of_getElem? (i := 5) rfl)) (hts (.code Lib.Math.min.name Lib.Math.min.code 2 (some .int)) (List.mem_of_getElem? (i := 6) rfl)) (Nat.le_of_ble_eq_true rfl) (Nat.le_of_ble_eq_true rfl) (Nat.le_of_ble_eq_true rfl) (by show 0 + N ≤ 60; omega) dJ7_copyOf_6403c_32 ?_
  rw [if_neg (nI_nlt hN (by omega))]
  refine va_copyM hx hb (by rw [hml]; exact hl.1.symm) hown (hts (.methodLink RJ7 150 arraycopyName) (List.mem_of_getElem? (i := 7) rfl)) (hts (.native arraycopyName) (List.mem_of_getElem? (i := 8) rfl)) (hts (.static arraycopyName) (List.mem_of_getElem? (i := 9) rfl)) (hts (.initialized "java/lang/System") (List.mem_of_getElem? (i := 10) rfl)) hK hP hD hS 0 1 0 0 rfl rfl rfl rfl (sp := 0) (dp := 0) (n := nI cap) (by decide) (by decide) (nI_pos (by omega)) (by rw [nI_clamp (by omega), tc_c0]; omega) (by rw [nI_clamp (by omega), tc_c0]; omega) (fun i hi y hy => ?_) (Nat.le_of_ble_eq_true rfl) (Nat.le_of_ble_eq_true rfl) dJ7_copyOf_6403c_35 (fun H locs hP hD hS => ?_)
  · rw [nI_clamp (by omega)] at hi
    rw [tc_c0, Nat.zero_add] at hy
    obtain ⟨k1, k2⟩ := hel i y hi hy
    have k3 := tc_Any_lt k2
    exact tc_AnyM (Vm.Alike.refl s.vm) k2 (hS.2.1 y k3 (fun z => z.elim k1 (fun w => absurd k3 (Nat.not_lt.mpr w))))
  rw [nI_clamp (show cap < 2 ^ 31 by omega), tc_c0] at hP
  refine lv_aload_n hx hb dJ7_copyOf_6403c_38 rfl (lv_at hl 0 rfl) ?_
  refine W.widen (k := 1) (n := 60) (Nat.le_of_ble_eq_true rfl) (by omega) ?_
  exact W.aret hx hb hr (Or.inr ⟨_, rfl⟩) (Or.inr ⟨q, rfl⟩) (fun t ht hW9 => ⟨⟨q, rfl, hq, by rw [ht]; exact hP 1 _ rfl⟩, tc_F hS ht⟩) hS.2.2 dJ7_copyOf_6403c_39
set_option maxHeartbeats 4000000 in
set_option maxRecDepth 100000 in
theorem mt_cpA (l : Launch) (D : va_G) (cO : ClassId) (mi sz d cap N : Nat) (f : Nat → Option Nat) (hN : cap ≤ N) (hN2 : N ≤ 60) : Met l yJ7_copyOf_1904c wsJ7_copyOf_1904c ({ frames := 2, cells := 1, slots := 60, locals := 47 } : Room) (va_Pc [.ref d, .int (nI N)] (tc_RW D cO mi sz d cap f)) (tc_Qq (fun q H => sz ≤ q ∧ va_at D vwCl (q, .inl (cO, N, .inr (.inr (.inr (.inr (va_cpy f (fun _ => none) 0 0 cap)))))) H) (fun z => z = d ∨ sz ≤ z)) 1 60 (fun z => z = d ∨ sz ≤ z) := by
  refine Met.ofW (cc := cJ7_copyOf_1904c) (maxL := 2) (ret := (some (.array (.object "java/lang/Object")))) (by decide) rfl ?_
  intro p e s m args below meth c s₁ B hml hv
  obtain ⟨rfl, hRW⟩ := hv
  have hx := B.exec
  have hb := B.bytes
  have hr := B.returns
  have hts := atoms_spec (ws := wsJ7_copyOf_1904c) B.pre
  have hown : s.vm.findClass RJ7 = some m.cls := findClass_of_methodNamed B.named
  have hlocks := B.notSynchronized
  have hl := lv_entry ([.ref d, .int (nI N)]) (n := 2) (Nat.le_of_ble_eq_true rfl)
  rw [lg_entry_eq]
  generalize (lg_sl ([.ref d, .int (nI N)]) ++ List.replicate (2 - (lg_sl ([.ref d, .int (nI N)])).length) Slot.unset).toArray = ls at hl ⊢
  have hl : lv_has ls 2 [(0, .ref d), (1, .int (nI N))] := hl
  obtain ⟨hsz, hW, hK, hM, hAO, hDc, hel⟩ := id hRW
  subst hsz
  have hS : va_S (fun z => z = d ∨ s.heap.size ≤ z) s.heap s.heap [] := va_S.rf
  refine lv_aload_n hx hb dJ7_copyOf_1904c_0 rfl (lv_at hl 0 rfl) ?_
  refine lv_iload_n hx hb dJ7_copyOf_1904c_1 rfl (lv_at hl 1 rfl) ?_
  refine lv_aload_n hx hb dJ7_copyOf_1904c_2 rfl (lv_at hl 0 rfl) ?_
  refine va_getC hx hb (by rw [hml]; exact hl.1.symm) hown (hts (.methodLink RJ7 86 ⟨"java/lang/Object", "getClass", "()Ljava/lang/Class;"⟩) (List.mem_of_getElem? (i := 1) rfl)) (va_Dc.use hDc) (hts (.selects "[Ljava/lang/Object;" ⟨"java/lang/Object", "getClass", "()Ljava/lang/Class;"⟩ ⟨"java/lang/Object", "getClass", "()Ljava/lang/Class;"⟩) (List.mem_of_getElem? (i := 2) rfl)) (hts (.instanceMethod ⟨"java/lang/Object", "getClass", "()Ljava/lang/Class;"⟩) (List.mem_of_getElem? (i := 3) rfl)) (hts (.native ⟨"java/lang/Object", "getClass", "()Ljava/lang/Class;"⟩) (List.mem_of_getElem? (i := 4) rfl)) hM ⟨_, hW, rfl, va_nmO (hK.2 0 _ rfl).2 (by decide +kernel)⟩ (Nat.le_of_ble_eq_true rfl) (Nat.le_of_ble_eq_true rfl) dJ7_copyOf_1904c_3 ?_
  refine tc_cq (va_runS (As := [.ref d, .int (nI N), .ref mi]) (rest := []) ⟨hx, hb, hml, hown, hts⟩ (mt_cpO l D cO mi s.heap.size d cap N f hN hN2) (va_cwS 3 hts gJ7_copyOf_1904c_J7_copyOf_6403c rfl rfl rfl (by decide +kernel) ⟨Nat.le_of_ble_eq_true rfl, Nat.le_of_ble_eq_true rfl⟩) ⟨fun a U g mk q => ⟨q.1, q.2.moved rfl (Vm.Alike.refl U.vm)⟩, fun U hU hW9 => ⟨rfl, hRW.moved hU hW9.alike⟩⟩ rfl rfl hl.1 rfl (lv_room (Nat.le_of_ble_eq_true rfl)) dJ7_copyOf_1904c_6 ⟨Nat.le_of_ble_eq_true rfl, Nat.le_of_ble_eq_true rfl⟩) hS (fun _ _ h => h) (fun _ h => h) (fun q H locs hq z1 o1 hS => ?_)
  exact W.aret hx hb hr (Or.inr ⟨_, rfl⟩) (Or.inr ⟨q, rfl⟩) (fun t ht hW9 => ⟨⟨q, rfl, hq.1, by rw [ht]; exact hq.2⟩, tc_F hS ht⟩) hS.2.2 dJ7_copyOf_1904c_9
theorem tc_rowlen {p : Program} {l : Launch} {e : Env} {R : Room} {s : State} {m : MethodId} {args : Array Value} {below : List Frame} {meth : Method} {c : Code} {cells slots : Nat} {Q : State → Prop} {cc : ByteArray} {pc : Nat} {ls : Array Slot} {rest : List Value} {D : va_G} {cO : ClassId} {e0 mi sz a : Nat} {mo : Int32} {d : Nat} {v : Int32} {cap : Nat} {f : Nat → Option Nat} (hexec : p.tables.exec = Jvm.exec) (hb : c.code = cc) (h : tc_LW D cO e0 mi sz a mo d v cap f s) (hdg : decode cc pc = .ok (.arraylength, 1))
    (kk : W p l e R s m args below meth c s.heap [] cells slots Q (F0 m (pc + 1) ls (.int (nI cap) :: rest))) : W p l e R s m args below meth c s.heap [] cells slots Q (F0 m pc ls (.ref d :: rest)) := by
  obtain ⟨h1, h2, h3, h4, h5, h6, h7, h8, h9⟩ := h
  rcases h9 with ⟨g1, g2, g3⟩ | ⟨g1, g2, g3⟩
  · subst g1 g2
    exact va_tlen hexec hb g3 va_S.rf (v := nI 0) rfl hdg kk
  · exact va_alen (v := nI cap) hexec hb h3 (tc_p1 g2) 0 0 rfl rfl rfl hdg kk
set_option maxHeartbeats 4000000 in
set_option maxRecDepth 100000 in
theorem mt_g92 (l : Launch) (D : va_G) (cO : ClassId) (e0 mi sz a : Nat) (mo : Int32) (d : Nat) (cap : Nat) (f : Nat → Option Nat) (hc : cap ≤ 39) : Met l yJx4a65c_grow_92f84 wsJx4a65c_grow_92f84 ({ frames := 3, cells := 1, slots := 60, locals := 70 } : Room) (va_Pc [.ref a, .int (nI (cap + 1))] (tc_LW D cO e0 mi sz a mo d (nI cap) cap f)) (tc_Qq (tc_GR D cO sz a mo (nI cap) cap f) (tc_LA a d cap sz)) 1 60 (tc_LA a d cap sz) := by
  refine Met.ofW (cc := cJx4a65c_grow_92f84) (maxL := 4) (ret := (some (.array (.object "java/lang/Object")))) (by decide) rfl ?_
  intro p e s m args below meth c s₁ B hml hv
  obtain ⟨rfl, hLW⟩ := hv
  have hx := B.exec
  have hb := B.bytes
  have hr := B.returns
  have hts := atoms_spec (ws := wsJx4a65c_grow_92f84) B.pre
  have hown : s.vm.findClass RJx4a65c = some m.cls := findClass_of_methodNamed B.named
  have hlocks := B.notSynchronized
  have hl := lv_entry ([.ref a, .int (nI (cap + 1))]) (n := 4) (Nat.le_of_ble_eq_true rfl)
  rw [lg_entry_eq]
  generalize (lg_sl ([.ref a, .int (nI (cap + 1))]) ++ List.replicate (4 - (lg_sl ([.ref a, .int (nI (cap + 1))])).length) Slot.unset).toArray = ls at hl ⊢
  have hl : lv_has ls 4 [(0, .ref a), (1, .int (nI (cap + 1)))] := hl
  obtain ⟨hsz, hW, hK, hM, hAO, hDc, hZ, had, hrow⟩ := id hLW
  subst hsz
  have hS : va_S (tc_LA a d cap s.heap.size) s.heap s.heap [] := va_S.rf
  have hA : ∀ q, s.heap.size ≤ q → tc_LA a d cap s.heap.size q := fun _ h => Or.inr (Or.inr h)
  have hinJ : ∀ w ∈ wsJx4a65c0, w ∈ wsJx4a65c_grow_92f84 := fun w9 h9 => List.mem_cons_of_mem _ (List.mem_append_right _ h9)
  refine lv_aload_n hx hb dJx4a65c_grow_92f84_0 rfl (lv_at hl 0 rfl) ?_
  refine tc_get (v := .ref d) hx hb hts hinJ hown hK hW (C := RJx4a65c) (T := TJx4a65c) (N := 3) rfl 1 (by decide) (hts (.fieldLink RJx4a65c 9 "java/util/ArrayList" "elementData" "[Ljava/lang/Object;") (List.mem_of_getElem? (i := 1) rfl)) (fun _ h9 => h9) rfl dJx4a65c_grow_92f84_1 ?_
  refine tc_rowlen hx hb hLW dJx4a65c_grow_92f84_4 ?_
  refine lv_istore_n (lv' := [(2, .int (nI cap)), (0, .ref a), (1, .int (nI (cap + 1)))]) hx hb dJx4a65c_grow_92f84_5 rfl hl (by decide) rfl (fun ls hl => ?_)
  refine lv_iload_n hx hb dJx4a65c_grow_92f84_6 rfl (lv_at hl 0 rfl) ?_
  refine lv_if_gt (tgt := 20) hx hb dJx4a65c_grow_92f84_7 (by decide) (fun c1 => ?_) (fun c1 => ?_)
  · have hpos : 0 < cap := by
      rcases Nat.eq_zero_or_pos cap with z | z
      · subst z; exact absurd c1 (by decide)
      · exact z
    obtain ⟨hc10, hrw, hel'⟩ := hrow.elim (fun z => absurd z.1 (Nat.ne_of_gt hpos)) (fun z => z)
    have hel := hel' rfl
    refine lv_iload_n hx hb dJx4a65c_grow_92f84_20 rfl (lv_at hl 0 rfl) ?_
    refine lv_iload_n hx hb dJx4a65c_grow_92f84_21 rfl (lv_at hl 2 rfl) ?_
    refine lv_iload_n hx hb dJx4a65c_grow_92f84_22 rfl (lv_at hl 0 rfl) ?_
    refine lv_isub hx hb dJx4a65c_grow_92f84_23 ?_
    refine lv_iload_n hx hb dJx4a65c_grow_92f84_24 rfl (lv_at hl 0 rfl) ?_
    refine lv_iconst (v := 1) hx hb dJx4a65c_grow_92f84_25 (by decide) ?_
    refine lv_ishr hx hb dJx4a65c_grow_92f84_26 ?_
    have es : nI cap >>> ((1 : Int32) &&& 31) = nI (cap / 2) := by
      have k := pk_shrN (n := cap) (by omega) ((1 : Int32) &&& 31) 1 (by decide)
      rw [Nat.pow_one] at k
      exact k
    have ed : nI (cap + 1) - nI cap = nI 1 := by
      have k := pk_sub (a := cap + 1) (b := cap) (by omega)
      rw [Nat.add_sub_cancel_left] at k
      exact k
    rw [es, ed]
    have el : nI cap + tc_max (nI 1) (nI (cap / 2)) = nI (cap + cap / 2) := by
      rw [show tc_max (nI 1) (nI (cap / 2)) = nI (cap / 2) from if_pos (nI_lt (by omega) (by omega))]
      exact nI_add _ _
    refine tc_cr (W.runS (As := [.int (nI cap), .int (nI 1), .int (nI (cap / 2))]) (rest := []) ⟨hx, hb, hml, hown, hts⟩ (mt_newLength l (nI cap) (nI 1) (nI (cap / 2)) (nI (cap + cap / 2)) el (nI_lt (a := 0) (by omega) (by omega)) (nI_nlt (a := 2147483639) (by omega) (by decide))) (va_cwS 3 hts gJx4a65c_grow_92f84_J8_newLength_cabcc rfl rfl rfl (by decide +kernel) ⟨Nat.le_of_ble_eq_true rfl, Nat.le_of_ble_eq_true rfl⟩) ⟨fun a U g mk q => q, fun U hU hW9 => ⟨rfl, trivial⟩⟩ rfl rfl hl.1 rfl (lv_room (Nat.le_of_ble_eq_true rfl)) dJx4a65c_grow_92f84_27 ⟨Nat.le_of_ble_eq_true rfl, Nat.le_of_ble_eq_true rfl⟩) ?_
    refine lv_istore_n (lv' := [(3, .int (nI (cap + cap / 2))), (2, .int (nI cap)), (0, .ref a), (1, .int (nI (cap + 1)))]) hx hb dJx4a65c_grow_92f84_30 rfl hl (by decide) rfl (fun ls hl => ?_)
    refine lv_aload_n hx hb dJx4a65c_grow_92f84_31 rfl (lv_at hl 2 rfl) ?_
    refine lv_aload_n hx hb dJx4a65c_grow_92f84_32 rfl (lv_at hl 2 rfl) ?_
    refine tc_get (v := .ref d) hx hb hts hinJ hown hK hW (C := RJx4a65c) (T := TJx4a65c) (N := 3) rfl 1 (by decide) (hts (.fieldLink RJx4a65c 9 "java/util/ArrayList" "elementData" "[Ljava/lang/Object;") (List.mem_of_getElem? (i := 1) rfl)) (fun _ h9 => h9) rfl dJx4a65c_grow_92f84_33 ?_
    refine lv_iload_n hx hb dJx4a65c_grow_92f84_36 rfl (lv_at hl 0 rfl) ?_
    have hRW : tc_RW D cO mi s.heap.size d cap f s := ⟨rfl, hrw, hK, hM, hAO, hDc, fun i y hi hy => (hel i y hi hy).2⟩
    refine tc_cq (va_runS (As := [.ref d, .int (nI (cap + cap / 2))]) (rest := [.ref a]) ⟨hx, hb, hml, hown, hts⟩ (mt_cpA l D cO mi s.heap.size d cap (cap + cap / 2) f (by omega) (by omega)) (va_cwS 2 hts gJx4a65c_grow_92f84_J7_copyOf_1904c rfl rfl rfl (by decide +kernel) ⟨Nat.le_of_ble_eq_true rfl, Nat.le_of_ble_eq_true rfl⟩) ⟨fun a U g mk q => ⟨q.1, q.2.moved rfl (Vm.Alike.refl U.vm)⟩, fun U hU hW9 => ⟨rfl, hRW.moved hU hW9.alike⟩⟩ rfl rfl hl.1 rfl (lv_room (Nat.le_of_ble_eq_true rfl)) dJx4a65c_grow_92f84_37 ⟨Nat.le_of_ble_eq_true rfl, Nat.le_of_ble_eq_true rfl⟩) hS (fun _ _ h => h.elim (fun z => Or.inr (Or.inl ⟨z, hpos⟩)) (fun z => Or.inr (Or.inr z))) (fun _ h => h.elim (fun z => Or.inr (Or.inl ⟨z, hpos⟩)) (fun z => Or.inr (Or.inr z))) (fun q H locs hq z1 o1 hS => ?_)
    have hlt := hW.lt
    have hW1 := hW.kept (o1 a hlt (fun z => z.elim had (fun w => absurd hlt (Nat.not_lt.mpr w))))
    refine lv_dup_x1 hx hb dJx4a65c_grow_92f84_40 rfl rfl ?_
    refine tc_put (v := .ref q) (ty := .array (.object "java/lang/Object")) hx hb hts hinJ tyJx4a65c tyJx4a65c_ok nmJx4a65c hown hK hW1 hS (Or.inl rfl) (C := RJx4a65c) (T := TJx4a65c) (N := 3) rfl 1 (by decide) (hts (.fieldLink RJx4a65c 9 "java/util/ArrayList" "elementData" "[Ljava/lang/Object;") (List.mem_of_getElem? (i := 1) rfl)) (fun _ h9 => h9) rfl (by decide +kernel) rfl rfl (Nat.le_of_ble_eq_true rfl) dJx4a65c_grow_92f84_41 (fun H2 locs e1 z2 o2 hS => ?_)
    have hqa : q ≠ a := fun z => by rw [z] at hq; exact absurd hlt (Nat.not_lt.mpr hq.1)
    exact W.aret hx hb hr (Or.inr ⟨_, rfl⟩) (Or.inr ⟨q, rfl⟩) (fun t ht hW9 => ⟨⟨q, rfl, by rw [ht]; exact ⟨cap + cap / 2, _, hq.1, e1, hq.2.kept (o2 q hqa), by omega, by omega, by omega, fun i hi => by
        show (if 0 ≤ i ∧ i < 0 + cap then f (0 + (i - 0)) else none) = f i
        rw [if_pos ⟨Nat.zero_le _, by omega⟩, Nat.sub_zero, Nat.zero_add]⟩⟩, tc_F hS ht⟩) hS.2.2 dJx4a65c_grow_92f84_44
  · have hz : cap = 0 := by
      rcases Nat.eq_zero_or_pos cap with z | z
      · exact z
      · exact absurd (nI_lt (a := 0) z (by omega)) c1
    obtain ⟨-, hde, hT⟩ := hrow.elim (fun z => z) (fun z => absurd z.1 (by omega))
    subst hz
    refine lv_aload_n hx hb dJx4a65c_grow_92f84_10 rfl (lv_at hl 1 rfl) ?_
    refine tc_get (v := .ref d) hx hb hts hinJ hown hK hW (C := RJx4a65c) (T := TJx4a65c) (N := 3) rfl 1 (by decide) (hts (.fieldLink RJx4a65c 9 "java/util/ArrayList" "elementData" "[Ljava/lang/Object;") (List.mem_of_getElem? (i := 1) rfl)) (fun _ h9 => h9) rfl dJx4a65c_grow_92f84_11 ?_
    refine va_gets hx hb hZ hS hown (hts (.fieldLink RJx4a65c 39 "java/util/ArrayList" "DEFAULTCAPACITY_EMPTY_ELEMENTDATA" "[Ljava/lang/Object;") (List.mem_of_getElem? (i := 2) rfl)) (fun _ h9 => h9) dJx4a65c_grow_92f84_14 ?_
    refine lv_acmp_eq (rx := some d) (ry := some e0) (tgt := 45) hx hb dJx4a65c_grow_92f84_17 (by decide) (fun _ => ?_) (fun c2 => absurd (congrArg some hde) c2)
    refine lv_aload_n hx hb dJx4a65c_grow_92f84_45 rfl (lv_at hl 1 rfl) ?_
    refine lv_bipush (v := 10) hx hb dJx4a65c_grow_92f84_46 (by decide) ?_
    refine lv_iload_n hx hb dJx4a65c_grow_92f84_48 rfl (lv_at hl 2 rfl) ?_
    refine va_mmax hx hb (by rw [hml]; exact hl.1.symm) hown (hts (.methodLink RJx4a65c 79 Lib.Math.max.name) (List.mem_of_getElem? (i := 3) rfl)) (hts (.static Lib.Math.max.name) (List.mem_of_getElem? (i := 4) rfl)) (hts (.initialized "java/lang/Math") (List.mem_of_getElem? (i := 5) rfl)) (hts (.code Lib.Math.max.name Lib.Math.max.code 2 (some .int)) (List.mem_of_getElem? (i := 6) rfl)) (Nat.le_of_ble_eq_true rfl) (Nat.le_of_ble_eq_true rfl) (Nat.le_of_ble_eq_true rfl) (Nat.le_of_ble_eq_true rfl) dJx4a65c_grow_92f84_49 ?_
    rw [show (if (10 : Int32) < nI (0 + 1) then nI (0 + 1) else 10) = 10 by decide]
    have hP : va_P D vwCl [(a, .inr (0, [.int mo, .ref d, .int (nI 0)]))] s.heap := tc_p1 hW
    have hD : va_D (tc_LA a d 0 s.heap.size) [(a, .inr (0, [.int mo, .ref d, .int (nI 0)]))] := ⟨fun i j a b hi hj _ => by
        have h1 : i < 1 := (List.getElem?_eq_some_iff.mp hi).1
        have h2 : j < 1 := (List.getElem?_eq_some_iff.mp hj).1
        omega, fun k b hk => by
        have h1 : k < 1 := (List.getElem?_eq_some_iff.mp hk).1
        rw [show k = 0 by omega] at hk
        cases hk; exact Or.inl rfl⟩
    refine tc_newaQ (N := 10) hx hb hown (hts (.classLink RJx4a65c 7 "java/lang/Object") (List.mem_of_getElem? (i := 7) rfl)) hAO hK hP hD hS hA (by decide) (by decide) (by decide) (Nat.le_of_ble_eq_true rfl) (Nat.le_of_ble_eq_true rfl) dJx4a65c_grow_92f84_52 (cI := cO) 0 rfl (fun q H hP hD hS => ?_)
    have hqa : ¬ q = a := fun z => absurd (hD.1 1 0 _ _ rfl rfl z) (by decide)
    have hq : s.heap.size ≤ q := by
      rcases hD.2 1 _ rfl with z | z | z
      · exact absurd z hqa
      · exact absurd z.2 (by decide)
      · exact z
    refine lv_dup_x1 hx hb dJx4a65c_grow_92f84_55 rfl rfl ?_
    refine va_put (D := D) (ci := 0) (v := .ref q) (ty := .array (.object "java/lang/Object")) (C := RJx4a65c) (T := TJx4a65c) (N := 3) hx hb hts hinJ tyJx4a65c tyJx4a65c_ok nmJx4a65c hown hK hP hD hS 0 rfl rfl 1 (by decide) (hts (.fieldLink RJx4a65c 9 "java/util/ArrayList" "elementData" "[Ljava/lang/Object;") (List.mem_of_getElem? (i := 1) rfl)) (fun _ h9 => h9) rfl (by decide +kernel) rfl rfl (Nat.le_of_ble_eq_true rfl) dJx4a65c_grow_92f84_56 (fun H locs hP hD hS => ?_)
    refine W.widen (k := 1) (n := 60) (Nat.le_of_ble_eq_true rfl) (Nat.le_of_ble_eq_true rfl) ?_
    exact W.aret hx hb hr (Or.inr ⟨_, rfl⟩) (Or.inr ⟨q, rfl⟩) (fun t ht hW9 => ⟨⟨q, rfl, by rw [ht]; exact ⟨10, _, hq, hP 0 _ rfl, hP 1 _ rfl, by decide, by decide, by decide, fun i hi => absurd hi (Nat.not_lt_zero _)⟩⟩, tc_F hS ht⟩) hS.2.2 dJx4a65c_grow_92f84_59
set_option maxHeartbeats 4000000 in
set_option maxRecDepth 100000 in
theorem mt_gd5 (l : Launch) (D : va_G) (cO : ClassId) (e0 mi sz a : Nat) (mo : Int32) (d : Nat) (cap : Nat) (f : Nat → Option Nat) (hc : cap ≤ 39) : Met l yJx4a65c_grow_d5877 wsJx4a65c_grow_d5877 ({ frames := 4, cells := 1, slots := 60, locals := 93 } : Room) (va_Pc [.ref a] (tc_LW D cO e0 mi sz a mo d (nI cap) cap f)) (tc_Qq (tc_GR D cO sz a mo (nI cap) cap f) (tc_LA a d cap sz)) 1 60 (tc_LA a d cap sz) := by
  refine Met.ofW (cc := cJx4a65c_grow_d5877) (maxL := 1) (ret := (some (.array (.object "java/lang/Object")))) (by decide) rfl ?_
  intro p e s m args below meth c s₁ B hml hv
  obtain ⟨rfl, hLW⟩ := hv
  have hx := B.exec
  have hb := B.bytes
  have hr := B.returns
  have hts := atoms_spec (ws := wsJx4a65c_grow_d5877) B.pre
  have hown : s.vm.findClass RJx4a65c = some m.cls := findClass_of_methodNamed B.named
  have hlocks := B.notSynchronized
  have hl := lv_entry ([.ref a]) (n := 1) (Nat.le_of_ble_eq_true rfl)
  rw [lg_entry_eq]
  generalize (lg_sl ([.ref a]) ++ List.replicate (1 - (lg_sl ([.ref a])).length) Slot.unset).toArray = ls at hl ⊢
  have hl : lv_has ls 1 [(0, .ref a)] := hl
  obtain ⟨hsz, hW, hK, hM, hAO, hDc, hZ, had, hrow⟩ := id hLW
  subst hsz
  have hS : va_S (tc_LA a d cap s.heap.size) s.heap s.heap [] := va_S.rf
  have hinJ : ∀ w ∈ wsJx4a65c0, w ∈ wsJx4a65c_grow_d5877 := fun w9 h9 => List.mem_cons_of_mem _ (List.mem_append_right _ h9)
  refine lv_aload_n hx hb dJx4a65c_grow_d5877_0 rfl (lv_at hl 0 rfl) ?_
  refine lv_aload_n hx hb dJx4a65c_grow_d5877_1 rfl (lv_at hl 0 rfl) ?_
  refine tc_get (v := .int (nI cap)) hx hb hts hinJ hown hK hW (C := RJx4a65c) (T := TJx4a65c) (N := 3) rfl 2 (by decide) (hts (.fieldLink RJx4a65c 48 "java/util/ArrayList" "size" "I") (List.mem_of_getElem? (i := 1) rfl)) (fun _ h9 => h9) rfl dJx4a65c_grow_d5877_2 ?_
  refine lv_iconst (v := 1) hx hb dJx4a65c_grow_d5877_5 (by decide) ?_
  refine lv_iadd hx hb dJx4a65c_grow_d5877_6 ?_
  rw [nI_1]
  refine tc_cq (va_runV (As := [.int (nI (cap + 1))]) (rest := []) ⟨hx, hb, hml, hown, hts⟩ (mt_g92 l D cO e0 mi s.heap.size a mo d cap f hc) (cwV 1 hts gJx4a65c_grow_d5877_Jx4a65c_grow_92f84 rfl rfl rfl (by decide +kernel) ⟨Nat.le_of_ble_eq_true rfl, Nat.le_of_ble_eq_true rfl⟩) ⟨fun a U g mk q => ⟨q.1, q.2.moved rfl (Vm.Alike.refl U.vm)⟩, tc_rcv hW hK rfl, fun U hU hW9 => ⟨rfl, hLW.moved hU hW9.alike⟩⟩ rfl rfl hl.1 rfl (lv_room (Nat.le_of_ble_eq_true rfl)) dJx4a65c_grow_d5877_7 ⟨Nat.le_of_ble_eq_true rfl, Nat.le_of_ble_eq_true rfl⟩) hS (fun _ _ h => h) (fun _ h => h) (fun q H locs hq z1 o1 hS => ?_)
  exact W.aret hx hb hr (Or.inr ⟨_, rfl⟩) (Or.inr ⟨q, rfl⟩) (fun t ht hW9 => ⟨⟨q, rfl, by rw [ht]; exact hq⟩, tc_F hS ht⟩) hS.2.2 dJx4a65c_grow_d5877_10
set_option maxHeartbeats 4000000 in
set_option maxRecDepth 100000 in
theorem mt_a72 (l : Launch) (D : va_G) (cO : ClassId) (e0 mi sz a : Nat) (mo : Int32) (d n cap : Nat) (f : Nat → Option Nat) (v : Nat) (hn : n ≤ 39) (hnc : n ≤ cap) (hcap : cap ≤ 1000) (hva : v ≠ a) (hvd : v ≠ d) : Met l yJx4a65c_add_72be8 wsJx4a65c_add_72be8 ({ frames := 5, cells := 1, slots := 60, locals := 113 } : Room) (va_Pc [.ref a, .ref v, .ref d, .int (nI n)] (fun U => tc_LW D cO e0 mi sz a mo d (nI n) cap f U ∧ va_Any "java/lang/Object" U U.heap v)) (tc_Qw none (tc_AR D cO sz a mo d cap n v f) (tc_LA a d cap sz)) 1 60 (tc_LA a d cap sz) := by
  refine Met.ofW (cc := cJx4a65c_add_72be8) (maxL := 4) (ret := none) (by decide) rfl ?_
  intro p e s m args below meth c s₁ B hml hv
  obtain ⟨rfl, hLW, hAny⟩ := hv
  have hx := B.exec
  have hb := B.bytes
  have hr := B.returns
  have hts := atoms_spec (ws := wsJx4a65c_add_72be8) B.pre
  have hown : s.vm.findClass RJx4a65c = some m.cls := findClass_of_methodNamed B.named
  have hlocks := B.notSynchronized
  have hl := lv_entry ([.ref a, .ref v, .ref d, .int (nI n)]) (n := 4) (Nat.le_of_ble_eq_true rfl)
  rw [lg_entry_eq]
  generalize (lg_sl ([.ref a, .ref v, .ref d, .int (nI n)]) ++ List.replicate (4 - (lg_sl ([.ref a, .ref v, .ref d, .int (nI n)])).length) Slot.unset).toArray = ls at hl ⊢
  have hl : lv_has ls 4 [(0, .ref a), (1, .ref v), (2, .ref d), (3, .int (nI n))] := hl
  obtain ⟨hsz, hW, hK, hM, hAO, hDc, hZ, had, hrow⟩ := id hLW
  subst hsz
  have hS : va_S (tc_LA a d cap s.heap.size) s.heap s.heap [] := va_S.rf
  have hinJ : ∀ w ∈ wsJx4a65c0, w ∈ wsJx4a65c_add_72be8 := fun w9 h9 => List.mem_cons_of_mem _ (List.mem_append_right _ h9)
  have key : ∀ (d2 cap2 : Nat) (f2 : Nat → Option Nat) (H : Heap) (locs : List Loc) (ls : Array Slot), ls[0]? = some (Slot.val (.ref a)) → ls[1]? = some (Slot.val (.ref v)) → ls[2]? = some (Slot.val (.ref d2)) → ls[3]? = some (Slot.val (.int (nI n))) → va_S (tc_LA a d cap s.heap.size) s.heap H locs → va_at D vwCl (a, .inr (0, [.int mo, .ref d2, .int (nI n)])) H → va_at D vwCl (d2, .inl (cO, cap2, .inr (.inr (.inr (.inr f2))))) H → n + 1 ≤ cap2 → 10 ≤ cap2 → cap2 ≤ 1000 → (∀ i, i < n → f2 i = f i) → ((d2 = d ∧ 10 ≤ cap) ∨ s.heap.size ≤ d2) →
      W p l e (headSpec wsJx4a65c_add_72be8 { frames := 5, cells := 1, slots := 60, locals := 113 }).room s m #[Value.ref a, Value.ref v, Value.ref d, Value.int (nI n)] below meth c H locs 1 60 (MQ below (tc_Qw none (tc_AR D cO s.heap.size a mo d cap n v f) (tc_LA a d cap s.heap.size)) #[Value.ref a, Value.ref v, Value.ref d, Value.int (nI n)] s 1 60 (tc_LA a d cap s.heap.size)) (F0 m 11 ls []) := by
    intro d2 cap2 f2 H locs ls l0 l1 l2 l3 hS hW hR q1 q2 q3 q4 q5
    have hlt := tc_Any_lt hAny
    have hAny : va_Any "java/lang/Object" s H v := tc_AnyM (Vm.Alike.refl s.vm) hAny (hS.2.1 v hlt (fun z => by
      rcases z with z | z | z
      · exact hva z
      · exact hvd z.1
      · exact absurd hlt (Nat.not_lt.mpr z)))
    have had2 : a ≠ d2 := fun z => by
      rcases q5 with w | w
      · exact had (z.trans w.1)
      · exact absurd (‹va_at D vwCl (a, .inr (0, [.int mo, .ref d, .int (nI n)])) s.heap›).lt (Nat.not_lt.mpr (by rw [z]; exact w))
    have hP := tc_P2 hW hR
    have hD : va_D (tc_LA a d cap s.heap.size) [(a, .inr (0, [.int mo, .ref d2, .int (nI n)])), (d2, .inl (cO, cap2, .inr (.inr (.inr (.inr f2)))))] := tc_D2 had2 (Or.inl rfl) (q5.elim (fun w => Or.inr (Or.inl ⟨w.1, by omega⟩)) (fun w => Or.inr (Or.inr w)))
    refine lv_aload_n hx hb dJx4a65c_add_72be8_11 rfl l2 ?_
    refine lv_iload_n hx hb dJx4a65c_add_72be8_12 rfl l3 ?_
    refine lv_aload_n hx hb dJx4a65c_add_72be8_13 rfl l1 ?_
    refine va_astqM hx hb hK hP hD hS 1 0 rfl rfl hAny (vp_in_nI (by omega) (by omega)) dJx4a65c_add_72be8_14 (fun H locs hP hD hS => ?_)
    rw [nI_clamp (show n < 2 ^ 31 by omega)] at hP hD
    refine lv_aload_n hx hb dJx4a65c_add_72be8_15 rfl l0 ?_
    refine lv_iload_n hx hb dJx4a65c_add_72be8_16 rfl l3 ?_
    refine lv_iconst (v := 1) hx hb dJx4a65c_add_72be8_17 (by decide) ?_
    refine lv_iadd hx hb dJx4a65c_add_72be8_18 ?_
    rw [nI_1]
    refine va_put (D := D) (ci := 0) (v := .int (nI (n + 1))) (ty := .int) (C := RJx4a65c) (T := TJx4a65c) (N := 3) hx hb hts hinJ tyJx4a65c tyJx4a65c_ok nmJx4a65c hown hK hP hD hS 0 rfl rfl 2 (by decide) (hts (.fieldLink RJx4a65c 48 "java/util/ArrayList" "size" "I") (List.mem_of_getElem? (i := 1) rfl)) (fun _ h9 => h9) rfl (by decide +kernel) rfl rfl (Nat.le_of_ble_eq_true rfl) dJx4a65c_add_72be8_19 (fun H locs hP hD hS => ?_)
    exact W.vret hx hb hr (fun t ht hW9 => ⟨⟨rfl, by rw [ht]; exact ⟨d2, cap2, va_up f2 n (some v), hP 0 _ rfl, hP 1 _ rfl, q1, q2, q3, fun i hi => by rw [va_up_ne _ _ (Nat.ne_of_lt hi)]; exact q4 i hi, va_up_self _ _ _, q5⟩⟩, tc_F hS ht⟩) hS.2.2 dJx4a65c_add_72be8_22
  refine lv_iload_n hx hb dJx4a65c_add_72be8_0 rfl (lv_at hl 3 rfl) ?_
  refine lv_aload_n hx hb dJx4a65c_add_72be8_1 rfl (lv_at hl 2 rfl) ?_
  refine tc_rowlen hx hb hLW dJx4a65c_add_72be8_2 ?_
  refine lv_icmp_ne (tgt := 11) hx hb dJx4a65c_add_72be8_3 (by decide) (fun c1 => ?_) (fun c1 => ?_)
  · have hne : n ≠ cap := fun z => c1 (by rw [z])
    obtain ⟨hc10, hrw, hel⟩ := hrow.elim (fun z => absurd (show n = cap by omega) hne) (fun z => z)
    refine W.widen (k := 1) (n := 60) (Nat.le_of_ble_eq_true rfl) (Nat.le_of_ble_eq_true rfl) ?_
    exact key d cap f s.heap [] ls (lv_at hl 0 rfl) (lv_at hl 1 rfl) (lv_at hl 2 rfl) (lv_at hl 3 rfl) hS hW hrw (by omega) hc10 hcap (fun _ _ => rfl) (Or.inl ⟨rfl, hc10⟩)
  · have heq : n = cap := (nI_eq (by omega) (by omega)).mp c1
    have hLW' : tc_LW D cO e0 mi s.heap.size a mo d (nI cap) cap f s := by rw [← heq] at hLW ⊢; exact hLW
    refine lv_aload_n hx hb dJx4a65c_add_72be8_6 rfl (lv_at hl 0 rfl) ?_
    refine tc_cq (va_runV (As := []) (rest := []) ⟨hx, hb, hml, hown, hts⟩ (mt_gd5 l D cO e0 mi s.heap.size a mo d cap f (by omega)) (cwV 0 hts gJx4a65c_add_72be8_Jx4a65c_grow_d5877 rfl rfl rfl (by decide +kernel) ⟨Nat.le_of_ble_eq_true rfl, Nat.le_of_ble_eq_true rfl⟩) ⟨fun a U g mk q => ⟨q.1, q.2.moved rfl (Vm.Alike.refl U.vm)⟩, tc_rcv hW hK rfl, fun U hU hW9 => ⟨rfl, hLW'.moved hU hW9.alike⟩⟩ rfl rfl hl.1 rfl (lv_room (Nat.le_of_ble_eq_true rfl)) dJx4a65c_add_72be8_7 ⟨Nat.le_of_ble_eq_true rfl, Nat.le_of_ble_eq_true rfl⟩) hS (fun _ _ h => h) (fun _ h => h) (fun q H locs hq z1 o1 hS => ?_)
    refine lv_astore_n (lv' := [(2, .ref q), (0, .ref a), (1, .ref v), (3, .int (nI n))]) hx hb dJx4a65c_add_72be8_10 rfl hl (by decide) rfl (fun ls hl => ?_)
    obtain ⟨cap2, f2, k1, k2, k3, k4, k5, k6, k7⟩ := hq
    exact key q cap2 f2 H locs ls (lv_at hl 1 rfl) (lv_at hl 2 rfl) (lv_at hl 0 rfl) (lv_at hl 3 rfl) hS (by rw [heq]; exact k2) k3 (by omega) k5 k6 (fun i hi => k7 i (by omega)) (Or.inr k1)
set_option maxHeartbeats 4000000 in
set_option maxRecDepth 100000 in
theorem mt_ladd (l : Launch) (D : va_G) (cO : ClassId) (e0 mi sz a : Nat) (mo : Int32) (d n cap : Nat) (f : Nat → Option Nat) (v : Nat) (hn : n ≤ 39) (hnc : n ≤ cap) (hcap : cap ≤ 1000) (hva : v ≠ a) (hvd : v ≠ d) : Met l yJx4a65c_add_9ea2d wsJx4a65c_add_9ea2d ({ frames := 6, cells := 1, slots := 60, locals := 136 } : Room) (va_Pc [.ref a, .ref v] (fun U => tc_LW D cO e0 mi sz a mo d (nI n) cap f U ∧ va_Any "java/lang/Object" U U.heap v)) (tc_Qw (some (.int 1)) (tc_AR D cO sz a (mo + 1) d cap n v f) (tc_LA a d cap sz)) 1 60 (tc_LA a d cap sz) := by
  refine Met.ofW (cc := cJx4a65c_add_9ea2d) (maxL := 2) (ret := (some .boolean)) (by decide) rfl ?_
  intro p e s m args below meth c s₁ B hml hv
  obtain ⟨rfl, hLW, hAny⟩ := hv
  have hx := B.exec
  have hb := B.bytes
  have hr := B.returns
  have hts := atoms_spec (ws := wsJx4a65c_add_9ea2d) B.pre
  have hown : s.vm.findClass RJx4a65c = some m.cls := findClass_of_methodNamed B.named
  have hlocks := B.notSynchronized
  have hl := lv_entry ([.ref a, .ref v]) (n := 2) (Nat.le_of_ble_eq_true rfl)
  rw [lg_entry_eq]
  generalize (lg_sl ([.ref a, .ref v]) ++ List.replicate (2 - (lg_sl ([.ref a, .ref v])).length) Slot.unset).toArray = ls at hl ⊢
  have hl : lv_has ls 2 [(0, .ref a), (1, .ref v)] := hl
  obtain ⟨hsz, hW, hK, hM, hAO, hDc, hZ, had, hrow⟩ := id hLW
  subst hsz
  have hS : va_S (tc_LA a d cap s.heap.size) s.heap s.heap [] := va_S.rf
  have hinJ : ∀ w ∈ wsJx4a65c0, w ∈ wsJx4a65c_add_9ea2d := fun w9 h9 => List.mem_cons_of_mem _ (List.mem_append_right _ h9)
  refine lv_aload_n hx hb dJx4a65c_add_9ea2d_0 rfl (lv_at hl 0 rfl) ?_
  refine lv_dup hx hb dJx4a65c_add_9ea2d_1 rfl ?_
  refine tc_get (v := .int mo) hx hb hts hinJ hown hK hW (C := RJx4a65c) (T := TJx4a65c) (N := 3) rfl 0 (by decide) (hts (.fieldLink RJx4a65c 63 "java/util/ArrayList" "modCount" "I") (List.mem_of_getElem? (i := 1) rfl)) (u_same (hts (.sameField "java/util/ArrayList" "java/util/AbstractList" "modCount" "I") (List.mem_of_getElem? (i := 2) rfl))) rfl dJx4a65c_add_9ea2d_2 ?_
  refine lv_iconst (v := 1) hx hb dJx4a65c_add_9ea2d_5 (by decide) ?_
  refine lv_iadd hx hb dJx4a65c_add_9ea2d_6 ?_
  refine tc_put (v := .int (mo + 1)) (ty := .int) hx hb hts hinJ tyJx4a65c tyJx4a65c_ok nmJx4a65c hown hK hW hS (Or.inl rfl) (C := RJx4a65c) (T := TJx4a65c) (N := 3) rfl 0 (by decide) (hts (.fieldLink RJx4a65c 63 "java/util/ArrayList" "modCount" "I") (List.mem_of_getElem? (i := 1) rfl)) (u_same (hts (.sameField "java/util/ArrayList" "java/util/AbstractList" "modCount" "I") (List.mem_of_getElem? (i := 2) rfl))) rfl (by decide +kernel) rfl rfl (Nat.le_of_ble_eq_true rfl) dJx4a65c_add_9ea2d_7 (fun H locs e1 z1 o1 hS => ?_)
  have hW : va_at D vwCl (a, .inr (0, [.int (mo + 1), .ref d, .int (nI n)])) H := e1
  refine lv_aload_n hx hb dJx4a65c_add_9ea2d_10 rfl (lv_at hl 0 rfl) ?_
  refine lv_aload_n hx hb dJx4a65c_add_9ea2d_11 rfl (lv_at hl 1 rfl) ?_
  refine lv_aload_n hx hb dJx4a65c_add_9ea2d_12 rfl (lv_at hl 0 rfl) ?_
  refine tc_get (v := .ref d) hx hb hts hinJ hown hK hW (C := RJx4a65c) (T := TJx4a65c) (N := 3) rfl 1 (by decide) (hts (.fieldLink RJx4a65c 9 "java/util/ArrayList" "elementData" "[Ljava/lang/Object;") (List.mem_of_getElem? (i := 3) rfl)) (fun _ h9 => h9) rfl dJx4a65c_add_9ea2d_13 ?_
  refine lv_aload_n hx hb dJx4a65c_add_9ea2d_16 rfl (lv_at hl 0 rfl) ?_
  refine tc_get (v := .int (nI n)) hx hb hts hinJ hown hK hW (C := RJx4a65c) (T := TJx4a65c) (N := 3) rfl 2 (by decide) (hts (.fieldLink RJx4a65c 48 "java/util/ArrayList" "size" "I") (List.mem_of_getElem? (i := 4) rfl)) (fun _ h9 => h9) rfl dJx4a65c_add_9ea2d_17 ?_
  have hlt := tc_Any_lt hAny
  refine tc_cwv (va_runV (As := [.ref v, .ref d, .int (nI n)]) (rest := []) ⟨hx, hb, hml, hown, hts⟩ (mt_a72 l D cO e0 mi s.heap.size a (mo + 1) d n cap f v hn hnc hcap hva hvd) (cwV 3 hts gJx4a65c_add_9ea2d_Jx4a65c_add_72be8 rfl rfl rfl (by decide +kernel) ⟨Nat.le_of_ble_eq_true rfl, Nat.le_of_ble_eq_true rfl⟩) ⟨fun a U g mk q => ⟨q.1, q.2.1.moved rfl (Vm.Alike.refl U.vm), tc_AnyM (Vm.Alike.refl U.vm) q.2.2 rfl⟩, tc_rcv hW hK rfl, fun U hU hW9 => ⟨rfl, hLW.put hW z1 o1 hU hW9.alike, tc_AnyM hW9.alike hAny (by rw [hU]; exact o1 v hva)⟩⟩ rfl rfl hl.1 rfl (lv_room (Nat.le_of_ble_eq_true rfl)) dJx4a65c_add_9ea2d_20 ⟨Nat.le_of_ble_eq_true rfl, Nat.le_of_ble_eq_true rfl⟩) hS (fun _ _ h => h) (fun _ h => h) (fun H2 locs hq z2 o2 hS => ?_)
  refine lv_iconst (v := 1) hx hb dJx4a65c_add_9ea2d_23 (by decide) ?_
  exact W.zret hx hb hr (tc_nz (Or.inr rfl)) (fun t ht hW9 => ⟨⟨rfl, by rw [ht]; exact hq⟩, tc_F hS ht⟩) hS.2.2 dJx4a65c_add_9ea2d_24
