/-! Arrays.copyOf over ints; a row with one more, with one less (written by wip/p21/hand42.py). -/
def tc_cp (n M : Nat) (f : Nat → Int32) : Nat → Int32 := va_cpy f (fun _ => (0 : Int32)) 0 0 (min n M)
def tc_wf2 (n : Nat) (f : Nat → Int32) (v : Int32) : Nat → Int32 := upd (tc_cp n (n + 1) f) n v
def tc_wo2 (n : Nat) (f : Nat → Int32) : Nat → Int32 := tc_cp n (n - 1) f
theorem tc_cp_lt {n M j : Nat} {f : Nat → Int32} (h : j < n) (h2 : j < M) : tc_cp n M f j = f j := by unfold tc_cp va_cpy; rw [if_pos ⟨Nat.zero_le _, by omega⟩]; simp
theorem tc_wf2_lt {n j : Nat} {f : Nat → Int32} {v : Int32} (h : j < n) : tc_wf2 n f v j = f j := by unfold tc_wf2 upd; rw [if_neg (by omega), tc_cp_lt h (by omega)]
theorem tc_wf2_n {n : Nat} {f : Nat → Int32} {v : Int32} : tc_wf2 n f v n = v := by unfold tc_wf2 upd; rw [if_pos rfl]
theorem tc_wo2_lt {n j : Nat} {f : Nat → Int32} (h : j < n - 1) : tc_wo2 n f j = f j := tc_cp_lt (by omega) h
set_option maxHeartbeats 4000000 in
set_option maxRecDepth 100000 in
theorem mt_J7_copyOf_59c91 (l : Launch) (D : va_G) (cU cO cI : ClassId) (A : Nat → Prop) (a n : Nat) (f : Nat → Int32) (m9 : Int32) (M : Nat) (hM : m9 = nI M) (hMn : M ≠ n) (hn : n ≤ 41) (hM41 : M ≤ 41) : Met l yJ7_copyOf_59c91 wsJ7_copyOf_59c91 ({ frames := 1, cells := 1, slots := 41, locals := 60 } : Room) (va_Pc [.ref a, .int m9] (fun U => va_at D vwCl (a, .inl (cI, n, .inl f)) U.heap ∧ va_K D vwCl (tc_ty cU cO cI) U ∧ ∀ q, U.heap.size ≤ q → A q)) (tc_Qn (fun q H => va_at D vwCl (q, .inl (cI, M, .inl (tc_cp n M f))) H) A) 1 41 (fun z9 => A z9 ∨ z9 = a) := by
  refine Met.ofW (cc := cJ7_copyOf_59c91) (maxL := 3) (ret := (some (.array .int))) (by decide) rfl ?_
  intro p e s m args below meth c s₁ B hml hv
  obtain ⟨rfl, hP0, hK, hA⟩ := hv
  have hx := B.exec
  have hb := B.bytes
  have hr := B.returns
  have hts := atoms_spec (ws := wsJ7_copyOf_59c91) B.pre
  have hown : s.vm.findClass RJ7 = some m.cls := findClass_of_methodNamed B.named
  have hlocks := B.notSynchronized
  have hS : va_S (fun z => z = a ∨ s.heap.size ≤ z) s.heap s.heap [] := va_S.rf
  have hl := lv_entry ([.ref a, .int m9]) (n := 3) (Nat.le_of_ble_eq_true rfl)
  rw [lg_entry_eq]
  generalize (lg_sl ([.ref a, .int m9]) ++ List.replicate (3 - (lg_sl ([.ref a, .int m9])).length) Slot.unset).toArray = ls at hl ⊢
  have hl : lv_has ls 3 [(0, .ref a), (1, .int m9)] := hl
  subst hM
  have ha0 : a < s.heap.size := hP0.lt
  refine lv_iload_n hx hb dJ7_copyOf_59c91_0 rfl (lv_at hl 1 rfl) ?_
  refine lv_aload_n hx hb dJ7_copyOf_59c91_1 rfl (lv_at hl 0 rfl) ?_
  refine tc_alen (v := nI n) hx hb hK hP0 2 rfl rfl dJ7_copyOf_59c91_2 ?_
  refine lv_icmp_ne (tgt := 14) hx hb dJ7_copyOf_59c91_3 (by decide) (fun _ => ?_) (fun h => absurd ((nI_eq (by omega) (by omega)).mp h) hMn)
  refine lv_iload_n hx hb dJ7_copyOf_59c91_14 rfl (lv_at hl 1 rfl) ?_
  refine tc_newI (n := nI M) (N := M) hx hb (hts (.arrayClass .int) (List.mem_of_getElem? (i := 7) rfl)) hS hK (fun q hq => Or.inr hq) (nI_pos (by omega)) (nI_clamp (by omega)) (by omega) (Nat.le_of_ble_eq_true rfl) (by show 0 + M ≤ 41; omega) dJ7_copyOf_59c91_15 2 rfl (fun q H hq hq2 et z1 o1 hS => ?_)
  refine W.widen (k := 1) (n := 41) (Nat.le_of_ble_eq_true rfl) (by omega) ?_
  refine lv_astore_n (lv' := [(2, .ref q), (0, .ref a), (1, .int (nI M))]) hx hb dJ7_copyOf_59c91_17 rfl hl (by decide) rfl (fun ls hl => ?_)
  refine lv_aload_n hx hb dJ7_copyOf_59c91_18 rfl (lv_at hl 1 rfl) ?_
  refine lv_iconst (v := 0) hx hb dJ7_copyOf_59c91_19 (by decide) ?_
  refine lv_aload_n hx hb dJ7_copyOf_59c91_20 rfl (lv_at hl 0 rfl) ?_
  refine lv_iconst (v := 0) hx hb dJ7_copyOf_59c91_21 (by decide) ?_
  refine lv_aload_n hx hb dJ7_copyOf_59c91_22 rfl (lv_at hl 1 rfl) ?_
  have hPa := hP0.kept (o1 a ha0)
  refine tc_alen (v := nI n) hx hb hK hPa 2 rfl rfl dJ7_copyOf_59c91_23 ?_
  refine lv_iload_n hx hb dJ7_copyOf_59c91_24 rfl (lv_at hl 2 rfl) ?_
  refine va_mmin hx hb (by rw [hml]; exact hl.1.symm) hown (hts (.methodLink RJ7 304 Lib.Math.min.name) (List.mem_of_getElem? (i := 8) rfl)) (hts (.static Lib.Math.min.name) (List.mem_of_getElem? (i := 9) rfl)) (hts (.initialized "java/lang/Math") (List.mem_of_getElem? (i := 10) rfl)) (hts (.code Lib.Math.min.name Lib.Math.min.code 2 (some .int)) (List.mem_of_getElem? (i := 11) rfl)) (Nat.le_of_ble_eq_true rfl) (Nat.le_of_ble_eq_true rfl) (Nat.le_of_ble_eq_true rfl) (Nat.le_of_ble_eq_true rfl) dJ7_copyOf_59c91_25 ?_
  refine lv_topi (fun v ev => ?_)
  have ev2 : v = nI (min n M) := by
    rw [ev]
    by_cases h : M < n
    · rw [if_pos ((nI_ltI (by omega) (by omega)).mpr h), Nat.min_eq_right (by omega)]
    · rw [if_neg (fun h9 => h ((nI_ltI (by omega) (by omega)).mp h9)), Nat.min_eq_left (by omega)]
  subst ev2
  have hqa : q ≠ a := by omega
  have hPP : va_P D vwCl [(a, .inl (cI, n, .inl f)), (q, .inl (cI, M, .inl (fun _ : Nat => (0 : Int32))))] H := fun k w hk => by
    match k, hk with
    | 0, hk => cases hk; exact hPa
    | 1, hk => cases hk; exact et
    | k + 2, hk => simp at hk
  have hDD : va_D (fun z => z = a ∨ s.heap.size ≤ z) [(a, .inl (cI, n, .inl f)), (q, .inl (cI, M, .inl (fun _ : Nat => (0 : Int32))))] := ⟨fun i j a1 b1 hi hj hab => by
    match i, j, hi, hj with
    | 0, 0, _, _ => rfl
    | 1, 1, _, _ => rfl
    | 0, 1, hi, hj => cases hi; cases hj; exact absurd hab.symm hqa
    | 1, 0, hi, hj => cases hi; cases hj; exact absurd hab hqa
    | 0, k + 2, _, hj => simp at hj
    | 1, k + 2, _, hj => simp at hj
    | k + 2, _, hi, _ => simp at hi, fun k w hk => by
    match k, hk with
    | 0, hk => cases hk; exact Or.inl rfl
    | 1, hk => cases hk; exact hq2
    | k + 2, hk => simp at hk⟩
  have hmm : (nI (min n M)).toNatClampNeg = min n M := nI_clamp (by omega)
  refine va_copyi hx hb (by rw [hml]; exact hl.1.symm) hown (hts (.methodLink RJ7 150 arraycopyName) (List.mem_of_getElem? (i := 12) rfl)) (hts (.native arraycopyName) (List.mem_of_getElem? (i := 13) rfl)) (hts (.static arraycopyName) (List.mem_of_getElem? (i := 14) rfl)) (hts (.initialized "java/lang/System") (List.mem_of_getElem? (i := 15) rfl)) hK hPP hDD hS 0 1 2 2 rfl rfl rfl rfl rfl (sp := 0) (dp := 0) (n := nI (min n M)) (by decide) (by decide) (nI_pos (by omega)) (by rw [hmm, show (0 : Int32).toNatClampNeg = 0 from by decide]; omega) (by rw [hmm, show (0 : Int32).toNatClampNeg = 0 from by decide]; omega) (fun _ _ => rfl) (Nat.le_of_ble_eq_true rfl) (Nat.le_of_ble_eq_true rfl) dJ7_copyOf_59c91_28 (fun H2 locs hP2 hD2 hS2 => ?_)
  refine lv_aload_n hx hb dJ7_copyOf_59c91_31 rfl (lv_at hl 0 rfl) ?_
  have e1 := hP2 0 _ rfl
  have e2 := hP2 1 _ rfl
  rw [hmm] at e2
  refine W.aret hx hb hr (Or.inr ⟨_, rfl⟩) (Or.inr ⟨_, rfl⟩) (fun t ht hW9 => ⟨⟨q, rfl, ⟨by omega, hA q (by omega)⟩, by rw [ht]; exact e2⟩, by rw [ht]; exact hS2.1, fun z hz hn9 => by
    rw [ht]
    by_cases hza : z = a
    · subst hza; exact e1.trans hP0.symm
    · exact hS2.2.1 z hz (fun h9 => h9.elim hza hn9)⟩) (fun w9 h9 => (hS2.2.2 w9 h9).elim Or.inr (fun h8 => Or.inl (hA _ h8))) dJ7_copyOf_59c91_32
set_option maxHeartbeats 4000000 in
set_option maxRecDepth 100000 in
theorem mt_X3_with (l : Launch) (D : va_G) (cU cO cI : ClassId) (A : Nat → Prop) (a n : Nat) (f : Nat → Int32) (v : Int32) (hn : n ≤ 40) : Met l yX3_with wsX3_with ({ frames := 2, cells := 1, slots := 41, locals := 90 } : Room) (va_Pc [.ref a, .int v] (fun U => va_at D vwCl (a, .inl (cI, n, .inl f)) U.heap ∧ va_K D vwCl (tc_ty cU cO cI) U ∧ ∀ q, U.heap.size ≤ q → A q)) (tc_Qn (fun q H => va_at D vwCl (q, .inl (cI, n + 1, .inl (tc_wf2 n f v))) H) A) 1 41 (fun z9 => A z9 ∨ z9 = a) := by
  refine Met.ofW (cc := cX3_with) (maxL := 3) (ret := (some (.array .int))) (by decide) rfl ?_
  intro p e s m args below meth c s₁ B hml hv
  obtain ⟨rfl, hP0, hK, hA⟩ := hv
  have hx := B.exec
  have hb := B.bytes
  have hr := B.returns
  have hts := atoms_spec (ws := wsX3_with) B.pre
  have hown : s.vm.findClass RX3 = some m.cls := findClass_of_methodNamed B.named
  have hlocks := B.notSynchronized
  have hS : va_S (fun z => z = a ∨ s.heap.size ≤ z) s.heap s.heap [] := va_S.rf
  have hl := lv_entry ([.ref a, .int v]) (n := 3) (Nat.le_of_ble_eq_true rfl)
  rw [lg_entry_eq]
  generalize (lg_sl ([.ref a, .int v]) ++ List.replicate (3 - (lg_sl ([.ref a, .int v])).length) Slot.unset).toArray = ls at hl ⊢
  have ha0 : a < s.heap.size := hP0.lt
  have hl : lv_has ls 3 [(0, .ref a), (1, .int v)] := hl
  refine lv_aload_n hx hb dX3_with_0 rfl (lv_at hl 0 rfl) ?_
  refine lv_aload_n hx hb dX3_with_1 rfl (lv_at hl 0 rfl) ?_
  refine tc_alen (v := nI n) hx hb hK hP0 2 rfl rfl dX3_with_2 ?_
  refine lv_iconst (v := nI 1) hx hb dX3_with_3 (by decide) ?_
  refine lv_iadd hx hb dX3_with_4 ?_
  rw [nI_add]
  refine tc_cn (va_runS (As := [.ref a, .int (nI (n + 1))]) (rest := []) ⟨hx, hb, hml, hown, hts⟩ (mt_J7_copyOf_59c91 l D cU cO cI A a n f (nI (n + 1)) (n + 1) rfl (by omega) (by omega) (by omega)) (va_cwS 2 hts gX3_with_J7_copyOf_59c91 rfl rfl rfl (by decide +kernel) ⟨Nat.le_of_ble_eq_true rfl, Nat.le_of_ble_eq_true rfl⟩) ⟨fun a U g mk q => ⟨q.1, q.2.1, va_K.moved (Vm.Alike.refl U.vm) q.2.2.1, q.2.2.2⟩, fun U hU hW9 => ⟨rfl, by rw [hU]; exact hP0, va_K.moved hW9.alike hK, by rw [hU]; exact hA⟩⟩ rfl rfl hl.1 rfl (lv_room (Nat.le_of_ble_eq_true rfl)) dX3_with_5 ⟨Nat.le_of_ble_eq_true rfl, Nat.le_of_ble_eq_true rfl⟩) (A0 := fun z => z = a ∨ A z) (va_S.rf) (fun z9 h9 => h9.elim Or.inr Or.inl) (fun q H locs hq et o1 hS => ?_)
  have hqa : q ≠ a := by omega
  refine lv_astore_n (lv' := [(2, .ref q), (0, .ref a), (1, .int v)]) hx hb dX3_with_8 rfl hl (by decide) rfl (fun ls hl => ?_)
  refine lv_aload_n hx hb dX3_with_9 rfl (lv_at hl 0 rfl) ?_
  refine lv_aload_n hx hb dX3_with_10 rfl (lv_at hl 1 rfl) ?_
  refine tc_alen (v := nI n) hx hb hK (hP0.kept (o1 a ha0)) 2 rfl rfl dX3_with_11 ?_
  refine lv_iload_n hx hb dX3_with_12 rfl (lv_at hl 2 rfl) ?_
  refine tc_iast2 (j := n) (nI_clamp (by omega)) hx hb hK et hS (Or.inr hq.2) 2 rfl ⟨nI_pos (by omega), Nat.lt_succ_self n⟩ dX3_with_13 (fun H2 locs e2 z2 o2 hS2 => ?_)
  refine lv_aload_n hx hb dX3_with_14 rfl (lv_at hl 0 rfl) ?_
  exact W.aret hx hb hr (Or.inr ⟨_, rfl⟩) (Or.inr ⟨_, rfl⟩) (fun t ht hW9 => ⟨⟨q, rfl, hq, by rw [ht]; exact e2⟩, by rw [ht, z2]; exact Nat.le_trans hS.1 (Nat.le_refl _), fun z hz hn9 => by rw [ht, o2 z (by omega)]; exact o1 z hz⟩) (fun w9 h9 => (hS2.2.2 w9 h9).elim Or.inr Or.inl) dX3_with_15
set_option maxHeartbeats 4000000 in
set_option maxRecDepth 100000 in
theorem mt_X3_without (l : Launch) (D : va_G) (cU cO cI : ClassId) (A : Nat → Prop) (a n : Nat) (f : Nat → Int32) (hn : 0 < n ∧ n ≤ 40) : Met l yX3_without wsX3_without ({ frames := 2, cells := 1, slots := 41, locals := 90 } : Room) (va_Pc [.ref a] (fun U => va_at D vwCl (a, .inl (cI, n, .inl f)) U.heap ∧ va_K D vwCl (tc_ty cU cO cI) U ∧ ∀ q, U.heap.size ≤ q → A q)) (tc_Qn (fun q H => va_at D vwCl (q, .inl (cI, n - 1, .inl (tc_wo2 n f))) H) A) 1 41 (fun z9 => A z9 ∨ z9 = a) := by
  refine Met.ofW (cc := cX3_without) (maxL := 1) (ret := (some (.array .int))) (by decide) rfl ?_
  intro p e s m args below meth c s₁ B hml hv
  obtain ⟨rfl, hP0, hK, hA⟩ := hv
  have hx := B.exec
  have hb := B.bytes
  have hr := B.returns
  have hts := atoms_spec (ws := wsX3_without) B.pre
  have hown : s.vm.findClass RX3 = some m.cls := findClass_of_methodNamed B.named
  have hlocks := B.notSynchronized
  have hS : va_S (fun z => z = a ∨ s.heap.size ≤ z) s.heap s.heap [] := va_S.rf
  have hl := lv_entry ([.ref a]) (n := 1) (Nat.le_of_ble_eq_true rfl)
  rw [lg_entry_eq]
  generalize (lg_sl ([.ref a]) ++ List.replicate (1 - (lg_sl ([.ref a])).length) Slot.unset).toArray = ls at hl ⊢
  have ha0 : a < s.heap.size := hP0.lt
  have hl : lv_has ls 1 [(0, .ref a)] := hl
  refine lv_aload_n hx hb dX3_without_0 rfl (lv_at hl 0 rfl) ?_
  refine lv_aload_n hx hb dX3_without_1 rfl (lv_at hl 0 rfl) ?_
  refine tc_alen (v := nI n) hx hb hK hP0 2 rfl rfl dX3_without_2 ?_
  refine lv_iconst (v := nI 1) hx hb dX3_without_3 (by decide) ?_
  refine lv_isub hx hb dX3_without_4 ?_
  rw [pk_sub hn.1]
  refine tc_cn (va_runS (As := [.ref a, .int (nI (n - 1))]) (rest := []) ⟨hx, hb, hml, hown, hts⟩ (mt_J7_copyOf_59c91 l D cU cO cI A a n f (nI (n - 1)) (n - 1) rfl (by omega) (by omega) (by omega)) (va_cwS 2 hts gX3_without_J7_copyOf_59c91 rfl rfl rfl (by decide +kernel) ⟨Nat.le_of_ble_eq_true rfl, Nat.le_of_ble_eq_true rfl⟩) ⟨fun a U g mk q => ⟨q.1, q.2.1, va_K.moved (Vm.Alike.refl U.vm) q.2.2.1, q.2.2.2⟩, fun U hU hW9 => ⟨rfl, by rw [hU]; exact hP0, va_K.moved hW9.alike hK, by rw [hU]; exact hA⟩⟩ rfl rfl hl.1 rfl (lv_room (Nat.le_of_ble_eq_true rfl)) dX3_without_5 ⟨Nat.le_of_ble_eq_true rfl, Nat.le_of_ble_eq_true rfl⟩) (A0 := fun z => z = a ∨ A z) (va_S.rf) (fun z9 h9 => h9.elim Or.inr Or.inl) (fun q H locs hq et o1 hS => ?_)
  exact W.aret hx hb hr (Or.inr ⟨_, rfl⟩) (Or.inr ⟨_, rfl⟩) (fun t ht hW9 => ⟨⟨q, rfl, hq, by rw [ht]; exact et⟩, by rw [ht]; exact hS.1, fun z hz hn9 => by rw [ht]; exact o1 z hz⟩) (fun w9 h9 => (hS.2.2 w9 h9).elim Or.inr Or.inl) dX3_without_8
