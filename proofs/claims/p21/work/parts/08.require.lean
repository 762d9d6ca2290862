def f_X2_requirePlace (x : tc_X) (a1 : Int32) : Option (Nat) := Option.bind (f_X2_isPlace a1) (fun r1 => (if r1 = 0 then some 1 else some 0))
set_option maxHeartbeats 4000000 in
set_option maxRecDepth 100000 in
theorem mt_X2_requirePlace (l : Launch) (hst : l.stackTraces = false) (D : va_G) (cU cO cI : ClassId) (e0 : Nat) (A : Nat → Prop) (E : Nat → Nat) (x : tc_X) (a1 : Int32) (k : Nat) (hF : f_X2_requirePlace x a1 = some k) : vx_Met l yX2_requirePlace wsX2_requirePlace ({ frames := 6, cells := 1, slots := 6, locals := 82 } : Room) (va_Pc [.int a1] (fun U => tc_WC D cU cO e0 A E x U.heap ∧ tc_KX D cU cO cI e0 A U)) (tc_Qx k none (tc_WC D cU cO e0 A E x) A) (tc_XC k (tc_WC D cU cO e0 A E x) A) 1 6 A := by
  refine vx_ofW (cc := cX2_requirePlace) (maxL := 1) (ret := none) (by decide) rfl ?_
  intro p e s m args below meth c s₁ B hml hno hv
  obtain ⟨rfl, hW, hKX⟩ := hv
  have hx := B.exec
  have hb := B.bytes
  have hr := B.returns
  have hts := atoms_spec (ws := wsX2_requirePlace) B.pre
  have hown : s.vm.findClass RX2 = some m.cls := findClass_of_methodNamed B.named
  have hlocks := B.notSynchronized
  have hKC := hKX.1
  have hK := hKC.1
  have hA := hKX.2.1
  have hS : va_S A s.heap s.heap [] := va_S.rf
  have hl := lv_entry ([.int a1]) (n := 1) (Nat.le_of_ble_eq_true rfl)
  rw [lg_entry_eq]
  generalize (lg_sl ([.int a1]) ++ List.replicate (1 - (lg_sl ([.int a1])).length) Slot.unset).toArray = ls at hl ⊢
  have hl : lv_has ls 1 [(0, .int a1)] := hl
  refine lv_iload_n hx hb dX2_requirePlace_0 rfl (lv_at hl 0 rfl) ?_
  obtain ⟨r1, h2, hF⟩ := tc_bi hF
  refine tc_cr (W.runS (As := [.int a1]) (rest := []) ⟨hx, hb, hml, hown, hts⟩ (mt_X2_isPlace l   a1 r1 h2) (va_cwS 1 hts gX2_requirePlace_X2_isPlace rfl rfl rfl (by decide +kernel) ⟨Nat.le_of_ble_eq_true rfl, Nat.le_of_ble_eq_true rfl⟩) ⟨fun a U g mk q => q, fun U hU hW9 => ⟨rfl, trivial⟩⟩ rfl rfl hl.1 rfl (lv_room (Nat.le_of_ble_eq_true rfl)) dX2_requirePlace_1 ⟨Nat.le_of_ble_eq_true rfl, Nat.le_of_ble_eq_true rfl⟩) ?_
  refine lv_if_ne (tgt := 17) hx hb dX2_requirePlace_4 (by decide) (fun c3 => ?_) (fun c3 => ?_)
  · have hF := tc_if hF c3
    have h91 := Option.some.inj hF
    refine W.widen (k := 1) (n := 6) (Nat.le_of_ble_eq_true rfl) (Nat.le_of_ble_eq_true rfl) ?_
    refine vx_ret ?_
    exact W.vret hx hb hr (fun t ht hW9 => ⟨⟨h91.symm, rfl, by rw [ht]; exact hW⟩, tc_F hS ht⟩) hS.2.2 dX2_requirePlace_17
  · have hF := tc_it hF c3
    have h91 := Option.some.inj hF
    obtain ⟨sa, hsa⟩ := hKX.2.2.2.2.2.1 _ (List.mem_of_getElem? (l := tc_tx) (i := 13) rfl)
    exact vx_throwS hx hb hst (names := ["java/lang/RuntimeException", "java/lang/Exception"]) hown tc_fit.1 tc_fit.2.2.2 (hts (.classLink RX2 171 "java/lang/IndexOutOfBoundsException") (List.mem_of_getElem? (i := 1) rfl)) (hts (.initialized "java/lang/IndexOutOfBoundsException") (List.mem_of_getElem? (i := 2) rfl)) hsa (tc_hat (fun w9 h9 => hts w9 (List.mem_cons_of_mem _ (List.mem_append_right _ h9))) tc_n1 hKX.2.2.2.2.2.2.1 hKX.2.2.2.2.2.2.2.1) tc_o1 hKX.2.2.1 hKX.2.2.2.1 hS (by rw [hml]; exact hl.1) dX2_requirePlace_7 dX2_requirePlace_10 dX2_requirePlace_11 dX2_requirePlace_13 dX2_requirePlace_16 (fun z9 h9 => (hno z9 h9).elim) (by decide) (Nat.le_of_ble_eq_true rfl) (Nat.le_of_ble_eq_true rfl) (Nat.le_of_ble_eq_true rfl) hlocks (h91 ▸ tc_xx (k := 1) (by decide) hS hW) hS.2.2 (Nat.le_of_ble_eq_true rfl) (Nat.le_of_ble_eq_true rfl)

def f_X2_requireCrane (x : tc_X) (a1 : Int32) : Option (Nat) := Option.bind (f_X2_isBetween a1 0 ((nI (tc_nc x)) - 1)) (fun r1 => (if r1 = 0 then some 1 else some 0))
set_option maxHeartbeats 4000000 in
set_option maxRecDepth 100000 in
theorem mt_X2_requireCrane (l : Launch) (hst : l.stackTraces = false) (D : va_G) (cU cO cI : ClassId) (e0 : Nat) (A : Nat → Prop) (E : Nat → Nat) (x : tc_X) (a1 : Int32) (k : Nat) (hF : f_X2_requireCrane x a1 = some k) : vx_Met l yX2_requireCrane wsX2_requireCrane ({ frames := 6, cells := 1, slots := 6, locals := 82 } : Room) (va_Pc [.ref (E 0), .int a1] (fun U => tc_WC D cU cO e0 A E x U.heap ∧ tc_KX D cU cO cI e0 A U)) (tc_Qx k none (tc_WC D cU cO e0 A E x) A) (tc_XC k (tc_WC D cU cO e0 A E x) A) 1 6 A := by
  refine vx_ofW (cc := cX2_requireCrane) (maxL := 2) (ret := none) (by decide) rfl ?_
  intro p e s m args below meth c s₁ B hml hno hv
  obtain ⟨rfl, hW, hKX⟩ := hv
  have hx := B.exec
  have hb := B.bytes
  have hr := B.returns
  have hts := atoms_spec (ws := wsX2_requireCrane) B.pre
  have hown : s.vm.findClass RX2 = some m.cls := findClass_of_methodNamed B.named
  have hlocks := B.notSynchronized
  have hKC := hKX.1
  have hK := hKC.1
  have hA := hKX.2.1
  have hinX2 : ∀ w ∈ wsX20, w ∈ wsX2_requireCrane := fun w9 h9 => List.mem_cons_of_mem _ (List.mem_append_left _ (List.mem_append_left _ (List.mem_append_right _ h9)))
  have hS : va_S A s.heap s.heap [] := va_S.rf
  have hl := lv_entry ([.ref (E 0), .int a1]) (n := 2) (Nat.le_of_ble_eq_true rfl)
  rw [lg_entry_eq]
  generalize (lg_sl ([.ref (E 0), .int a1]) ++ List.replicate (2 - (lg_sl ([.ref (E 0), .int a1])).length) Slot.unset).toArray = ls at hl ⊢
  have hl : lv_has ls 2 [(0, .ref (E 0)), (1, .int a1)] := hl
  refine lv_iload_n hx hb dX2_requireCrane_0 rfl (lv_at hl 1 rfl) ?_
  refine lv_iconst (v := 0) hx hb dX2_requireCrane_1 (by decide) ?_
  refine lv_aload_n hx hb dX2_requireCrane_2 rfl (lv_at hl 0 rfl) ?_
  refine tc_get (v := .ref (E 3)) hx hb hts hinX2 hown hK (hW.o) (C := RX2) (T := TX2) (N := 4) rfl 2 (by decide) (hts (.fieldLink RX2 22 "TreadCranes" "cranes" "Ljava/util/ArrayList;") (List.mem_of_getElem? (i := 3) rfl)) (fun _ h9 => h9) rfl dX2_requireCrane_3 ?_
  obtain ⟨mo, ha1, -⟩ := hW.2.2.2.1
  refine tc_cr (W.runV (As := []) (rest := [.int 0, .int a1]) ⟨hx, hb, hml, hown, hts⟩ (mt_lsize l D (E 3) mo (E 5) (nI (tc_nc x))) (cwV 0 hts gX2_requireCrane_Jx4a65c_size_8abf5 rfl rfl rfl (by decide +kernel) ⟨Nat.le_of_ble_eq_true rfl, Nat.le_of_ble_eq_true rfl⟩) ⟨fun a U g mk q => ⟨q.1, q.2.1, va_K.moved (Vm.Alike.refl U.vm) q.2.2⟩, tc_rcv ha1 hK rfl, fun U hU hW9 => ⟨rfl, by rw [hU]; exact ha1, va_K.moved hW9.alike (hK.sub [] rfl)⟩⟩ rfl rfl hl.1 rfl (lv_room (Nat.le_of_ble_eq_true rfl)) dX2_requireCrane_6 ⟨Nat.le_of_ble_eq_true rfl, Nat.le_of_ble_eq_true rfl⟩) ?_
  refine lv_iconst (v := 1) hx hb dX2_requireCrane_9 (by decide) ?_
  refine lv_isub hx hb dX2_requireCrane_10 ?_
  obtain ⟨r1, h2, hF⟩ := tc_bi hF
  refine tc_cr (W.runS (As := [.int a1, .int 0, .int ((nI (tc_nc x)) - 1)]) (rest := []) ⟨hx, hb, hml, hown, hts⟩ (mt_X2_isBetween l   a1 0 ((nI (tc_nc x)) - 1) r1 h2) (va_cwS 3 hts gX2_requireCrane_X2_isBetween rfl rfl rfl (by decide +kernel) ⟨Nat.le_of_ble_eq_true rfl, Nat.le_of_ble_eq_true rfl⟩) ⟨fun a U g mk q => q, fun U hU hW9 => ⟨rfl, trivial⟩⟩ rfl rfl hl.1 rfl (lv_room (Nat.le_of_ble_eq_true rfl)) dX2_requireCrane_11 ⟨Nat.le_of_ble_eq_true rfl, Nat.le_of_ble_eq_true rfl⟩) ?_
  refine lv_if_ne (tgt := 27) hx hb dX2_requireCrane_14 (by decide) (fun c3 => ?_) (fun c3 => ?_)
  · have hF := tc_if hF c3
    have h91 := Option.some.inj hF
    refine W.widen (k := 1) (n := 6) (Nat.le_of_ble_eq_true rfl) (Nat.le_of_ble_eq_true rfl) ?_
    refine vx_ret ?_
    exact W.vret hx hb hr (fun t ht hW9 => ⟨⟨h91.symm, rfl, by rw [ht]; exact hW⟩, tc_F hS ht⟩) hS.2.2 dX2_requireCrane_27
  · have hF := tc_it hF c3
    have h91 := Option.some.inj hF
    obtain ⟨sa, hsa⟩ := hKX.2.2.2.2.2.1 _ (List.mem_of_getElem? (l := tc_tx) (i := 14) rfl)
    exact vx_throwS hx hb hst (names := ["java/lang/RuntimeException", "java/lang/Exception"]) hown tc_fit.1 tc_fit.2.2.2 (hts (.classLink RX2 171 "java/lang/IndexOutOfBoundsException") (List.mem_of_getElem? (i := 1) rfl)) (hts (.initialized "java/lang/IndexOutOfBoundsException") (List.mem_of_getElem? (i := 2) rfl)) hsa (tc_hat (fun w9 h9 => hts w9 (List.mem_cons_of_mem _ (List.mem_append_right _ h9))) tc_n1 hKX.2.2.2.2.2.2.1 hKX.2.2.2.2.2.2.2.1) tc_o1 hKX.2.2.1 hKX.2.2.2.1 hS (by rw [hml]; exact hl.1) dX2_requireCrane_17 dX2_requireCrane_20 dX2_requireCrane_21 dX2_requireCrane_23 dX2_requireCrane_26 (fun z9 h9 => (hno z9 h9).elim) (by decide) (Nat.le_of_ble_eq_true rfl) (Nat.le_of_ble_eq_true rfl) (Nat.le_of_ble_eq_true rfl) hlocks (h91 ▸ tc_xx (k := 1) (by decide) hS hW) hS.2.2 (Nat.le_of_ble_eq_true rfl) (Nat.le_of_ble_eq_true rfl)

def f_X2_requireAnswer (x : tc_X) (a1 : Int32) (a2 : Int32) : Option (Nat) := Option.bind (f_X2_isBetween a1 0 (a2 - 1)) (fun r1 => (if r1 = 0 then some 1 else some 0))
set_option maxHeartbeats 4000000 in
set_option maxRecDepth 100000 in
theorem mt_X2_requireAnswer (l : Launch) (hst : l.stackTraces = false) (D : va_G) (cU cO cI : ClassId) (e0 : Nat) (A : Nat → Prop) (E : Nat → Nat) (x : tc_X) (a1 : Int32) (a2 : Int32) (k : Nat) (hF : f_X2_requireAnswer x a1 a2 = some k) : vx_Met l yX2_requireAnswer wsX2_requireAnswer ({ frames := 6, cells := 1, slots := 6, locals := 82 } : Room) (va_Pc [.int a1, .int a2] (fun U => tc_WC D cU cO e0 A E x U.heap ∧ tc_KX D cU cO cI e0 A U)) (tc_Qx k none (tc_WC D cU cO e0 A E x) A) (tc_XC k (tc_WC D cU cO e0 A E x) A) 1 6 A := by
  refine vx_ofW (cc := cX2_requireAnswer) (maxL := 2) (ret := none) (by decide) rfl ?_
  intro p e s m args below meth c s₁ B hml hno hv
  obtain ⟨rfl, hW, hKX⟩ := hv
  have hx := B.exec
  have hb := B.bytes
  have hr := B.returns
  have hts := atoms_spec (ws := wsX2_requireAnswer) B.pre
  have hown : s.vm.findClass RX2 = some m.cls := findClass_of_methodNamed B.named
  have hlocks := B.notSynchronized
  have hKC := hKX.1
  have hK := hKC.1
  have hA := hKX.2.1
  have hS : va_S A s.heap s.heap [] := va_S.rf
  have hl := lv_entry ([.int a1, .int a2]) (n := 2) (Nat.le_of_ble_eq_true rfl)
  rw [lg_entry_eq]
  generalize (lg_sl ([.int a1, .int a2]) ++ List.replicate (2 - (lg_sl ([.int a1, .int a2])).length) Slot.unset).toArray = ls at hl ⊢
  have hl : lv_has ls 2 [(0, .int a1), (1, .int a2)] := hl
  refine lv_iload_n hx hb dX2_requireAnswer_0 rfl (lv_at hl 0 rfl) ?_
  refine lv_iconst (v := 0) hx hb dX2_requireAnswer_1 (by decide) ?_
  refine lv_iload_n hx hb dX2_requireAnswer_2 rfl (lv_at hl 1 rfl) ?_
  refine lv_iconst (v := 1) hx hb dX2_requireAnswer_3 (by decide) ?_
  refine lv_isub hx hb dX2_requireAnswer_4 ?_
  obtain ⟨r1, h2, hF⟩ := tc_bi hF
  refine tc_cr (W.runS (As := [.int a1, .int 0, .int (a2 - 1)]) (rest := []) ⟨hx, hb, hml, hown, hts⟩ (mt_X2_isBetween l   a1 0 (a2 - 1) r1 h2) (va_cwS 3 hts gX2_requireAnswer_X2_isBetween rfl rfl rfl (by decide +kernel) ⟨Nat.le_of_ble_eq_true rfl, Nat.le_of_ble_eq_true rfl⟩) ⟨fun a U g mk q => q, fun U hU hW9 => ⟨rfl, trivial⟩⟩ rfl rfl hl.1 rfl (lv_room (Nat.le_of_ble_eq_true rfl)) dX2_requireAnswer_5 ⟨Nat.le_of_ble_eq_true rfl, Nat.le_of_ble_eq_true rfl⟩) ?_
  refine lv_if_ne (tgt := 21) hx hb dX2_requireAnswer_8 (by decide) (fun c3 => ?_) (fun c3 => ?_)
  · have hF := tc_if hF c3
    have h91 := Option.some.inj hF
    refine W.widen (k := 1) (n := 6) (Nat.le_of_ble_eq_true rfl) (Nat.le_of_ble_eq_true rfl) ?_
    refine vx_ret ?_
    exact W.vret hx hb hr (fun t ht hW9 => ⟨⟨h91.symm, rfl, by rw [ht]; exact hW⟩, tc_F hS ht⟩) hS.2.2 dX2_requireAnswer_21
  · have hF := tc_it hF c3
    have h91 := Option.some.inj hF
    obtain ⟨sa, hsa⟩ := hKX.2.2.2.2.2.1 _ (List.mem_of_getElem? (l := tc_tx) (i := 15) rfl)
    exact vx_throwS hx hb hst (names := ["java/lang/RuntimeException", "java/lang/Exception"]) hown tc_fit.1 tc_fit.2.2.2 (hts (.classLink RX2 171 "java/lang/IndexOutOfBoundsException") (List.mem_of_getElem? (i := 1) rfl)) (hts (.initialized "java/lang/IndexOutOfBoundsException") (List.mem_of_getElem? (i := 2) rfl)) hsa (tc_hat (fun w9 h9 => hts w9 (List.mem_cons_of_mem _ (List.mem_append_right _ h9))) tc_n1 hKX.2.2.2.2.2.2.1 hKX.2.2.2.2.2.2.2.1) tc_o1 hKX.2.2.1 hKX.2.2.2.1 hS (by rw [hml]; exact hl.1) dX2_requireAnswer_11 dX2_requireAnswer_14 dX2_requireAnswer_15 dX2_requireAnswer_17 dX2_requireAnswer_20 (fun z9 h9 => (hno z9 h9).elim) (by decide) (Nat.le_of_ble_eq_true rfl) (Nat.le_of_ble_eq_true rfl) (Nat.le_of_ble_eq_true rfl) hlocks (h91 ▸ tc_xx (k := 1) (by decide) hS hW) hS.2.2 (Nat.le_of_ble_eq_true rfl) (Nat.le_of_ble_eq_true rfl)

def f_X2_requireWeight (x : tc_X) (a1 : Int32) : Option (Nat) := Option.bind (f_X2_isBetween a1 1 60) (fun r1 => (if r1 = 0 then some 2 else some 0))
set_option maxHeartbeats 4000000 in
set_option maxRecDepth 100000 in
theorem mt_X2_requireWeight (l : Launch) (hst : l.stackTraces = false) (D : va_G) (cU cO cI : ClassId) (e0 : Nat) (A : Nat → Prop) (E : Nat → Nat) (x : tc_X) (a1 : Int32) (k : Nat) (hF : f_X2_requireWeight x a1 = some k) : vx_Met l yX2_requireWeight wsX2_requireWeight ({ frames := 6, cells := 1, slots := 6, locals := 82 } : Room) (va_Pc [.int a1] (fun U => tc_WC D cU cO e0 A E x U.heap ∧ tc_KX D cU cO cI e0 A U)) (tc_Qx k none (tc_WC D cU cO e0 A E x) A) (tc_XC k (tc_WC D cU cO e0 A E x) A) 1 6 A := by
  refine vx_ofW (cc := cX2_requireWeight) (maxL := 1) (ret := none) (by decide) rfl ?_
  intro p e s m args below meth c s₁ B hml hno hv
  obtain ⟨rfl, hW, hKX⟩ := hv
  have hx := B.exec
  have hb := B.bytes
  have hr := B.returns
  have hts := atoms_spec (ws := wsX2_requireWeight) B.pre
  have hown : s.vm.findClass RX2 = some m.cls := findClass_of_methodNamed B.named
  have hlocks := B.notSynchronized
  have hKC := hKX.1
  have hK := hKC.1
  have hA := hKX.2.1
  have hS : va_S A s.heap s.heap [] := va_S.rf
  have hl := lv_entry ([.int a1]) (n := 1) (Nat.le_of_ble_eq_true rfl)
  rw [lg_entry_eq]
  generalize (lg_sl ([.int a1]) ++ List.replicate (1 - (lg_sl ([.int a1])).length) Slot.unset).toArray = ls at hl ⊢
  have hl : lv_has ls 1 [(0, .int a1)] := hl
  refine lv_iload_n hx hb dX2_requireWeight_0 rfl (lv_at hl 0 rfl) ?_
  refine lv_iconst (v := 1) hx hb dX2_requireWeight_1 (by decide) ?_
  refine lv_bipush (v := 60) hx hb dX2_requireWeight_2 (by decide) ?_
  obtain ⟨r1, h2, hF⟩ := tc_bi hF
  refine tc_cr (W.runS (As := [.int a1, .int 1, .int 60]) (rest := []) ⟨hx, hb, hml, hown, hts⟩ (mt_X2_isBetween l   a1 1 60 r1 h2) (va_cwS 3 hts gX2_requireWeight_X2_isBetween rfl rfl rfl (by decide +kernel) ⟨Nat.le_of_ble_eq_true rfl, Nat.le_of_ble_eq_true rfl⟩) ⟨fun a U g mk q => q, fun U hU hW9 => ⟨rfl, trivial⟩⟩ rfl rfl hl.1 rfl (lv_room (Nat.le_of_ble_eq_true rfl)) dX2_requireWeight_4 ⟨Nat.le_of_ble_eq_true rfl, Nat.le_of_ble_eq_true rfl⟩) ?_
  refine lv_if_ne (tgt := 20) hx hb dX2_requireWeight_7 (by decide) (fun c3 => ?_) (fun c3 => ?_)
  · have hF := tc_if hF c3
    have h91 := Option.some.inj hF
    refine W.widen (k := 1) (n := 6) (Nat.le_of_ble_eq_true rfl) (Nat.le_of_ble_eq_true rfl) ?_
    refine vx_ret ?_
    exact W.vret hx hb hr (fun t ht hW9 => ⟨⟨h91.symm, rfl, by rw [ht]; exact hW⟩, tc_F hS ht⟩) hS.2.2 dX2_requireWeight_20
  · have hF := tc_it hF c3
    have h91 := Option.some.inj hF
    obtain ⟨sa, hsa⟩ := hKX.2.2.2.2.2.1 _ (List.mem_of_getElem? (l := tc_tx) (i := 16) rfl)
    exact vx_throwS hx hb hst (names := ["java/lang/RuntimeException", "java/lang/Exception"]) hown tc_fit.2.1 tc_fit.2.2.2 (hts (.classLink RX2 71 "java/lang/IllegalArgumentException") (List.mem_of_getElem? (i := 1) rfl)) (hts (.initialized "java/lang/IllegalArgumentException") (List.mem_of_getElem? (i := 2) rfl)) hsa (tc_hat (fun w9 h9 => hts w9 (List.mem_cons_of_mem _ (List.mem_append_right _ h9))) tc_n2 hKX.2.2.2.2.2.2.1 hKX.2.2.2.2.2.2.2.2.1) tc_o2 hKX.2.2.1 hKX.2.2.2.1 hS (by rw [hml]; exact hl.1) dX2_requireWeight_10 dX2_requireWeight_13 dX2_requireWeight_14 dX2_requireWeight_16 dX2_requireWeight_19 (fun z9 h9 => (hno z9 h9).elim) (by decide) (Nat.le_of_ble_eq_true rfl) (Nat.le_of_ble_eq_true rfl) (Nat.le_of_ble_eq_true rfl) hlocks (h91 ▸ tc_xx (k := 2) (by decide) hS hW) hS.2.2 (Nat.le_of_ble_eq_true rfl) (Nat.le_of_ble_eq_true rfl)

def f_X2_requireWalkers (x : tc_X) (a1 : Int32) : Option (Nat) := Option.bind (f_X2_isBetween a1 0 8) (fun r1 => (if r1 = 0 then some 2 else some 0))
set_option maxHeartbeats 4000000 in
set_option maxRecDepth 100000 in
theorem mt_X2_requireWalkers (l : Launch) (hst : l.stackTraces = false) (D : va_G) (cU cO cI : ClassId) (e0 : Nat) (A : Nat → Prop) (E : Nat → Nat) (x : tc_X) (a1 : Int32) (k : Nat) (hF : f_X2_requireWalkers x a1 = some k) : vx_Met l yX2_requireWalkers wsX2_requireWalkers ({ frames := 6, cells := 1, slots := 6, locals := 82 } : Room) (va_Pc [.int a1] (fun U => tc_WC D cU cO e0 A E x U.heap ∧ tc_KX D cU cO cI e0 A U)) (tc_Qx k none (tc_WC D cU cO e0 A E x) A) (tc_XC k (tc_WC D cU cO e0 A E x) A) 1 6 A := by
  refine vx_ofW (cc := cX2_requireWalkers) (maxL := 1) (ret := none) (by decide) rfl ?_
  intro p e s m args below meth c s₁ B hml hno hv
  obtain ⟨rfl, hW, hKX⟩ := hv
  have hx := B.exec
  have hb := B.bytes
  have hr := B.returns
  have hts := atoms_spec (ws := wsX2_requireWalkers) B.pre
  have hown : s.vm.findClass RX2 = some m.cls := findClass_of_methodNamed B.named
  have hlocks := B.notSynchronized
  have hKC := hKX.1
  have hK := hKC.1
  have hA := hKX.2.1
  have hS : va_S A s.heap s.heap [] := va_S.rf
  have hl := lv_entry ([.int a1]) (n := 1) (Nat.le_of_ble_eq_true rfl)
  rw [lg_entry_eq]
  generalize (lg_sl ([.int a1]) ++ List.replicate (1 - (lg_sl ([.int a1])).length) Slot.unset).toArray = ls at hl ⊢
  have hl : lv_has ls 1 [(0, .int a1)] := hl
  refine lv_iload_n hx hb dX2_requireWalkers_0 rfl (lv_at hl 0 rfl) ?_
  refine lv_iconst (v := 0) hx hb dX2_requireWalkers_1 (by decide) ?_
  refine lv_bipush (v := 8) hx hb dX2_requireWalkers_2 (by decide) ?_
  obtain ⟨r1, h2, hF⟩ := tc_bi hF
  refine tc_cr (W.runS (As := [.int a1, .int 0, .int 8]) (rest := []) ⟨hx, hb, hml, hown, hts⟩ (mt_X2_isBetween l   a1 0 8 r1 h2) (va_cwS 3 hts gX2_requireWalkers_X2_isBetween rfl rfl rfl (by decide +kernel) ⟨Nat.le_of_ble_eq_true rfl, Nat.le_of_ble_eq_true rfl⟩) ⟨fun a U g mk q => q, fun U hU hW9 => ⟨rfl, trivial⟩⟩ rfl rfl hl.1 rfl (lv_room (Nat.le_of_ble_eq_true rfl)) dX2_requireWalkers_4 ⟨Nat.le_of_ble_eq_true rfl, Nat.le_of_ble_eq_true rfl⟩) ?_
  refine lv_if_ne (tgt := 20) hx hb dX2_requireWalkers_7 (by decide) (fun c3 => ?_) (fun c3 => ?_)
  · have hF := tc_if hF c3
    have h91 := Option.some.inj hF
    refine W.widen (k := 1) (n := 6) (Nat.le_of_ble_eq_true rfl) (Nat.le_of_ble_eq_true rfl) ?_
    refine vx_ret ?_
    exact W.vret hx hb hr (fun t ht hW9 => ⟨⟨h91.symm, rfl, by rw [ht]; exact hW⟩, tc_F hS ht⟩) hS.2.2 dX2_requireWalkers_20
  · have hF := tc_it hF c3
    have h91 := Option.some.inj hF
    obtain ⟨sa, hsa⟩ := hKX.2.2.2.2.2.1 _ (List.mem_of_getElem? (l := tc_tx) (i := 17) rfl)
    exact vx_throwS hx hb hst (names := ["java/lang/RuntimeException", "java/lang/Exception"]) hown tc_fit.2.1 tc_fit.2.2.2 (hts (.classLink RX2 71 "java/lang/IllegalArgumentException") (List.mem_of_getElem? (i := 1) rfl)) (hts (.initialized "java/lang/IllegalArgumentException") (List.mem_of_getElem? (i := 2) rfl)) hsa (tc_hat (fun w9 h9 => hts w9 (List.mem_cons_of_mem _ (List.mem_append_right _ h9))) tc_n2 hKX.2.2.2.2.2.2.1 hKX.2.2.2.2.2.2.2.2.1) tc_o2 hKX.2.2.1 hKX.2.2.2.1 hS (by rw [hml]; exact hl.1) dX2_requireWalkers_10 dX2_requireWalkers_13 dX2_requireWalkers_14 dX2_requireWalkers_16 dX2_requireWalkers_19 (fun z9 h9 => (hno z9 h9).elim) (by decide) (Nat.le_of_ble_eq_true rfl) (Nat.le_of_ble_eq_true rfl) (Nat.le_of_ble_eq_true rfl) hlocks (h91 ▸ tc_xx (k := 2) (by decide) hS hW) hS.2.2 (Nat.le_of_ble_eq_true rfl) (Nat.le_of_ble_eq_true rfl)

def f_X2_place (x : tc_X) (a1 : Int32) (a2 : Int32) : Option (Nat × Int32) := Option.bind (f_X2_requirePlace x a1) (fun k1 => (if k1 = 0 then Option.bind (f_X2_requireAnswer x a2 4) (fun k4 => (if k4 = 0 then Option.bind (f_X2_placeAnswer x a1 a2) (fun r7 => some (0, r7)) else some (k4, 0))) else some (k1, 0)))
set_option maxHeartbeats 4000000 in
set_option maxRecDepth 100000 in
theorem mt_X2_place (l : Launch) (hst : l.stackTraces = false) (D : va_G) (cU cO cI : ClassId) (e0 : Nat) (A : Nat → Prop) (E : Nat → Nat) (x : tc_X) (a1 : Int32) (a2 : Int32) (k : Nat) (r : Int32) (hF : f_X2_place x a1 a2 = some (k, r)) : vx_Met l yX2_place wsX2_place ({ frames := 7, cells := 2, slots := 12, locals := 112 } : Room) (va_Pc [.ref (E 0), .int a1, .int a2] (fun U => tc_WC D cU cO e0 A E x U.heap ∧ tc_KX D cU cO cI e0 A U)) (tc_Qx k (some (.int r)) (tc_WC D cU cO e0 A E x) A) (tc_XC k (tc_WC D cU cO e0 A E x) A) 2 12 A := by
  refine vx_ofW (cc := cX2_place) (maxL := 3) (ret := (some .int)) (by decide) rfl ?_
  intro p e s m args below meth c s₁ B hml hno hv
  obtain ⟨rfl, hW, hKX⟩ := hv
  have hx := B.exec
  have hb := B.bytes
  have hr := B.returns
  have hts := atoms_spec (ws := wsX2_place) B.pre
  have hown : s.vm.findClass RX2 = some m.cls := findClass_of_methodNamed B.named
  have hlocks := B.notSynchronized
  have hKC := hKX.1
  have hK := hKC.1
  have hA := hKX.2.1
  have hS : va_S A s.heap s.heap [] := va_S.rf
  have hl := lv_entry ([.ref (E 0), .int a1, .int a2]) (n := 3) (Nat.le_of_ble_eq_true rfl)
  rw [lg_entry_eq]
  generalize (lg_sl ([.ref (E 0), .int a1, .int a2]) ++ List.replicate (3 - (lg_sl ([.ref (E 0), .int a1, .int a2])).length) Slot.unset).toArray = ls at hl ⊢
  have hl : lv_has ls 3 [(0, .ref (E 0)), (1, .int a1), (2, .int a2)] := hl
  refine lv_iload_n hx hb dX2_place_0 rfl (lv_at hl 1 rfl) ?_
  obtain ⟨k1, h2, hF⟩ := tc_bi hF
  refine tc_cxv (vx_runS (As := [.int a1]) (rest := []) ⟨hx, hb, hml, hown, hts⟩ (mt_X2_requirePlace l hst D cU cO cI e0 A E x a1 k1 h2) (va_cwS 1 hts gX2_place_X2_requirePlace rfl rfl rfl (by decide +kernel) ⟨Nat.le_of_ble_eq_true rfl, Nat.le_of_ble_eq_true rfl⟩) ⟨fun a U g mk q => ⟨q.1, q.2.1, q.2.2.call⟩, fun U hU hW9 => ⟨rfl, by rw [hU]; exact hW, hKX.go hS hU hW9⟩⟩ rfl rfl hl.1 rfl (lv_room (Nat.le_of_ble_eq_true rfl)) dX2_place_1 ⟨Nat.le_of_ble_eq_true rfl, Nat.le_of_ble_eq_true rfl⟩) hS (fun _ _ h => h) (fun _ h => h) (fun _ _ h => h) (fun ce q9 H locs c3 hW z1 o1 hS hce hcv hcl => ?_) (fun H locs c3 hW z1 o1 hS => ?_)
  · have hF := tc_if hF c3
    obtain ⟨h91, h92⟩ := tc_pr2 (Option.some.inj hF)
    exact vx_out (fun z9 h9 => (hno z9 h9).elim) hlocks hce hcv hcl (fun t ht hal => ⟨⟨h91 ▸ c3, by rw [h91], by rw [ht]; exact hW⟩, tc_F hS ht⟩) hS.2.2 (Nat.le_of_ble_eq_true rfl) (Nat.le_of_ble_eq_true rfl)
  · have hF := tc_it hF c3
    refine lv_iload_n hx hb dX2_place_4 rfl (lv_at hl 2 rfl) ?_
    refine lv_iconst (v := 4) hx hb dX2_place_5 (by decide) ?_
    obtain ⟨k4, h5, hF⟩ := tc_bi hF
    refine tc_cxv (vx_runS (As := [.int a2, .int 4]) (rest := []) ⟨hx, hb, hml, hown, hts⟩ (mt_X2_requireAnswer l hst D cU cO cI e0 A E x a2 4 k4 h5) (va_cwS 2 hts gX2_place_X2_requireAnswer rfl rfl rfl (by decide +kernel) ⟨Nat.le_of_ble_eq_true rfl, Nat.le_of_ble_eq_true rfl⟩) ⟨fun a U g mk q => ⟨q.1, q.2.1, q.2.2.call⟩, fun U hU hW9 => ⟨rfl, by rw [hU]; exact hW, hKX.go hS hU hW9⟩⟩ rfl rfl hl.1 rfl (lv_room (Nat.le_of_ble_eq_true rfl)) dX2_place_6 ⟨Nat.le_of_ble_eq_true rfl, Nat.le_of_ble_eq_true rfl⟩) hS (fun _ _ h => h) (fun _ h => h) (fun _ _ h => h) (fun ce q9 H locs c6 hW z1 o1 hS hce hcv hcl => ?_) (fun H locs c6 hW z1 o1 hS => ?_)
    · have hF := tc_if hF c6
      obtain ⟨h91, h92⟩ := tc_pr2 (Option.some.inj hF)
      exact vx_out (fun z9 h9 => (hno z9 h9).elim) hlocks hce hcv hcl (fun t ht hal => ⟨⟨h91 ▸ c6, by rw [h91], by rw [ht]; exact hW⟩, tc_F hS ht⟩) hS.2.2 (Nat.le_of_ble_eq_true rfl) (Nat.le_of_ble_eq_true rfl)
    · have hF := tc_it hF c6
      refine lv_aload_n hx hb dX2_place_9 rfl (lv_at hl 0 rfl) ?_
      refine lv_iload_n hx hb dX2_place_10 rfl (lv_at hl 1 rfl) ?_
      refine lv_iload_n hx hb dX2_place_11 rfl (lv_at hl 2 rfl) ?_
      obtain ⟨r7, h8, hF⟩ := tc_bi hF
      refine tc_cr (W.runV (As := [.int a1, .int a2]) (rest := []) ⟨hx, hb, hml, hown, hts⟩ (mt_X2_placeAnswer l D cU cO cI e0 A E x a1 a2 r7 h8) (cwV 2 hts gX2_place_X2_placeAnswer rfl rfl rfl (by decide +kernel) ⟨Nat.le_of_ble_eq_true rfl, Nat.le_of_ble_eq_true rfl⟩) ⟨fun a U g mk q => ⟨q.1, q.2.1, q.2.2.call⟩, tc_rcv (hW.o) hK rfl, fun U hU hW9 => ⟨rfl, by rw [hU]; exact hW, hKC.warm hW9⟩⟩ rfl rfl hl.1 rfl (lv_room (Nat.le_of_ble_eq_true rfl)) dX2_place_12 ⟨Nat.le_of_ble_eq_true rfl, Nat.le_of_ble_eq_true rfl⟩) ?_
      obtain ⟨h91, h92⟩ := tc_pr2 (Option.some.inj hF)
      refine W.widen (k := 2) (n := 12) (Nat.le_of_ble_eq_true rfl) (Nat.le_of_ble_eq_true rfl) ?_
      refine vx_ret ?_
      exact W.iret hx hb hr (fun t ht hW9 => ⟨⟨h91.symm, by rw [← h92], by rw [ht]; exact hW⟩, tc_F hS ht⟩) hS.2.2 dX2_place_15

def f_X2_barrel (x : tc_X) (a1 : Int32) (a2 : Int32) : Option (Nat × Int32) := Option.bind (f_X2_isBetween a1 0 ((nI (tc_nb x)) - 1)) (fun r1 => (if r1 = 0 then some (1, 0) else Option.bind (f_X2_requireAnswer x a2 5) (fun k4 => (if k4 = 0 then (if ¬ a1 < 0 ∧ a1.toNatClampNeg < tc_nb x then tc_let a1.toNatClampNeg (fun b8 => Option.bind (f_X2_barrelAnswer x b8 a2) (fun r10 => some (0, r10))) else none) else some (k4, 0)))))
set_option maxHeartbeats 4000000 in
set_option maxRecDepth 100000 in
theorem mt_X2_barrel (l : Launch) (hst : l.stackTraces = false) (D : va_G) (cU cO cI : ClassId) (e0 : Nat) (A : Nat → Prop) (E : Nat → Nat) (x : tc_X) (a1 : Int32) (a2 : Int32) (k : Nat) (r : Int32) (hF : f_X2_barrel x a1 a2 = some (k, r)) : vx_Met l yX2_barrel wsX2_barrel ({ frames := 7, cells := 1, slots := 6, locals := 107 } : Room) (va_Pc [.ref (E 0), .int a1, .int a2] (fun U => tc_WC D cU cO e0 A E x U.heap ∧ tc_KX D cU cO cI e0 A U)) (tc_Qx k (some (.int r)) (tc_WC D cU cO e0 A E x) A) (tc_XC k (tc_WC D cU cO e0 A E x) A) 1 6 A := by
  refine vx_ofW (cc := cX2_barrel) (maxL := 3) (ret := (some .int)) (by decide) rfl ?_
  intro p e s m args below meth c s₁ B hml hno hv
  obtain ⟨rfl, hW, hKX⟩ := hv
  have hx := B.exec
  have hb := B.bytes
  have hr := B.returns
  have hts := atoms_spec (ws := wsX2_barrel) B.pre
  have hown : s.vm.findClass RX2 = some m.cls := findClass_of_methodNamed B.named
  have hlocks := B.notSynchronized
  have hKC := hKX.1
  have hK := hKC.1
  have hA := hKX.2.1
  have hinX2 : ∀ w ∈ wsX20, w ∈ wsX2_barrel := fun w9 h9 => List.mem_cons_of_mem _ (List.mem_append_left _ (List.mem_append_left _ (List.mem_append_left _ (List.mem_append_right _ h9))))
  have hS : va_S A s.heap s.heap [] := va_S.rf
  have hl := lv_entry ([.ref (E 0), .int a1, .int a2]) (n := 3) (Nat.le_of_ble_eq_true rfl)
  rw [lg_entry_eq]
  generalize (lg_sl ([.ref (E 0), .int a1, .int a2]) ++ List.replicate (3 - (lg_sl ([.ref (E 0), .int a1, .int a2])).length) Slot.unset).toArray = ls at hl ⊢
  have hl : lv_has ls 3 [(0, .ref (E 0)), (1, .int a1), (2, .int a2)] := hl
  refine lv_iload_n hx hb dX2_barrel_0 rfl (lv_at hl 1 rfl) ?_
  refine lv_iconst (v := 0) hx hb dX2_barrel_1 (by decide) ?_
  refine lv_aload_n hx hb dX2_barrel_2 rfl (lv_at hl 0 rfl) ?_
  refine tc_get (v := .ref (E 2)) hx hb hts hinX2 hown hK (hW.o) (C := RX2) (T := TX2) (N := 4) rfl 1 (by decide) (hts (.fieldLink RX2 18 "TreadCranes" "barrels" "Ljava/util/ArrayList;") (List.mem_of_getElem? (i := 3) rfl)) (fun _ h9 => h9) rfl dX2_barrel_3 ?_
  obtain ⟨mo, ha1, -⟩ := hW.2.2.1
  refine tc_cr (W.runV (As := []) (rest := [.int 0, .int a1]) ⟨hx, hb, hml, hown, hts⟩ (mt_lsize l D (E 2) mo (E 4) (nI (tc_nb x))) (cwV 0 hts gX2_barrel_Jx4a65c_size_8abf5 rfl rfl rfl (by decide +kernel) ⟨Nat.le_of_ble_eq_true rfl, Nat.le_of_ble_eq_true rfl⟩) ⟨fun a U g mk q => ⟨q.1, q.2.1, va_K.moved (Vm.Alike.refl U.vm) q.2.2⟩, tc_rcv ha1 hK rfl, fun U hU hW9 => ⟨rfl, by rw [hU]; exact ha1, va_K.moved hW9.alike (hK.sub [] rfl)⟩⟩ rfl rfl hl.1 rfl (lv_room (Nat.le_of_ble_eq_true rfl)) dX2_barrel_6 ⟨Nat.le_of_ble_eq_true rfl, Nat.le_of_ble_eq_true rfl⟩) ?_
  refine lv_iconst (v := 1) hx hb dX2_barrel_9 (by decide) ?_
  refine lv_isub hx hb dX2_barrel_10 ?_
  obtain ⟨r1, h2, hF⟩ := tc_bi hF
  refine tc_cr (W.runS (As := [.int a1, .int 0, .int ((nI (tc_nb x)) - 1)]) (rest := []) ⟨hx, hb, hml, hown, hts⟩ (mt_X2_isBetween l   a1 0 ((nI (tc_nb x)) - 1) r1 h2) (va_cwS 3 hts gX2_barrel_X2_isBetween rfl rfl rfl (by decide +kernel) ⟨Nat.le_of_ble_eq_true rfl, Nat.le_of_ble_eq_true rfl⟩) ⟨fun a U g mk q => q, fun U hU hW9 => ⟨rfl, trivial⟩⟩ rfl rfl hl.1 rfl (lv_room (Nat.le_of_ble_eq_true rfl)) dX2_barrel_11 ⟨Nat.le_of_ble_eq_true rfl, Nat.le_of_ble_eq_true rfl⟩) ?_
  refine lv_if_ne (tgt := 27) hx hb dX2_barrel_14 (by decide) (fun c3 => ?_) (fun c3 => ?_)
  · have hF := tc_if hF c3
    refine lv_iload_n hx hb dX2_barrel_27 rfl (lv_at hl 2 rfl) ?_
    refine lv_iconst (v := 5) hx hb dX2_barrel_28 (by decide) ?_
    obtain ⟨k4, h5, hF⟩ := tc_bi hF
    refine tc_cxv (vx_runS (As := [.int a2, .int 5]) (rest := []) ⟨hx, hb, hml, hown, hts⟩ (mt_X2_requireAnswer l hst D cU cO cI e0 A E x a2 5 k4 h5) (va_cwS 2 hts gX2_barrel_X2_requireAnswer rfl rfl rfl (by decide +kernel) ⟨Nat.le_of_ble_eq_true rfl, Nat.le_of_ble_eq_true rfl⟩) ⟨fun a U g mk q => ⟨q.1, q.2.1, q.2.2.call⟩, fun U hU hW9 => ⟨rfl, by rw [hU]; exact hW, hKX.go hS hU hW9⟩⟩ rfl rfl hl.1 rfl (lv_room (Nat.le_of_ble_eq_true rfl)) dX2_barrel_29 ⟨Nat.le_of_ble_eq_true rfl, Nat.le_of_ble_eq_true rfl⟩) hS (fun _ _ h => h) (fun _ h => h) (fun _ _ h => h) (fun ce q9 H locs c6 hW z1 o1 hS hce hcv hcl => ?_) (fun H locs c6 hW z1 o1 hS => ?_)
    · have hF := tc_if hF c6
      obtain ⟨h91, h92⟩ := tc_pr2 (Option.some.inj hF)
      exact vx_out (fun z9 h9 => (hno z9 h9).elim) hlocks hce hcv hcl (fun t ht hal => ⟨⟨h91 ▸ c6, by rw [h91], by rw [ht]; exact hW⟩, tc_F hS ht⟩) hS.2.2 (Nat.le_of_ble_eq_true rfl) (Nat.le_of_ble_eq_true rfl)
    · have hF := tc_it hF c6
      refine lv_aload_n hx hb dX2_barrel_32 rfl (lv_at hl 0 rfl) ?_
      refine lv_aload_n hx hb dX2_barrel_33 rfl (lv_at hl 0 rfl) ?_
      refine tc_get (v := .ref (E 2)) hx hb hts hinX2 hown hK (hW.o) (C := RX2) (T := TX2) (N := 4) rfl 1 (by decide) (hts (.fieldLink RX2 18 "TreadCranes" "barrels" "Ljava/util/ArrayList;") (List.mem_of_getElem? (i := 3) rfl)) (fun _ h9 => h9) rfl dX2_barrel_34 ?_
      refine lv_iload_n hx hb dX2_barrel_37 rfl (lv_at hl 1 rfl) ?_
      obtain ⟨g7, hF⟩ := tc_ob hF
      obtain ⟨b8, eb8⟩ : ∃ z : Nat, z = a1.toNatClampNeg := ⟨_, rfl⟩
      have hF := tc_lt hF eb8
      have g9 : b8 < tc_nb x := by rw [eb8]; exact g7.2
      obtain ⟨mo, cap, fl, ha1, ha2, ha3, ha4, ha5⟩ := tc_Li.full hW.2.2.1 (Nat.lt_of_le_of_lt (Nat.zero_le _) g7.2)
      refine tc_cr (W.runV (As := [.int a1]) (rest := [.ref (E 0)]) ⟨hx, hb, hml, hown, hts⟩ (mt_lget l D cO (E 2) mo (E 4) (tc_nb x) cap fl a1 (E (6 + b8)) g7 ha3 ha4 (by rw [eb8]; exact ha5 _ g7.2)) (cwV 1 hts gX2_barrel_Jx4a65c_get_915e3 rfl rfl rfl (by decide +kernel) ⟨Nat.le_of_ble_eq_true rfl, Nat.le_of_ble_eq_true rfl⟩) ⟨fun a U g mk q => ⟨q.1, q.2.1, q.2.2.1, va_K.moved (Vm.Alike.refl U.vm) q.2.2.2⟩, tc_rcv ha1 hK rfl, fun U hU hW9 => ⟨rfl, by rw [hU]; exact ha1, by rw [hU]; exact ha2, va_K.moved hW9.alike (hK.sub [1] rfl)⟩⟩ rfl rfl hl.1 rfl (lv_room (Nat.le_of_ble_eq_true rfl)) dX2_barrel_38 ⟨Nat.le_of_ble_eq_true rfl, Nat.le_of_ble_eq_true rfl⟩) ?_
      refine va_castS hx hb hown (hts (.classLink RX2 9 "TreadCranes$Barrel") (List.mem_of_getElem? (i := 4) rfl)) ((hK.1 1 _ rfl).2) (tc_rcv (hW.b g9) hK rfl) dX2_barrel_41 ?_
      refine lv_iload_n hx hb dX2_barrel_44 rfl (lv_at hl 2 rfl) ?_
      obtain ⟨r10, h11, hF⟩ := tc_bi hF
      refine tc_cr (W.runV (As := [.ref (E (6 + b8)), .int a2]) (rest := []) ⟨hx, hb, hml, hown, hts⟩ (mt_X2_barrelAnswer l D cU cO cI e0 A E x b8 a2 r10 h11) (cwV 2 hts gX2_barrel_X2_barrelAnswer rfl rfl rfl (by decide +kernel) ⟨Nat.le_of_ble_eq_true rfl, Nat.le_of_ble_eq_true rfl⟩) ⟨fun a U g mk q => ⟨q.1, q.2.1, q.2.2.call⟩, tc_rcv (hW.o) hK rfl, fun U hU hW9 => ⟨rfl, by rw [hU]; exact hW, hKC.warm hW9⟩⟩ rfl rfl hl.1 rfl (lv_room (Nat.le_of_ble_eq_true rfl)) dX2_barrel_45 ⟨Nat.le_of_ble_eq_true rfl, Nat.le_of_ble_eq_true rfl⟩) ?_
      obtain ⟨h91, h92⟩ := tc_pr2 (Option.some.inj hF)
      refine W.widen (k := 1) (n := 6) (Nat.le_of_ble_eq_true rfl) (Nat.le_of_ble_eq_true rfl) ?_
      refine vx_ret ?_
      exact W.iret hx hb hr (fun t ht hW9 => ⟨⟨h91.symm, by rw [← h92], by rw [ht]; exact hW⟩, tc_F hS ht⟩) hS.2.2 dX2_barrel_48
  · have hF := tc_it hF c3
    obtain ⟨h91, h92⟩ := tc_pr2 (Option.some.inj hF)
    obtain ⟨sa, hsa⟩ := hKX.2.2.2.2.2.1 _ (List.mem_of_getElem? (l := tc_tx) (i := 12) rfl)
    exact vx_throwS hx hb hst (names := ["java/lang/RuntimeException", "java/lang/Exception"]) hown tc_fit.1 tc_fit.2.2.2 (hts (.classLink RX2 171 "java/lang/IndexOutOfBoundsException") (List.mem_of_getElem? (i := 1) rfl)) (hts (.initialized "java/lang/IndexOutOfBoundsException") (List.mem_of_getElem? (i := 2) rfl)) hsa (tc_hat (fun w9 h9 => hts w9 (List.mem_cons_of_mem _ (List.mem_append_right _ h9))) tc_n1 hKX.2.2.2.2.2.2.1 hKX.2.2.2.2.2.2.2.1) tc_o1 hKX.2.2.1 hKX.2.2.2.1 hS (by rw [hml]; exact hl.1) dX2_barrel_17 dX2_barrel_20 dX2_barrel_21 dX2_barrel_23 dX2_barrel_26 (fun z9 h9 => (hno z9 h9).elim) (by decide) (Nat.le_of_ble_eq_true rfl) (Nat.le_of_ble_eq_true rfl) (Nat.le_of_ble_eq_true rfl) hlocks (h91 ▸ tc_xx (k := 1) (by decide) hS hW) hS.2.2 (Nat.le_of_ble_eq_true rfl) (Nat.le_of_ble_eq_true rfl)

def f_X2_crane (x : tc_X) (a1 : Int32) (a2 : Int32) : Option (Nat × Int32) := Option.bind (f_X2_requireCrane x a1) (fun k1 => (if k1 = 0 then Option.bind (f_X2_requireAnswer x a2 9) (fun k4 => (if k4 = 0 then (if ¬ a1 < 0 ∧ a1.toNatClampNeg < tc_nc x then tc_let a1.toNatClampNeg (fun b8 => Option.bind (f_X2_craneAnswer x b8 a2) (fun r10 => some (0, r10))) else none) else some (k4, 0))) else some (k1, 0)))
set_option maxHeartbeats 4000000 in
set_option maxRecDepth 100000 in
theorem mt_X2_crane (l : Launch) (hst : l.stackTraces = false) (D : va_G) (cU cO cI : ClassId) (e0 : Nat) (A : Nat → Prop) (E : Nat → Nat) (x : tc_X) (a1 : Int32) (a2 : Int32) (k : Nat) (r : Int32) (hF : f_X2_crane x a1 a2 = some (k, r)) : vx_Met l yX2_crane wsX2_crane ({ frames := 7, cells := 2, slots := 12, locals := 103 } : Room) (va_Pc [.ref (E 0), .int a1, .int a2] (fun U => tc_WC D cU cO e0 A E x U.heap ∧ tc_KX D cU cO cI e0 A U)) (tc_Qx k (some (.int r)) (tc_WC D cU cO e0 A E x) A) (tc_XC k (tc_WC D cU cO e0 A E x) A) 2 12 A := by
  refine vx_ofW (cc := cX2_crane) (maxL := 3) (ret := (some .int)) (by decide) rfl ?_
  intro p e s m args below meth c s₁ B hml hno hv
  obtain ⟨rfl, hW, hKX⟩ := hv
  have hx := B.exec
  have hb := B.bytes
  have hr := B.returns
  have hts := atoms_spec (ws := wsX2_crane) B.pre
  have hown : s.vm.findClass RX2 = some m.cls := findClass_of_methodNamed B.named
  have hlocks := B.notSynchronized
  have hKC := hKX.1
  have hK := hKC.1
  have hA := hKX.2.1
  have hinX2 : ∀ w ∈ wsX20, w ∈ wsX2_crane := fun w9 h9 => List.mem_cons_of_mem _ (List.mem_append_left _ (List.mem_append_left _ (List.mem_append_left _ (List.mem_append_left _ (List.mem_append_right _ h9)))))
  have hS : va_S A s.heap s.heap [] := va_S.rf
  have hl := lv_entry ([.ref (E 0), .int a1, .int a2]) (n := 3) (Nat.le_of_ble_eq_true rfl)
  rw [lg_entry_eq]
  generalize (lg_sl ([.ref (E 0), .int a1, .int a2]) ++ List.replicate (3 - (lg_sl ([.ref (E 0), .int a1, .int a2])).length) Slot.unset).toArray = ls at hl ⊢
  have hl : lv_has ls 3 [(0, .ref (E 0)), (1, .int a1), (2, .int a2)] := hl
  refine lv_aload_n hx hb dX2_crane_0 rfl (lv_at hl 0 rfl) ?_
  refine lv_iload_n hx hb dX2_crane_1 rfl (lv_at hl 1 rfl) ?_
  obtain ⟨k1, h2, hF⟩ := tc_bi hF
  refine tc_cxv (vx_runV (As := [.int a1]) (rest := []) ⟨hx, hb, hml, hown, hts⟩ (mt_X2_requireCrane l hst D cU cO cI e0 A E x a1 k1 h2) (cwV 1 hts gX2_crane_X2_requireCrane rfl rfl rfl (by decide +kernel) ⟨Nat.le_of_ble_eq_true rfl, Nat.le_of_ble_eq_true rfl⟩) ⟨fun a U g mk q => ⟨q.1, q.2.1, q.2.2.call⟩, tc_rcv (hW.o) hK rfl, fun U hU hW9 => ⟨rfl, by rw [hU]; exact hW, hKX.go hS hU hW9⟩⟩ rfl rfl hl.1 rfl (lv_room (Nat.le_of_ble_eq_true rfl)) dX2_crane_2 ⟨Nat.le_of_ble_eq_true rfl, Nat.le_of_ble_eq_true rfl⟩) hS (fun _ _ h => h) (fun _ h => h) (fun _ _ h => h) (fun ce q9 H locs c3 hW z1 o1 hS hce hcv hcl => ?_) (fun H locs c3 hW z1 o1 hS => ?_)
  · have hF := tc_if hF c3
    obtain ⟨h91, h92⟩ := tc_pr2 (Option.some.inj hF)
    exact vx_out (fun z9 h9 => (hno z9 h9).elim) hlocks hce hcv hcl (fun t ht hal => ⟨⟨h91 ▸ c3, by rw [h91], by rw [ht]; exact hW⟩, tc_F hS ht⟩) hS.2.2 (Nat.le_of_ble_eq_true rfl) (Nat.le_of_ble_eq_true rfl)
  · have hF := tc_it hF c3
    refine lv_iload_n hx hb dX2_crane_5 rfl (lv_at hl 2 rfl) ?_
    refine lv_bipush (v := 9) hx hb dX2_crane_6 (by decide) ?_
    obtain ⟨k4, h5, hF⟩ := tc_bi hF
    refine tc_cxv (vx_runS (As := [.int a2, .int 9]) (rest := []) ⟨hx, hb, hml, hown, hts⟩ (mt_X2_requireAnswer l hst D cU cO cI e0 A E x a2 9 k4 h5) (va_cwS 2 hts gX2_crane_X2_requireAnswer rfl rfl rfl (by decide +kernel) ⟨Nat.le_of_ble_eq_true rfl, Nat.le_of_ble_eq_true rfl⟩) ⟨fun a U g mk q => ⟨q.1, q.2.1, q.2.2.call⟩, fun U hU hW9 => ⟨rfl, by rw [hU]; exact hW, hKX.go hS hU hW9⟩⟩ rfl rfl hl.1 rfl (lv_room (Nat.le_of_ble_eq_true rfl)) dX2_crane_8 ⟨Nat.le_of_ble_eq_true rfl, Nat.le_of_ble_eq_true rfl⟩) hS (fun _ _ h => h) (fun _ h => h) (fun _ _ h => h) (fun ce q9 H locs c6 hW z1 o1 hS hce hcv hcl => ?_) (fun H locs c6 hW z1 o1 hS => ?_)
    · have hF := tc_if hF c6
      obtain ⟨h91, h92⟩ := tc_pr2 (Option.some.inj hF)
      exact vx_out (fun z9 h9 => (hno z9 h9).elim) hlocks hce hcv hcl (fun t ht hal => ⟨⟨h91 ▸ c6, by rw [h91], by rw [ht]; exact hW⟩, tc_F hS ht⟩) hS.2.2 (Nat.le_of_ble_eq_true rfl) (Nat.le_of_ble_eq_true rfl)
    · have hF := tc_it hF c6
      refine lv_aload_n hx hb dX2_crane_11 rfl (lv_at hl 0 rfl) ?_
      refine tc_get (v := .ref (E 3)) hx hb hts hinX2 hown hK (hW.o) (C := RX2) (T := TX2) (N := 4) rfl 2 (by decide) (hts (.fieldLink RX2 22 "TreadCranes" "cranes" "Ljava/util/ArrayList;") (List.mem_of_getElem? (i := 1) rfl)) (fun _ h9 => h9) rfl dX2_crane_12 ?_
      refine lv_iload_n hx hb dX2_crane_15 rfl (lv_at hl 1 rfl) ?_
      obtain ⟨g7, hF⟩ := tc_ob hF
      obtain ⟨b8, eb8⟩ : ∃ z : Nat, z = a1.toNatClampNeg := ⟨_, rfl⟩
      have hF := tc_lt hF eb8
      have g9 : b8 < tc_nc x := by rw [eb8]; exact g7.2
      obtain ⟨mo, cap, fl, ha1, ha2, ha3, ha4, ha5⟩ := tc_Li.full hW.2.2.2.1 (Nat.lt_of_le_of_lt (Nat.zero_le _) g7.2)
      refine tc_cr (W.runV (As := [.int a1]) (rest := []) ⟨hx, hb, hml, hown, hts⟩ (mt_lget l D cO (E 3) mo (E 5) (tc_nc x) cap fl a1 (E (46 + b8)) g7 ha3 ha4 (by rw [eb8]; exact ha5 _ g7.2)) (cwV 1 hts gX2_crane_Jx4a65c_get_915e3 rfl rfl rfl (by decide +kernel) ⟨Nat.le_of_ble_eq_true rfl, Nat.le_of_ble_eq_true rfl⟩) ⟨fun a U g mk q => ⟨q.1, q.2.1, q.2.2.1, va_K.moved (Vm.Alike.refl U.vm) q.2.2.2⟩, tc_rcv ha1 hK rfl, fun U hU hW9 => ⟨rfl, by rw [hU]; exact ha1, by rw [hU]; exact ha2, va_K.moved hW9.alike (hK.sub [1] rfl)⟩⟩ rfl rfl hl.1 rfl (lv_room (Nat.le_of_ble_eq_true rfl)) dX2_crane_16 ⟨Nat.le_of_ble_eq_true rfl, Nat.le_of_ble_eq_true rfl⟩) ?_
      refine va_castS hx hb hown (hts (.classLink RX2 81 "TreadCranes$Crane") (List.mem_of_getElem? (i := 2) rfl)) ((hK.1 2 _ rfl).2) (tc_rcv (hW.c g9) hK rfl) dX2_crane_19 ?_
      refine lv_iload_n hx hb dX2_crane_22 rfl (lv_at hl 2 rfl) ?_
      obtain ⟨r10, h11, hF⟩ := tc_bi hF
      refine tc_cr (W.runS (As := [.ref (E (46 + b8)), .int a2]) (rest := []) ⟨hx, hb, hml, hown, hts⟩ (mt_X2_craneAnswer l D cU cO cI e0 A E x b8 a2 r10 h11) (va_cwS 2 hts gX2_crane_X2_craneAnswer rfl rfl rfl (by decide +kernel) ⟨Nat.le_of_ble_eq_true rfl, Nat.le_of_ble_eq_true rfl⟩) ⟨fun a U g mk q => ⟨q.1, q.2.1, q.2.2.call⟩, fun U hU hW9 => ⟨rfl, by rw [hU]; exact hW, hKC.warm hW9⟩⟩ rfl rfl hl.1 rfl (lv_room (Nat.le_of_ble_eq_true rfl)) dX2_crane_23 ⟨Nat.le_of_ble_eq_true rfl, Nat.le_of_ble_eq_true rfl⟩) ?_
      obtain ⟨h91, h92⟩ := tc_pr2 (Option.some.inj hF)
      refine W.widen (k := 2) (n := 12) (Nat.le_of_ble_eq_true rfl) (Nat.le_of_ble_eq_true rfl) ?_
      refine vx_ret ?_
      exact W.iret hx hb hr (fun t ht hW9 => ⟨⟨h91.symm, by rw [← h92], by rw [ht]; exact hW⟩, tc_F hS ht⟩) hS.2.2 dX2_crane_26

def f_X2_count (x : tc_X) (a1 : Int32) : Option (Nat × Int32) := Option.bind (f_X2_requireAnswer x a1 7) (fun k1 => (if k1 = 0 then Option.bind (f_X2_countAnswer x a1) (fun r4 => some (0, r4)) else some (k1, 0)))
set_option maxHeartbeats 4000000 in
set_option maxRecDepth 100000 in
theorem mt_X2_count (l : Launch) (hst : l.stackTraces = false) (D : va_G) (cU cO cI : ClassId) (e0 : Nat) (A : Nat → Prop) (E : Nat → Nat) (x : tc_X) (a1 : Int32) (k : Nat) (r : Int32) (hF : f_X2_count x a1 = some (k, r)) : vx_Met l yX2_count wsX2_count ({ frames := 7, cells := 1, slots := 6, locals := 130 } : Room) (va_Pc [.ref (E 0), .int a1] (fun U => tc_WC D cU cO e0 A E x U.heap ∧ tc_KX D cU cO cI e0 A U)) (tc_Qx k (some (.int r)) (tc_WC D cU cO e0 A E x) A) (tc_XC k (tc_WC D cU cO e0 A E x) A) 1 6 A := by
  refine vx_ofW (cc := cX2_count) (maxL := 2) (ret := (some .int)) (by decide) rfl ?_
  intro p e s m args below meth c s₁ B hml hno hv
  obtain ⟨rfl, hW, hKX⟩ := hv
  have hx := B.exec
  have hb := B.bytes
  have hr := B.returns
  have hts := atoms_spec (ws := wsX2_count) B.pre
  have hown : s.vm.findClass RX2 = some m.cls := findClass_of_methodNamed B.named
  have hlocks := B.notSynchronized
  have hKC := hKX.1
  have hK := hKC.1
  have hA := hKX.2.1
  have hS : va_S A s.heap s.heap [] := va_S.rf
  have hl := lv_entry ([.ref (E 0), .int a1]) (n := 2) (Nat.le_of_ble_eq_true rfl)
  rw [lg_entry_eq]
  generalize (lg_sl ([.ref (E 0), .int a1]) ++ List.replicate (2 - (lg_sl ([.ref (E 0), .int a1])).length) Slot.unset).toArray = ls at hl ⊢
  have hl : lv_has ls 2 [(0, .ref (E 0)), (1, .int a1)] := hl
  refine lv_iload_n hx hb dX2_count_0 rfl (lv_at hl 1 rfl) ?_
  refine lv_bipush (v := 7) hx hb dX2_count_1 (by decide) ?_
  obtain ⟨k1, h2, hF⟩ := tc_bi hF
  refine tc_cxv (vx_runS (As := [.int a1, .int 7]) (rest := []) ⟨hx, hb, hml, hown, hts⟩ (mt_X2_requireAnswer l hst D cU cO cI e0 A E x a1 7 k1 h2) (va_cwS 2 hts gX2_count_X2_requireAnswer rfl rfl rfl (by decide +kernel) ⟨Nat.le_of_ble_eq_true rfl, Nat.le_of_ble_eq_true rfl⟩) ⟨fun a U g mk q => ⟨q.1, q.2.1, q.2.2.call⟩, fun U hU hW9 => ⟨rfl, by rw [hU]; exact hW, hKX.go hS hU hW9⟩⟩ rfl rfl hl.1 rfl (lv_room (Nat.le_of_ble_eq_true rfl)) dX2_count_3 ⟨Nat.le_of_ble_eq_true rfl, Nat.le_of_ble_eq_true rfl⟩) hS (fun _ _ h => h) (fun _ h => h) (fun _ _ h => h) (fun ce q9 H locs c3 hW z1 o1 hS hce hcv hcl => ?_) (fun H locs c3 hW z1 o1 hS => ?_)
  · have hF := tc_if hF c3
    obtain ⟨h91, h92⟩ := tc_pr2 (Option.some.inj hF)
    exact vx_out (fun z9 h9 => (hno z9 h9).elim) hlocks hce hcv hcl (fun t ht hal => ⟨⟨h91 ▸ c3, by rw [h91], by rw [ht]; exact hW⟩, tc_F hS ht⟩) hS.2.2 (Nat.le_of_ble_eq_true rfl) (Nat.le_of_ble_eq_true rfl)
  · have hF := tc_it hF c3
    refine lv_aload_n hx hb dX2_count_6 rfl (lv_at hl 0 rfl) ?_
    refine lv_iload_n hx hb dX2_count_7 rfl (lv_at hl 1 rfl) ?_
    obtain ⟨r4, h5, hF⟩ := tc_bi hF
    refine tc_cr (W.runV (As := [.int a1]) (rest := []) ⟨hx, hb, hml, hown, hts⟩ (mt_X2_countAnswer l D cU cO cI e0 A E x a1 r4 h5) (cwV 1 hts gX2_count_X2_countAnswer rfl rfl rfl (by decide +kernel) ⟨Nat.le_of_ble_eq_true rfl, Nat.le_of_ble_eq_true rfl⟩) ⟨fun a U g mk q => ⟨q.1, q.2.1, q.2.2.call⟩, tc_rcv (hW.o) hK rfl, fun U hU hW9 => ⟨rfl, by rw [hU]; exact hW, hKC.warm hW9⟩⟩ rfl rfl hl.1 rfl (lv_room (Nat.le_of_ble_eq_true rfl)) dX2_count_8 ⟨Nat.le_of_ble_eq_true rfl, Nat.le_of_ble_eq_true rfl⟩) ?_
    obtain ⟨h91, h92⟩ := tc_pr2 (Option.some.inj hF)
    refine W.widen (k := 1) (n := 6) (Nat.le_of_ble_eq_true rfl) (Nat.le_of_ble_eq_true rfl) ?_
    refine vx_ret ?_
    exact W.iret hx hb hr (fun t ht hW9 => ⟨⟨h91.symm, by rw [← h92], by rw [ht]; exact hW⟩, tc_F hS ht⟩) hS.2.2 dX2_count_11

def f_X2_move (x : tc_X) (a1 : Int32) (a2 : Int32) (a3 : Int32) : Option (Nat × Int32) := Option.bind (f_X2_requireCrane x a1) (fun k1 => (if k1 = 0 then Option.bind (f_X2_requirePlace x a2) (fun k4 => (if k4 = 0 then Option.bind (f_X2_requirePlace x a3) (fun k7 => (if k7 = 0 then (if ¬ a1 < 0 ∧ a1.toNatClampNeg < tc_nc x then tc_let a1.toNatClampNeg (fun b11 => Option.bind (f_X2_ticksToMove x b11 a2 a3) (fun r13 => some (0, r13))) else none) else some (k7, 0))) else some (k4, 0))) else some (k1, 0)))
set_option maxHeartbeats 4000000 in
set_option maxRecDepth 100000 in
theorem mt_X2_move (l : Launch) (hst : l.stackTraces = false) (D : va_G) (cU cO cI : ClassId) (e0 : Nat) (A : Nat → Prop) (E : Nat → Nat) (x : tc_X) (a1 : Int32) (a2 : Int32) (a3 : Int32) (k : Nat) (r : Int32) (hF : f_X2_move x a1 a2 a3 = some (k, r)) : vx_Met l yX2_move wsX2_move ({ frames := 7, cells := 3, slots := 18, locals := 139 } : Room) (va_Pc [.ref (E 0), .int a1, .int a2, .int a3] (fun U => tc_WC D cU cO e0 A E x U.heap ∧ tc_KX D cU cO cI e0 A U)) (tc_Qx k (some (.int r)) (tc_WC D cU cO e0 A E x) A) (tc_XC k (tc_WC D cU cO e0 A E x) A) 3 18 A := by
  refine vx_ofW (cc := cX2_move) (maxL := 4) (ret := (some .int)) (by decide) rfl ?_
  intro p e s m args below meth c s₁ B hml hno hv
  obtain ⟨rfl, hW, hKX⟩ := hv
  have hx := B.exec
  have hb := B.bytes
  have hr := B.returns
  have hts := atoms_spec (ws := wsX2_move) B.pre
  have hown : s.vm.findClass RX2 = some m.cls := findClass_of_methodNamed B.named
  have hlocks := B.notSynchronized
  have hKC := hKX.1
  have hK := hKC.1
  have hA := hKX.2.1
  have hinX2 : ∀ w ∈ wsX20, w ∈ wsX2_move := fun w9 h9 => List.mem_cons_of_mem _ (List.mem_append_left _ (List.mem_append_left _ (List.mem_append_left _ (List.mem_append_left _ (List.mem_append_right _ h9)))))
  have hS : va_S A s.heap s.heap [] := va_S.rf
  have hl := lv_entry ([.ref (E 0), .int a1, .int a2, .int a3]) (n := 4) (Nat.le_of_ble_eq_true rfl)
  rw [lg_entry_eq]
  generalize (lg_sl ([.ref (E 0), .int a1, .int a2, .int a3]) ++ List.replicate (4 - (lg_sl ([.ref (E 0), .int a1, .int a2, .int a3])).length) Slot.unset).toArray = ls at hl ⊢
  have hl : lv_has ls 4 [(0, .ref (E 0)), (1, .int a1), (2, .int a2), (3, .int a3)] := hl
  refine lv_aload_n hx hb dX2_move_0 rfl (lv_at hl 0 rfl) ?_
  refine lv_iload_n hx hb dX2_move_1 rfl (lv_at hl 1 rfl) ?_
  obtain ⟨k1, h2, hF⟩ := tc_bi hF
  refine tc_cxv (vx_runV (As := [.int a1]) (rest := []) ⟨hx, hb, hml, hown, hts⟩ (mt_X2_requireCrane l hst D cU cO cI e0 A E x a1 k1 h2) (cwV 1 hts gX2_move_X2_requireCrane rfl rfl rfl (by decide +kernel) ⟨Nat.le_of_ble_eq_true rfl, Nat.le_of_ble_eq_true rfl⟩) ⟨fun a U g mk q => ⟨q.1, q.2.1, q.2.2.call⟩, tc_rcv (hW.o) hK rfl, fun U hU hW9 => ⟨rfl, by rw [hU]; exact hW, hKX.go hS hU hW9⟩⟩ rfl rfl hl.1 rfl (lv_room (Nat.le_of_ble_eq_true rfl)) dX2_move_2 ⟨Nat.le_of_ble_eq_true rfl, Nat.le_of_ble_eq_true rfl⟩) hS (fun _ _ h => h) (fun _ h => h) (fun _ _ h => h) (fun ce q9 H locs c3 hW z1 o1 hS hce hcv hcl => ?_) (fun H locs c3 hW z1 o1 hS => ?_)
  · have hF := tc_if hF c3
    obtain ⟨h91, h92⟩ := tc_pr2 (Option.some.inj hF)
    exact vx_out (fun z9 h9 => (hno z9 h9).elim) hlocks hce hcv hcl (fun t ht hal => ⟨⟨h91 ▸ c3, by rw [h91], by rw [ht]; exact hW⟩, tc_F hS ht⟩) hS.2.2 (Nat.le_of_ble_eq_true rfl) (Nat.le_of_ble_eq_true rfl)
  · have hF := tc_it hF c3
    refine lv_iload_n hx hb dX2_move_5 rfl (lv_at hl 2 rfl) ?_
    obtain ⟨k4, h5, hF⟩ := tc_bi hF
    refine tc_cxv (vx_runS (As := [.int a2]) (rest := []) ⟨hx, hb, hml, hown, hts⟩ (mt_X2_requirePlace l hst D cU cO cI e0 A E x a2 k4 h5) (va_cwS 1 hts gX2_move_X2_requirePlace rfl rfl rfl (by decide +kernel) ⟨Nat.le_of_ble_eq_true rfl, Nat.le_of_ble_eq_true rfl⟩) ⟨fun a U g mk q => ⟨q.1, q.2.1, q.2.2.call⟩, fun U hU hW9 => ⟨rfl, by rw [hU]; exact hW, hKX.go hS hU hW9⟩⟩ rfl rfl hl.1 rfl (lv_room (Nat.le_of_ble_eq_true rfl)) dX2_move_6 ⟨Nat.le_of_ble_eq_true rfl, Nat.le_of_ble_eq_true rfl⟩) hS (fun _ _ h => h) (fun _ h => h) (fun _ _ h => h) (fun ce q9 H locs c6 hW z1 o1 hS hce hcv hcl => ?_) (fun H locs c6 hW z1 o1 hS => ?_)
    · have hF := tc_if hF c6
      obtain ⟨h91, h92⟩ := tc_pr2 (Option.some.inj hF)
      exact vx_out (fun z9 h9 => (hno z9 h9).elim) hlocks hce hcv hcl (fun t ht hal => ⟨⟨h91 ▸ c6, by rw [h91], by rw [ht]; exact hW⟩, tc_F hS ht⟩) hS.2.2 (Nat.le_of_ble_eq_true rfl) (Nat.le_of_ble_eq_true rfl)
    · have hF := tc_it hF c6
      refine lv_iload_n hx hb dX2_move_9 rfl (lv_at hl 3 rfl) ?_
      obtain ⟨k7, h8, hF⟩ := tc_bi hF
      refine tc_cxv (vx_runS (As := [.int a3]) (rest := []) ⟨hx, hb, hml, hown, hts⟩ (mt_X2_requirePlace l hst D cU cO cI e0 A E x a3 k7 h8) (va_cwS 1 hts gX2_move_X2_requirePlace rfl rfl rfl (by decide +kernel) ⟨Nat.le_of_ble_eq_true rfl, Nat.le_of_ble_eq_true rfl⟩) ⟨fun a U g mk q => ⟨q.1, q.2.1, q.2.2.call⟩, fun U hU hW9 => ⟨rfl, by rw [hU]; exact hW, hKX.go hS hU hW9⟩⟩ rfl rfl hl.1 rfl (lv_room (Nat.le_of_ble_eq_true rfl)) dX2_move_10 ⟨Nat.le_of_ble_eq_true rfl, Nat.le_of_ble_eq_true rfl⟩) hS (fun _ _ h => h) (fun _ h => h) (fun _ _ h => h) (fun ce q9 H locs c9 hW z1 o1 hS hce hcv hcl => ?_) (fun H locs c9 hW z1 o1 hS => ?_)
      · have hF := tc_if hF c9
        obtain ⟨h91, h92⟩ := tc_pr2 (Option.some.inj hF)
        exact vx_out (fun z9 h9 => (hno z9 h9).elim) hlocks hce hcv hcl (fun t ht hal => ⟨⟨h91 ▸ c9, by rw [h91], by rw [ht]; exact hW⟩, tc_F hS ht⟩) hS.2.2 (Nat.le_of_ble_eq_true rfl) (Nat.le_of_ble_eq_true rfl)
      · have hF := tc_it hF c9
        refine lv_aload_n hx hb dX2_move_13 rfl (lv_at hl 0 rfl) ?_
        refine lv_aload_n hx hb dX2_move_14 rfl (lv_at hl 0 rfl) ?_
        refine tc_get (v := .ref (E 3)) hx hb hts hinX2 hown hK (hW.o) (C := RX2) (T := TX2) (N := 4) rfl 2 (by decide) (hts (.fieldLink RX2 22 "TreadCranes" "cranes" "Ljava/util/ArrayList;") (List.mem_of_getElem? (i := 1) rfl)) (fun _ h9 => h9) rfl dX2_move_15 ?_
        refine lv_iload_n hx hb dX2_move_18 rfl (lv_at hl 1 rfl) ?_
        obtain ⟨g10, hF⟩ := tc_ob hF
        obtain ⟨b11, eb11⟩ : ∃ z : Nat, z = a1.toNatClampNeg := ⟨_, rfl⟩
        have hF := tc_lt hF eb11
        have g12 : b11 < tc_nc x := by rw [eb11]; exact g10.2
        obtain ⟨mo, cap, fl, ha1, ha2, ha3, ha4, ha5⟩ := tc_Li.full hW.2.2.2.1 (Nat.lt_of_le_of_lt (Nat.zero_le _) g10.2)
        refine tc_cr (W.runV (As := [.int a1]) (rest := [.ref (E 0)]) ⟨hx, hb, hml, hown, hts⟩ (mt_lget l D cO (E 3) mo (E 5) (tc_nc x) cap fl a1 (E (46 + b11)) g10 ha3 ha4 (by rw [eb11]; exact ha5 _ g10.2)) (cwV 1 hts gX2_move_Jx4a65c_get_915e3 rfl rfl rfl (by decide +kernel) ⟨Nat.le_of_ble_eq_true rfl, Nat.le_of_ble_eq_true rfl⟩) ⟨fun a U g mk q => ⟨q.1, q.2.1, q.2.2.1, va_K.moved (Vm.Alike.refl U.vm) q.2.2.2⟩, tc_rcv ha1 hK rfl, fun U hU hW9 => ⟨rfl, by rw [hU]; exact ha1, by rw [hU]; exact ha2, va_K.moved hW9.alike (hK.sub [1] rfl)⟩⟩ rfl rfl hl.1 rfl (lv_room (Nat.le_of_ble_eq_true rfl)) dX2_move_19 ⟨Nat.le_of_ble_eq_true rfl, Nat.le_of_ble_eq_true rfl⟩) ?_
        refine va_castS hx hb hown (hts (.classLink RX2 81 "TreadCranes$Crane") (List.mem_of_getElem? (i := 2) rfl)) ((hK.1 2 _ rfl).2) (tc_rcv (hW.c g12) hK rfl) dX2_move_22 ?_
        refine lv_iload_n hx hb dX2_move_25 rfl (lv_at hl 2 rfl) ?_
        refine lv_iload_n hx hb dX2_move_26 rfl (lv_at hl 3 rfl) ?_
        obtain ⟨r13, h14, hF⟩ := tc_bi hF
        refine tc_cr (W.runV (As := [.ref (E (46 + b11)), .int a2, .int a3]) (rest := []) ⟨hx, hb, hml, hown, hts⟩ (mt_X2_ticksToMove l D cU cO cI e0 A E x b11 a2 a3 r13 h14) (cwV 3 hts gX2_move_X2_ticksToMove rfl rfl rfl (by decide +kernel) ⟨Nat.le_of_ble_eq_true rfl, Nat.le_of_ble_eq_true rfl⟩) ⟨fun a U g mk q => ⟨q.1, q.2.1, q.2.2.call⟩, tc_rcv (hW.o) hK rfl, fun U hU hW9 => ⟨rfl, by rw [hU]; exact hW, hKC.warm hW9⟩⟩ rfl rfl hl.1 rfl (lv_room (Nat.le_of_ble_eq_true rfl)) dX2_move_27 ⟨Nat.le_of_ble_eq_true rfl, Nat.le_of_ble_eq_true rfl⟩) ?_
        obtain ⟨h91, h92⟩ := tc_pr2 (Option.some.inj hF)
        refine W.widen (k := 3) (n := 18) (Nat.le_of_ble_eq_true rfl) (Nat.le_of_ble_eq_true rfl) ?_
        refine vx_ret ?_
        exact W.iret hx hb hr (fun t ht hW9 => ⟨⟨h91.symm, by rw [← h92], by rw [ht]; exact hW⟩, tc_F hS ht⟩) hS.2.2 dX2_move_30

def lp_X2_best_16 : Nat → tc_X → Int32 → Int32 → Int32 → Int32 → Int32 → Option (Nat × Int32)
  | 0, _, _, _, _, _, _ => none
  | n_16 + 1, x, a1, a2, w7, w8, w9 => (if (nI (tc_nc x)) ≤ w9 then some (0, w7) else (if ¬ w9 < 0 ∧ w9.toNatClampNeg < tc_nc x then tc_let w9.toNatClampNeg (fun b12 => Option.bind (f_X2_ticksToMove x b12 a1 a2) (fun r14 => (if r14 = (-1) then tc_let (w9 + 1) (fun v17 => lp_X2_best_16 n_16 x a1 a2 w7 w8 v17) else (if w7 = (-1) then tc_let (w9 + 1) (fun v19 => lp_X2_best_16 n_16 x a1 a2 w9 r14 v19) else (if w8 ≤ r14 then tc_let (w9 + 1) (fun v21 => lp_X2_best_16 n_16 x a1 a2 w7 w8 v21) else tc_let (w9 + 1) (fun v22 => lp_X2_best_16 n_16 x a1 a2 w9 r14 v22)))))) else none))
def f_X2_best (x : tc_X) (a1 : Int32) (a2 : Int32) : Option (Nat × Int32) := Option.bind (f_X2_requirePlace x a1) (fun k1 => (if k1 = 0 then Option.bind (f_X2_requirePlace x a2) (fun k4 => (if k4 = 0 then lp_X2_best_16 100 x a1 a2 (-1) (-1) 0 else some (k4, 0))) else some (k1, 0)))
set_option maxHeartbeats 4000000 in
set_option maxRecDepth 100000 in
theorem mt_X2_best (l : Launch) (hst : l.stackTraces = false) (D : va_G) (cU cO cI : ClassId) (e0 : Nat) (A : Nat → Prop) (E : Nat → Nat) (x : tc_X) (a1 : Int32) (a2 : Int32) (k : Nat) (r : Int32) (hF : f_X2_best x a1 a2 = some (k, r)) : vx_Met l yX2_best wsX2_best ({ frames := 7, cells := 2, slots := 12, locals := 139 } : Room) (va_Pc [.ref (E 0), .int a1, .int a2] (fun U => tc_WC D cU cO e0 A E x U.heap ∧ tc_KX D cU cO cI e0 A U)) (tc_Qx k (some (.int r)) (tc_WC D cU cO e0 A E x) A) (tc_XC k (tc_WC D cU cO e0 A E x) A) 2 12 A := by
  refine vx_ofW (cc := cX2_best) (maxL := 7) (ret := (some .int)) (by decide) rfl ?_
  intro p e s m args below meth c s₁ B hml hno hv
  obtain ⟨rfl, hW, hKX⟩ := hv
  have hx := B.exec
  have hb := B.bytes
  have hr := B.returns
  have hts := atoms_spec (ws := wsX2_best) B.pre
  have hown : s.vm.findClass RX2 = some m.cls := findClass_of_methodNamed B.named
  have hlocks := B.notSynchronized
  have hKC := hKX.1
  have hK := hKC.1
  have hA := hKX.2.1
  have hinX2 : ∀ w ∈ wsX20, w ∈ wsX2_best := fun w9 h9 => List.mem_cons_of_mem _ (List.mem_append_left _ (List.mem_append_left _ (List.mem_append_left _ (List.mem_append_left _ (List.mem_append_right _ h9)))))
  have hS : va_S A s.heap s.heap [] := va_S.rf
  have hl := lv_entry ([.ref (E 0), .int a1, .int a2]) (n := 7) (Nat.le_of_ble_eq_true rfl)
  rw [lg_entry_eq]
  generalize (lg_sl ([.ref (E 0), .int a1, .int a2]) ++ List.replicate (7 - (lg_sl ([.ref (E 0), .int a1, .int a2])).length) Slot.unset).toArray = ls at hl ⊢
  have hl : lv_has ls 7 [(0, .ref (E 0)), (1, .int a1), (2, .int a2)] := hl
  refine lv_iload_n hx hb dX2_best_0 rfl (lv_at hl 1 rfl) ?_
  obtain ⟨k1, h2, hF⟩ := tc_bi hF
  refine tc_cxv (vx_runS (As := [.int a1]) (rest := []) ⟨hx, hb, hml, hown, hts⟩ (mt_X2_requirePlace l hst D cU cO cI e0 A E x a1 k1 h2) (va_cwS 1 hts gX2_best_X2_requirePlace rfl rfl rfl (by decide +kernel) ⟨Nat.le_of_ble_eq_true rfl, Nat.le_of_ble_eq_true rfl⟩) ⟨fun a U g mk q => ⟨q.1, q.2.1, q.2.2.call⟩, fun U hU hW9 => ⟨rfl, by rw [hU]; exact hW, hKX.go hS hU hW9⟩⟩ rfl rfl hl.1 rfl (lv_room (Nat.le_of_ble_eq_true rfl)) dX2_best_1 ⟨Nat.le_of_ble_eq_true rfl, Nat.le_of_ble_eq_true rfl⟩) hS (fun _ _ h => h) (fun _ h => h) (fun _ _ h => h) (fun ce q9 H locs c3 hW z1 o1 hS hce hcv hcl => ?_) (fun H locs c3 hW z1 o1 hS => ?_)
  · have hF := tc_if hF c3
    obtain ⟨h91, h92⟩ := tc_pr2 (Option.some.inj hF)
    exact vx_out (fun z9 h9 => (hno z9 h9).elim) hlocks hce hcv hcl (fun t ht hal => ⟨⟨h91 ▸ c3, by rw [h91], by rw [ht]; exact hW⟩, tc_F hS ht⟩) hS.2.2 (Nat.le_of_ble_eq_true rfl) (Nat.le_of_ble_eq_true rfl)
  · have hF := tc_it hF c3
    refine lv_iload_n hx hb dX2_best_4 rfl (lv_at hl 2 rfl) ?_
    obtain ⟨k4, h5, hF⟩ := tc_bi hF
    refine tc_cxv (vx_runS (As := [.int a2]) (rest := []) ⟨hx, hb, hml, hown, hts⟩ (mt_X2_requirePlace l hst D cU cO cI e0 A E x a2 k4 h5) (va_cwS 1 hts gX2_best_X2_requirePlace rfl rfl rfl (by decide +kernel) ⟨Nat.le_of_ble_eq_true rfl, Nat.le_of_ble_eq_true rfl⟩) ⟨fun a U g mk q => ⟨q.1, q.2.1, q.2.2.call⟩, fun U hU hW9 => ⟨rfl, by rw [hU]; exact hW, hKX.go hS hU hW9⟩⟩ rfl rfl hl.1 rfl (lv_room (Nat.le_of_ble_eq_true rfl)) dX2_best_5 ⟨Nat.le_of_ble_eq_true rfl, Nat.le_of_ble_eq_true rfl⟩) hS (fun _ _ h => h) (fun _ h => h) (fun _ _ h => h) (fun ce q9 H locs c6 hW z1 o1 hS hce hcv hcl => ?_) (fun H locs c6 hW z1 o1 hS => ?_)
    · have hF := tc_if hF c6
      obtain ⟨h91, h92⟩ := tc_pr2 (Option.some.inj hF)
      exact vx_out (fun z9 h9 => (hno z9 h9).elim) hlocks hce hcv hcl (fun t ht hal => ⟨⟨h91 ▸ c6, by rw [h91], by rw [ht]; exact hW⟩, tc_F hS ht⟩) hS.2.2 (Nat.le_of_ble_eq_true rfl) (Nat.le_of_ble_eq_true rfl)
    · have hF := tc_it hF c6
      refine lv_iconst (v := (-1)) hx hb dX2_best_8 (by decide) ?_
      refine lv_istore_n (lv' := [(3, .int (-1)), (0, .ref (E 0)), (1, .int a1), (2, .int a2)]) hx hb dX2_best_9 rfl hl (by decide) rfl (fun ls hl => ?_)
      refine lv_iconst (v := (-1)) hx hb dX2_best_10 (by decide) ?_
      refine lv_istore (lv' := [(4, .int (-1)), (3, .int (-1)), (0, .ref (E 0)), (1, .int a1), (2, .int a2)]) hx hb dX2_best_11 hl (by decide) rfl (fun ls hl => ?_)
      refine lv_iconst (v := 0) hx hb dX2_best_13 (by decide) ?_
      refine lv_istore (lv' := [(5, .int 0), (4, .int (-1)), (3, .int (-1)), (0, .ref (E 0)), (1, .int a1), (2, .int a2)]) hx hb dX2_best_14 hl (by decide) rfl (fun ls hl => ?_)
      refine tc_lp3 (fun n w7 w8 w9 => lp_X2_best_16 n x a1 a2 w7 w8 w9) (fun w7 w8 w9 => [(0, .ref (E 0)), (1, .int a1), (2, .int a2), (3, .int w7), (4, .int w8), (5, .int w9)]) 100 (-1) (-1) 0 ?_ ?_ hF (lv_sub hl [3, 4, 5, 2, 1, 0] rfl)
      · intro n_16 w7 w8 w9 ih_16 hF ls hl
        have hF : lp_X2_best_16 (n_16 + 1) x a1 a2 w7 w8 w9 = some (k, r) := hF
        rw [lp_X2_best_16] at hF
        refine lv_iload hx hb dX2_best_16 (lv_at hl 5 rfl) ?_
        refine lv_aload_n hx hb dX2_best_18 rfl (lv_at hl 0 rfl) ?_
        refine tc_get (v := .ref (E 3)) hx hb hts hinX2 hown hK (hW.o) (C := RX2) (T := TX2) (N := 4) rfl 2 (by decide) (hts (.fieldLink RX2 22 "TreadCranes" "cranes" "Ljava/util/ArrayList;") (List.mem_of_getElem? (i := 1) rfl)) (fun _ h9 => h9) rfl dX2_best_19 ?_
        obtain ⟨mo, ha1, -⟩ := hW.2.2.2.1
        refine tc_cr (W.runV (As := []) (rest := [.int w9]) ⟨hx, hb, hml, hown, hts⟩ (mt_lsize l D (E 3) mo (E 5) (nI (tc_nc x))) (cwV 0 hts gX2_best_Jx4a65c_size_8abf5 rfl rfl rfl (by decide +kernel) ⟨Nat.le_of_ble_eq_true rfl, Nat.le_of_ble_eq_true rfl⟩) ⟨fun a U g mk q => ⟨q.1, q.2.1, va_K.moved (Vm.Alike.refl U.vm) q.2.2⟩, tc_rcv ha1 hK rfl, fun U hU hW9 => ⟨rfl, by rw [hU]; exact ha1, va_K.moved hW9.alike (hK.sub [] rfl)⟩⟩ rfl rfl hl.1 rfl (lv_room (Nat.le_of_ble_eq_true rfl)) dX2_best_22 ⟨Nat.le_of_ble_eq_true rfl, Nat.le_of_ble_eq_true rfl⟩) ?_
        refine lv_icmp_ge (tgt := 79) hx hb dX2_best_25 (by decide) (fun c10 => ?_) (fun c10 => ?_)
        · have hF := tc_it hF c10
          refine lv_iload_n hx hb dX2_best_79 rfl (lv_at hl 3 rfl) ?_
          obtain ⟨h91, h92⟩ := tc_pr2 (Option.some.inj hF)
          refine W.widen (k := 2) (n := 12) (Nat.le_of_ble_eq_true rfl) (Nat.le_of_ble_eq_true rfl) ?_
          refine vx_ret ?_
          exact W.iret hx hb hr (fun t ht hW9 => ⟨⟨h91.symm, by rw [← h92], by rw [ht]; exact hW⟩, tc_F hS ht⟩) hS.2.2 dX2_best_80
        · have hF := tc_if hF c10
          refine lv_aload_n hx hb dX2_best_28 rfl (lv_at hl 0 rfl) ?_
          refine lv_aload_n hx hb dX2_best_29 rfl (lv_at hl 0 rfl) ?_
          refine tc_get (v := .ref (E 3)) hx hb hts hinX2 hown hK (hW.o) (C := RX2) (T := TX2) (N := 4) rfl 2 (by decide) (hts (.fieldLink RX2 22 "TreadCranes" "cranes" "Ljava/util/ArrayList;") (List.mem_of_getElem? (i := 1) rfl)) (fun _ h9 => h9) rfl dX2_best_30 ?_
          refine lv_iload hx hb dX2_best_33 (lv_at hl 5 rfl) ?_
          obtain ⟨g11, hF⟩ := tc_ob hF
          obtain ⟨b12, eb12⟩ : ∃ z : Nat, z = w9.toNatClampNeg := ⟨_, rfl⟩
          have hF := tc_lt hF eb12
          have g13 : b12 < tc_nc x := by rw [eb12]; exact g11.2
          obtain ⟨mo, cap, fl, ha1, ha2, ha3, ha4, ha5⟩ := tc_Li.full hW.2.2.2.1 (Nat.lt_of_le_of_lt (Nat.zero_le _) g11.2)
          refine tc_cr (W.runV (As := [.int w9]) (rest := [.ref (E 0)]) ⟨hx, hb, hml, hown, hts⟩ (mt_lget l D cO (E 3) mo (E 5) (tc_nc x) cap fl w9 (E (46 + b12)) g11 ha3 ha4 (by rw [eb12]; exact ha5 _ g11.2)) (cwV 1 hts gX2_best_Jx4a65c_get_915e3 rfl rfl rfl (by decide +kernel) ⟨Nat.le_of_ble_eq_true rfl, Nat.le_of_ble_eq_true rfl⟩) ⟨fun a U g mk q => ⟨q.1, q.2.1, q.2.2.1, va_K.moved (Vm.Alike.refl U.vm) q.2.2.2⟩, tc_rcv ha1 hK rfl, fun U hU hW9 => ⟨rfl, by rw [hU]; exact ha1, by rw [hU]; exact ha2, va_K.moved hW9.alike (hK.sub [1] rfl)⟩⟩ rfl rfl hl.1 rfl (lv_room (Nat.le_of_ble_eq_true rfl)) dX2_best_35 ⟨Nat.le_of_ble_eq_true rfl, Nat.le_of_ble_eq_true rfl⟩) ?_
          refine va_castS hx hb hown (hts (.classLink RX2 81 "TreadCranes$Crane") (List.mem_of_getElem? (i := 2) rfl)) ((hK.1 2 _ rfl).2) (tc_rcv (hW.c g13) hK rfl) dX2_best_38 ?_
          refine lv_iload_n hx hb dX2_best_41 rfl (lv_at hl 1 rfl) ?_
          refine lv_iload_n hx hb dX2_best_42 rfl (lv_at hl 2 rfl) ?_
          obtain ⟨r14, h15, hF⟩ := tc_bi hF
          refine tc_cr (W.runV (As := [.ref (E (46 + b12)), .int a1, .int a2]) (rest := []) ⟨hx, hb, hml, hown, hts⟩ (mt_X2_ticksToMove l D cU cO cI e0 A E x b12 a1 a2 r14 h15) (cwV 3 hts gX2_best_X2_ticksToMove rfl rfl rfl (by decide +kernel) ⟨Nat.le_of_ble_eq_true rfl, Nat.le_of_ble_eq_true rfl⟩) ⟨fun a U g mk q => ⟨q.1, q.2.1, q.2.2.call⟩, tc_rcv (hW.o) hK rfl, fun U hU hW9 => ⟨rfl, by rw [hU]; exact hW, hKC.warm hW9⟩⟩ rfl rfl hl.1 rfl (lv_room (Nat.le_of_ble_eq_true rfl)) dX2_best_43 ⟨Nat.le_of_ble_eq_true rfl, Nat.le_of_ble_eq_true rfl⟩) ?_
          refine lv_istore (lv' := [(6, .int r14), (0, .ref (E 0)), (1, .int a1), (2, .int a2), (3, .int w7), (4, .int w8), (5, .int w9)]) hx hb dX2_best_46 hl (by decide) rfl (fun ls hl => ?_)
          refine lv_iload hx hb dX2_best_48 (lv_at hl 0 rfl) ?_
          refine lv_iconst (v := (-1)) hx hb dX2_best_50 (by decide) ?_
          refine lv_icmp_eq (tgt := 73) hx hb dX2_best_51 (by decide) (fun c16 => ?_) (fun c16 => ?_)
          · have hF := tc_it hF c16
            obtain ⟨v17, ev17⟩ : ∃ z : Int32, z = w9 + 1 := ⟨_, rfl⟩
            have hF := tc_lt hF ev17
            refine lv_iinc (v := v17) (lv' := [(5, .int v17), (6, .int r14), (0, .ref (E 0)), (1, .int a1), (2, .int a2), (3, .int w7), (4, .int w8)]) hx hb dX2_best_73 hl (k := 6) rfl (by rw [ev17]; rfl) (by decide) rfl (fun ls hl => ?_)
            refine lv_goto (tgt := 16) hx hb dX2_best_76 (by decide) ?_
            exact ih_16 w7 w8 v17 hF _ (lv_sub hl [2, 3, 4, 5, 6, 0] rfl)
          · have hF := tc_if hF c16
            refine lv_iload_n hx hb dX2_best_54 rfl (lv_at hl 4 rfl) ?_
            refine lv_iconst (v := (-1)) hx hb dX2_best_55 (by decide) ?_
            refine lv_icmp_eq (tgt := 66) hx hb dX2_best_56 (by decide) (fun c18 => ?_) (fun c18 => ?_)
            · have hF := tc_it hF c18
              refine lv_iload hx hb dX2_best_66 (lv_at hl 6 rfl) ?_
              refine lv_istore_n (lv' := [(3, .int w9), (6, .int r14), (0, .ref (E 0)), (1, .int a1), (2, .int a2), (4, .int w8), (5, .int w9)]) hx hb dX2_best_68 rfl hl (by decide) rfl (fun ls hl => ?_)
              refine lv_iload hx hb dX2_best_69 (lv_at hl 1 rfl) ?_
              refine lv_istore (lv' := [(4, .int r14), (3, .int w9), (6, .int r14), (0, .ref (E 0)), (1, .int a1), (2, .int a2), (5, .int w9)]) hx hb dX2_best_71 hl (by decide) rfl (fun ls hl => ?_)
              obtain ⟨v19, ev19⟩ : ∃ z : Int32, z = w9 + 1 := ⟨_, rfl⟩
              have hF := tc_lt hF ev19
              refine lv_iinc (v := v19) (lv' := [(5, .int v19), (4, .int r14), (3, .int w9), (6, .int r14), (0, .ref (E 0)), (1, .int a1), (2, .int a2)]) hx hb dX2_best_73 hl (k := 6) rfl (by rw [ev19]; rfl) (by decide) rfl (fun ls hl => ?_)
              refine lv_goto (tgt := 16) hx hb dX2_best_76 (by decide) ?_
              exact ih_16 w9 r14 v19 hF _ (lv_sub hl [4, 5, 6, 2, 1, 0] rfl)
            · have hF := tc_if hF c18
              refine lv_iload hx hb dX2_best_59 (lv_at hl 0 rfl) ?_
              refine lv_iload hx hb dX2_best_61 (lv_at hl 5 rfl) ?_
              refine lv_icmp_ge (tgt := 73) hx hb dX2_best_63 (by decide) (fun c20 => ?_) (fun c20 => ?_)
              · have hF := tc_it hF c20
                obtain ⟨v21, ev21⟩ : ∃ z : Int32, z = w9 + 1 := ⟨_, rfl⟩
                have hF := tc_lt hF ev21
                refine lv_iinc (v := v21) (lv' := [(5, .int v21), (6, .int r14), (0, .ref (E 0)), (1, .int a1), (2, .int a2), (3, .int w7), (4, .int w8)]) hx hb dX2_best_73 hl (k := 6) rfl (by rw [ev21]; rfl) (by decide) rfl (fun ls hl => ?_)
                refine lv_goto (tgt := 16) hx hb dX2_best_76 (by decide) ?_
                exact ih_16 w7 w8 v21 hF _ (lv_sub hl [2, 3, 4, 5, 6, 0] rfl)
              · have hF := tc_if hF c20
                refine lv_iload hx hb dX2_best_66 (lv_at hl 6 rfl) ?_
                refine lv_istore_n (lv' := [(3, .int w9), (6, .int r14), (0, .ref (E 0)), (1, .int a1), (2, .int a2), (4, .int w8), (5, .int w9)]) hx hb dX2_best_68 rfl hl (by decide) rfl (fun ls hl => ?_)
                refine lv_iload hx hb dX2_best_69 (lv_at hl 1 rfl) ?_
                refine lv_istore (lv' := [(4, .int r14), (3, .int w9), (6, .int r14), (0, .ref (E 0)), (1, .int a1), (2, .int a2), (5, .int w9)]) hx hb dX2_best_71 hl (by decide) rfl (fun ls hl => ?_)
                obtain ⟨v22, ev22⟩ : ∃ z : Int32, z = w9 + 1 := ⟨_, rfl⟩
                have hF := tc_lt hF ev22
                refine lv_iinc (v := v22) (lv' := [(5, .int v22), (4, .int r14), (3, .int w9), (6, .int r14), (0, .ref (E 0)), (1, .int a1), (2, .int a2)]) hx hb dX2_best_73 hl (k := 6) rfl (by rw [ev22]; rfl) (by decide) rfl (fun ls hl => ?_)
                refine lv_goto (tgt := 16) hx hb dX2_best_76 (by decide) ?_
                exact ih_16 w9 r14 v22 hF _ (lv_sub hl [4, 5, 6, 2, 1, 0] rfl)
      · intro w7 w8 w9 h9
        have h9 : lp_X2_best_16 0 x a1 a2 w7 w8 w9 = some (k, r) := h9
        rw [lp_X2_best_16] at h9
        cases h9

def f_X2_lasts (x : tc_X) (a1 : Int32) (a2 : Int32) : Option (Nat × Int32) := Option.bind (f_X2_requireCrane x a1) (fun k1 => (if k1 = 0 then Option.bind (f_X2_requireWeight x a2) (fun k4 => (if k4 = 0 then Option.bind (f_X2_wearInATick a2) (fun r7 => (if 1 ≤ r7 then (if ¬ a1 < 0 ∧ a1.toNatClampNeg < tc_nc x then tc_let a1.toNatClampNeg (fun b11 => (if ¬ r7 = 0 then some (0, ((99 - (x.1 24 b11)) / r7)) else none)) else none) else some (0, 0))) else some (k4, 0))) else some (k1, 0)))
set_option maxHeartbeats 4000000 in
set_option maxRecDepth 100000 in
theorem mt_X2_lasts (l : Launch) (hst : l.stackTraces = false) (D : va_G) (cU cO cI : ClassId) (e0 : Nat) (A : Nat → Prop) (E : Nat → Nat) (x : tc_X) (a1 : Int32) (a2 : Int32) (k : Nat) (r : Int32) (hF : f_X2_lasts x a1 a2 = some (k, r)) : vx_Met l yX2_lasts wsX2_lasts ({ frames := 7, cells := 2, slots := 12, locals := 103 } : Room) (va_Pc [.ref (E 0), .int a1, .int a2] (fun U => tc_WC D cU cO e0 A E x U.heap ∧ tc_KX D cU cO cI e0 A U)) (tc_Qx k (some (.int r)) (tc_WC D cU cO e0 A E x) A) (tc_XC k (tc_WC D cU cO e0 A E x) A) 2 12 A := by
  refine vx_ofW (cc := cX2_lasts) (maxL := 4) (ret := (some .int)) (by decide) rfl ?_
  intro p e s m args below meth c s₁ B hml hno hv
  obtain ⟨rfl, hW, hKX⟩ := hv
  have hx := B.exec
  have hb := B.bytes
  have hr := B.returns
  have hts := atoms_spec (ws := wsX2_lasts) B.pre
  have hown : s.vm.findClass RX2 = some m.cls := findClass_of_methodNamed B.named
  have hlocks := B.notSynchronized
  have hKC := hKX.1
  have hK := hKC.1
  have hA := hKX.2.1
  have hinX1 : ∀ w ∈ wsX10, w ∈ wsX2_lasts := fun w9 h9 => List.mem_cons_of_mem _ (List.mem_append_left _ (List.mem_append_left _ (List.mem_append_left _ (List.mem_append_right _ h9))))
  have hinX2 : ∀ w ∈ wsX20, w ∈ wsX2_lasts := fun w9 h9 => List.mem_cons_of_mem _ (List.mem_append_left _ (List.mem_append_left _ (List.mem_append_left _ (List.mem_append_left _ (List.mem_append_right _ h9)))))
  have hS : va_S A s.heap s.heap [] := va_S.rf
  have hl := lv_entry ([.ref (E 0), .int a1, .int a2]) (n := 4) (Nat.le_of_ble_eq_true rfl)
  rw [lg_entry_eq]
  generalize (lg_sl ([.ref (E 0), .int a1, .int a2]) ++ List.replicate (4 - (lg_sl ([.ref (E 0), .int a1, .int a2])).length) Slot.unset).toArray = ls at hl ⊢
  have hl : lv_has ls 4 [(0, .ref (E 0)), (1, .int a1), (2, .int a2)] := hl
  refine lv_aload_n hx hb dX2_lasts_0 rfl (lv_at hl 0 rfl) ?_
  refine lv_iload_n hx hb dX2_lasts_1 rfl (lv_at hl 1 rfl) ?_
  obtain ⟨k1, h2, hF⟩ := tc_bi hF
  refine tc_cxv (vx_runV (As := [.int a1]) (rest := []) ⟨hx, hb, hml, hown, hts⟩ (mt_X2_requireCrane l hst D cU cO cI e0 A E x a1 k1 h2) (cwV 1 hts gX2_lasts_X2_requireCrane rfl rfl rfl (by decide +kernel) ⟨Nat.le_of_ble_eq_true rfl, Nat.le_of_ble_eq_true rfl⟩) ⟨fun a U g mk q => ⟨q.1, q.2.1, q.2.2.call⟩, tc_rcv (hW.o) hK rfl, fun U hU hW9 => ⟨rfl, by rw [hU]; exact hW, hKX.go hS hU hW9⟩⟩ rfl rfl hl.1 rfl (lv_room (Nat.le_of_ble_eq_true rfl)) dX2_lasts_2 ⟨Nat.le_of_ble_eq_true rfl, Nat.le_of_ble_eq_true rfl⟩) hS (fun _ _ h => h) (fun _ h => h) (fun _ _ h => h) (fun ce q9 H locs c3 hW z1 o1 hS hce hcv hcl => ?_) (fun H locs c3 hW z1 o1 hS => ?_)
  · have hF := tc_if hF c3
    obtain ⟨h91, h92⟩ := tc_pr2 (Option.some.inj hF)
    exact vx_out (fun z9 h9 => (hno z9 h9).elim) hlocks hce hcv hcl (fun t ht hal => ⟨⟨h91 ▸ c3, by rw [h91], by rw [ht]; exact hW⟩, tc_F hS ht⟩) hS.2.2 (Nat.le_of_ble_eq_true rfl) (Nat.le_of_ble_eq_true rfl)
  · have hF := tc_it hF c3
    refine lv_iload_n hx hb dX2_lasts_5 rfl (lv_at hl 2 rfl) ?_
    obtain ⟨k4, h5, hF⟩ := tc_bi hF
    refine tc_cxv (vx_runS (As := [.int a2]) (rest := []) ⟨hx, hb, hml, hown, hts⟩ (mt_X2_requireWeight l hst D cU cO cI e0 A E x a2 k4 h5) (va_cwS 1 hts gX2_lasts_X2_requireWeight rfl rfl rfl (by decide +kernel) ⟨Nat.le_of_ble_eq_true rfl, Nat.le_of_ble_eq_true rfl⟩) ⟨fun a U g mk q => ⟨q.1, q.2.1, q.2.2.call⟩, fun U hU hW9 => ⟨rfl, by rw [hU]; exact hW, hKX.go hS hU hW9⟩⟩ rfl rfl hl.1 rfl (lv_room (Nat.le_of_ble_eq_true rfl)) dX2_lasts_6 ⟨Nat.le_of_ble_eq_true rfl, Nat.le_of_ble_eq_true rfl⟩) hS (fun _ _ h => h) (fun _ h => h) (fun _ _ h => h) (fun ce q9 H locs c6 hW z1 o1 hS hce hcv hcl => ?_) (fun H locs c6 hW z1 o1 hS => ?_)
    · have hF := tc_if hF c6
      obtain ⟨h91, h92⟩ := tc_pr2 (Option.some.inj hF)
      exact vx_out (fun z9 h9 => (hno z9 h9).elim) hlocks hce hcv hcl (fun t ht hal => ⟨⟨h91 ▸ c6, by rw [h91], by rw [ht]; exact hW⟩, tc_F hS ht⟩) hS.2.2 (Nat.le_of_ble_eq_true rfl) (Nat.le_of_ble_eq_true rfl)
    · have hF := tc_it hF c6
      refine lv_iload_n hx hb dX2_lasts_9 rfl (lv_at hl 2 rfl) ?_
      obtain ⟨r7, h8, hF⟩ := tc_bi hF
      refine tc_cr (W.runS (As := [.int a2]) (rest := []) ⟨hx, hb, hml, hown, hts⟩ (mt_X2_wearInATick l   a2 r7 h8) (va_cwS 1 hts gX2_lasts_X2_wearInATick rfl rfl rfl (by decide +kernel) ⟨Nat.le_of_ble_eq_true rfl, Nat.le_of_ble_eq_true rfl⟩) ⟨fun a U g mk q => q, fun U hU hW9 => ⟨rfl, trivial⟩⟩ rfl rfl hl.1 rfl (lv_room (Nat.le_of_ble_eq_true rfl)) dX2_lasts_10 ⟨Nat.le_of_ble_eq_true rfl, Nat.le_of_ble_eq_true rfl⟩) ?_
      refine lv_istore_n (lv' := [(3, .int r7), (0, .ref (E 0)), (1, .int a1), (2, .int a2)]) hx hb dX2_lasts_13 rfl hl (by decide) rfl (fun ls hl => ?_)
      refine lv_iload_n hx hb dX2_lasts_14 rfl (lv_at hl 0 rfl) ?_
      refine lv_iconst (v := 1) hx hb dX2_lasts_15 (by decide) ?_
      refine lv_icmp_ge (tgt := 23) hx hb dX2_lasts_16 (by decide) (fun c9 => ?_) (fun c9 => ?_)
      · have hF := tc_it hF c9
        refine lv_bipush (v := 99) hx hb dX2_lasts_23 (by decide) ?_
        refine lv_aload_n hx hb dX2_lasts_25 rfl (lv_at hl 1 rfl) ?_
        refine tc_get (v := .ref (E 3)) hx hb hts hinX2 hown hK (hW.o) (C := RX2) (T := TX2) (N := 4) rfl 2 (by decide) (hts (.fieldLink RX2 22 "TreadCranes" "cranes" "Ljava/util/ArrayList;") (List.mem_of_getElem? (i := 1) rfl)) (fun _ h9 => h9) rfl dX2_lasts_26 ?_
        refine lv_iload_n hx hb dX2_lasts_29 rfl (lv_at hl 2 rfl) ?_
        obtain ⟨g10, hF⟩ := tc_ob hF
        obtain ⟨b11, eb11⟩ : ∃ z : Nat, z = a1.toNatClampNeg := ⟨_, rfl⟩
        have hF := tc_lt hF eb11
        have g12 : b11 < tc_nc x := by rw [eb11]; exact g10.2
        obtain ⟨mo, cap, fl, ha1, ha2, ha3, ha4, ha5⟩ := tc_Li.full hW.2.2.2.1 (Nat.lt_of_le_of_lt (Nat.zero_le _) g10.2)
        refine tc_cr (W.runV (As := [.int a1]) (rest := [.int 99]) ⟨hx, hb, hml, hown, hts⟩ (mt_lget l D cO (E 3) mo (E 5) (tc_nc x) cap fl a1 (E (46 + b11)) g10 ha3 ha4 (by rw [eb11]; exact ha5 _ g10.2)) (cwV 1 hts gX2_lasts_Jx4a65c_get_915e3 rfl rfl rfl (by decide +kernel) ⟨Nat.le_of_ble_eq_true rfl, Nat.le_of_ble_eq_true rfl⟩) ⟨fun a U g mk q => ⟨q.1, q.2.1, q.2.2.1, va_K.moved (Vm.Alike.refl U.vm) q.2.2.2⟩, tc_rcv ha1 hK rfl, fun U hU hW9 => ⟨rfl, by rw [hU]; exact ha1, by rw [hU]; exact ha2, va_K.moved hW9.alike (hK.sub [1] rfl)⟩⟩ rfl rfl hl.1 rfl (lv_room (Nat.le_of_ble_eq_true rfl)) dX2_lasts_30 ⟨Nat.le_of_ble_eq_true rfl, Nat.le_of_ble_eq_true rfl⟩) ?_
        refine va_castS hx hb hown (hts (.classLink RX2 81 "TreadCranes$Crane") (List.mem_of_getElem? (i := 2) rfl)) ((hK.1 2 _ rfl).2) (tc_rcv (hW.c g12) hK rfl) dX2_lasts_33 ?_
        refine tc_get (v := .int (x.1 24 b11)) hx hb hts hinX1 hown hK (hW.c g12) (C := RX1) (T := TX1) (N := 8) rfl 4 (by decide) (hts (.fieldLink RX2 96 "TreadCranes$Crane" "worn" "I") (List.mem_of_getElem? (i := 3) rfl)) (fun _ h9 => h9) rfl dX2_lasts_36 ?_
        refine lv_isub hx hb dX2_lasts_39 ?_
        refine lv_iload_n hx hb dX2_lasts_40 rfl (lv_at hl 0 rfl) ?_
        obtain ⟨g13, hF⟩ := tc_ob hF
        refine lv_idiv hx hb dX2_lasts_41 g13 ?_
        obtain ⟨h91, h92⟩ := tc_pr2 (Option.some.inj hF)
        refine W.widen (k := 2) (n := 12) (Nat.le_of_ble_eq_true rfl) (Nat.le_of_ble_eq_true rfl) ?_
        refine vx_ret ?_
        exact W.iret hx hb hr (fun t ht hW9 => ⟨⟨h91.symm, by rw [← h92], by rw [ht]; exact hW⟩, tc_F hS ht⟩) hS.2.2 dX2_lasts_42
      · have hF := tc_if hF c9
        refine lv_iconst (v := 0) hx hb dX2_lasts_19 (by decide) ?_
        refine lv_goto (tgt := 42) hx hb dX2_lasts_20 (by decide) ?_
        obtain ⟨h91, h92⟩ := tc_pr2 (Option.some.inj hF)
        refine W.widen (k := 2) (n := 12) (Nat.le_of_ble_eq_true rfl) (Nat.le_of_ble_eq_true rfl) ?_
        refine vx_ret ?_
        exact W.iret hx hb hr (fun t ht hW9 => ⟨⟨h91.symm, by rw [← h92], by rw [ht]; exact hW⟩, tc_F hS ht⟩) hS.2.2 dX2_lasts_42

def lp_X2_within_22 : Nat → tc_X → Nat → Int32 → Int32 → Option (Nat × Int32)
  | 0, _, _, _, _ => none
  | n_22 + 1, x, b5, w7, w8 => (if (nI (tc_nb x)) ≤ w8 then some (0, w7) else (if ¬ w8 < 0 ∧ w8.toNatClampNeg < tc_nb x then tc_let w8.toNatClampNeg (fun b11 => (if (x.1 12 b11) = (-1) then tc_let (w8 + 1) (fun v14 => lp_X2_within_22 n_22 x b5 w7 v14) else Option.bind (f_X1_reaches x b5 (x.1 12 b11)) (fun r15 => (if r15 = 0 then tc_let (w8 + 1) (fun v18 => lp_X2_within_22 n_22 x b5 w7 v18) else Option.bind (f_X1_canLift x b5 (x.1 11 b11)) (fun r19 => (if r19 = 0 then tc_let (w8 + 1) (fun v22 => lp_X2_within_22 n_22 x b5 w7 v22) else tc_let (w7 + 1) (fun v23 => tc_let (w8 + 1) (fun v24 => lp_X2_within_22 n_22 x b5 v23 v24)))))))) else none))
def f_X2_within (x : tc_X) (a1 : Int32) : Option (Nat × Int32) := Option.bind (f_X2_requireCrane x a1) (fun k1 => (if k1 = 0 then (if ¬ a1 < 0 ∧ a1.toNatClampNeg < tc_nc x then tc_let a1.toNatClampNeg (fun b5 => lp_X2_within_22 100 x b5 0 0) else none) else some (k1, 0)))
set_option maxHeartbeats 4000000 in
set_option maxRecDepth 100000 in
theorem mt_X2_within (l : Launch) (hst : l.stackTraces = false) (D : va_G) (cU cO cI : ClassId) (e0 : Nat) (A : Nat → Prop) (E : Nat → Nat) (x : tc_X) (a1 : Int32) (k : Nat) (r : Int32) (hF : f_X2_within x a1 = some (k, r)) : vx_Met l yX2_within wsX2_within ({ frames := 7, cells := 1, slots := 6, locals := 103 } : Room) (va_Pc [.ref (E 0), .int a1] (fun U => tc_WC D cU cO e0 A E x U.heap ∧ tc_KX D cU cO cI e0 A U)) (tc_Qx k (some (.int r)) (tc_WC D cU cO e0 A E x) A) (tc_XC k (tc_WC D cU cO e0 A E x) A) 1 6 A := by
  refine vx_ofW (cc := cX2_within) (maxL := 6) (ret := (some .int)) (by decide) rfl ?_
  intro p e s m args below meth c s₁ B hml hno hv
  obtain ⟨rfl, hW, hKX⟩ := hv
  have hx := B.exec
  have hb := B.bytes
  have hr := B.returns
  have hts := atoms_spec (ws := wsX2_within) B.pre
  have hown : s.vm.findClass RX2 = some m.cls := findClass_of_methodNamed B.named
  have hlocks := B.notSynchronized
  have hKC := hKX.1
  have hK := hKC.1
  have hA := hKX.2.1
  have hinX0 : ∀ w ∈ wsX00, w ∈ wsX2_within := fun w9 h9 => List.mem_cons_of_mem _ (List.mem_append_left _ (List.mem_append_left _ (List.mem_append_left _ (List.mem_append_right _ h9))))
  have hinX2 : ∀ w ∈ wsX20, w ∈ wsX2_within := fun w9 h9 => List.mem_cons_of_mem _ (List.mem_append_left _ (List.mem_append_left _ (List.mem_append_left _ (List.mem_append_left _ (List.mem_append_right _ h9)))))
  have hS : va_S A s.heap s.heap [] := va_S.rf
  have hl := lv_entry ([.ref (E 0), .int a1]) (n := 6) (Nat.le_of_ble_eq_true rfl)
  rw [lg_entry_eq]
  generalize (lg_sl ([.ref (E 0), .int a1]) ++ List.replicate (6 - (lg_sl ([.ref (E 0), .int a1])).length) Slot.unset).toArray = ls at hl ⊢
  have hl : lv_has ls 6 [(0, .ref (E 0)), (1, .int a1)] := hl
  refine lv_aload_n hx hb dX2_within_0 rfl (lv_at hl 0 rfl) ?_
  refine lv_iload_n hx hb dX2_within_1 rfl (lv_at hl 1 rfl) ?_
  obtain ⟨k1, h2, hF⟩ := tc_bi hF
  refine tc_cxv (vx_runV (As := [.int a1]) (rest := []) ⟨hx, hb, hml, hown, hts⟩ (mt_X2_requireCrane l hst D cU cO cI e0 A E x a1 k1 h2) (cwV 1 hts gX2_within_X2_requireCrane rfl rfl rfl (by decide +kernel) ⟨Nat.le_of_ble_eq_true rfl, Nat.le_of_ble_eq_true rfl⟩) ⟨fun a U g mk q => ⟨q.1, q.2.1, q.2.2.call⟩, tc_rcv (hW.o) hK rfl, fun U hU hW9 => ⟨rfl, by rw [hU]; exact hW, hKX.go hS hU hW9⟩⟩ rfl rfl hl.1 rfl (lv_room (Nat.le_of_ble_eq_true rfl)) dX2_within_2 ⟨Nat.le_of_ble_eq_true rfl, Nat.le_of_ble_eq_true rfl⟩) hS (fun _ _ h => h) (fun _ h => h) (fun _ _ h => h) (fun ce q9 H locs c3 hW z1 o1 hS hce hcv hcl => ?_) (fun H locs c3 hW z1 o1 hS => ?_)
  · have hF := tc_if hF c3
    obtain ⟨h91, h92⟩ := tc_pr2 (Option.some.inj hF)
    exact vx_out (fun z9 h9 => (hno z9 h9).elim) hlocks hce hcv hcl (fun t ht hal => ⟨⟨h91 ▸ c3, by rw [h91], by rw [ht]; exact hW⟩, tc_F hS ht⟩) hS.2.2 (Nat.le_of_ble_eq_true rfl) (Nat.le_of_ble_eq_true rfl)
  · have hF := tc_it hF c3
    refine lv_aload_n hx hb dX2_within_5 rfl (lv_at hl 0 rfl) ?_
    refine tc_get (v := .ref (E 3)) hx hb hts hinX2 hown hK (hW.o) (C := RX2) (T := TX2) (N := 4) rfl 2 (by decide) (hts (.fieldLink RX2 22 "TreadCranes" "cranes" "Ljava/util/ArrayList;") (List.mem_of_getElem? (i := 1) rfl)) (fun _ h9 => h9) rfl dX2_within_6 ?_
    refine lv_iload_n hx hb dX2_within_9 rfl (lv_at hl 1 rfl) ?_
    obtain ⟨g4, hF⟩ := tc_ob hF
    obtain ⟨b5, eb5⟩ : ∃ z : Nat, z = a1.toNatClampNeg := ⟨_, rfl⟩
    have hF := tc_lt hF eb5
    have g6 : b5 < tc_nc x := by rw [eb5]; exact g4.2
    obtain ⟨mo, cap, fl, ha1, ha2, ha3, ha4, ha5⟩ := tc_Li.full hW.2.2.2.1 (Nat.lt_of_le_of_lt (Nat.zero_le _) g4.2)
    refine tc_cr (W.runV (As := [.int a1]) (rest := []) ⟨hx, hb, hml, hown, hts⟩ (mt_lget l D cO (E 3) mo (E 5) (tc_nc x) cap fl a1 (E (46 + b5)) g4 ha3 ha4 (by rw [eb5]; exact ha5 _ g4.2)) (cwV 1 hts gX2_within_Jx4a65c_get_915e3 rfl rfl rfl (by decide +kernel) ⟨Nat.le_of_ble_eq_true rfl, Nat.le_of_ble_eq_true rfl⟩) ⟨fun a U g mk q => ⟨q.1, q.2.1, q.2.2.1, va_K.moved (Vm.Alike.refl U.vm) q.2.2.2⟩, tc_rcv ha1 hK rfl, fun U hU hW9 => ⟨rfl, by rw [hU]; exact ha1, by rw [hU]; exact ha2, va_K.moved hW9.alike (hK.sub [1] rfl)⟩⟩ rfl rfl hl.1 rfl (lv_room (Nat.le_of_ble_eq_true rfl)) dX2_within_10 ⟨Nat.le_of_ble_eq_true rfl, Nat.le_of_ble_eq_true rfl⟩) ?_
    refine va_castS hx hb hown (hts (.classLink RX2 81 "TreadCranes$Crane") (List.mem_of_getElem? (i := 2) rfl)) ((hK.1 2 _ rfl).2) (tc_rcv (hW.c g6) hK rfl) dX2_within_13 ?_
    refine lv_astore_n (lv' := [(2, .ref (E (46 + b5))), (0, .ref (E 0)), (1, .int a1)]) hx hb dX2_within_16 rfl hl (by decide) rfl (fun ls hl => ?_)
    refine lv_iconst (v := 0) hx hb dX2_within_17 (by decide) ?_
    refine lv_istore_n (lv' := [(3, .int 0), (2, .ref (E (46 + b5))), (0, .ref (E 0)), (1, .int a1)]) hx hb dX2_within_18 rfl hl (by decide) rfl (fun ls hl => ?_)
    refine lv_iconst (v := 0) hx hb dX2_within_19 (by decide) ?_
    refine lv_istore (lv' := [(4, .int 0), (3, .int 0), (2, .ref (E (46 + b5))), (0, .ref (E 0)), (1, .int a1)]) hx hb dX2_within_20 hl (by decide) rfl (fun ls hl => ?_)
    refine tc_lp2 (fun n w7 w8 => lp_X2_within_22 n x b5 w7 w8) (fun w7 w8 => [(0, .ref (E 0)), (2, .ref (E (46 + b5))), (3, .int w7), (4, .int w8)]) 100 0 0 ?_ ?_ hF (lv_sub hl [3, 2, 1, 0] rfl)
    · intro n_22 w7 w8 ih_22 hF ls hl
      have hF : lp_X2_within_22 (n_22 + 1) x b5 w7 w8 = some (k, r) := hF
      rw [lp_X2_within_22] at hF
      refine lv_iload hx hb dX2_within_22 (lv_at hl 3 rfl) ?_
      refine lv_aload_n hx hb dX2_within_24 rfl (lv_at hl 0 rfl) ?_
      refine tc_get (v := .ref (E 2)) hx hb hts hinX2 hown hK (hW.o) (C := RX2) (T := TX2) (N := 4) rfl 1 (by decide) (hts (.fieldLink RX2 18 "TreadCranes" "barrels" "Ljava/util/ArrayList;") (List.mem_of_getElem? (i := 3) rfl)) (fun _ h9 => h9) rfl dX2_within_25 ?_
      obtain ⟨mo, ha1, -⟩ := hW.2.2.1
      refine tc_cr (W.runV (As := []) (rest := [.int w8]) ⟨hx, hb, hml, hown, hts⟩ (mt_lsize l D (E 2) mo (E 4) (nI (tc_nb x))) (cwV 0 hts gX2_within_Jx4a65c_size_8abf5 rfl rfl rfl (by decide +kernel) ⟨Nat.le_of_ble_eq_true rfl, Nat.le_of_ble_eq_true rfl⟩) ⟨fun a U g mk q => ⟨q.1, q.2.1, va_K.moved (Vm.Alike.refl U.vm) q.2.2⟩, tc_rcv ha1 hK rfl, fun U hU hW9 => ⟨rfl, by rw [hU]; exact ha1, va_K.moved hW9.alike (hK.sub [] rfl)⟩⟩ rfl rfl hl.1 rfl (lv_room (Nat.le_of_ble_eq_true rfl)) dX2_within_28 ⟨Nat.le_of_ble_eq_true rfl, Nat.le_of_ble_eq_true rfl⟩) ?_
      refine lv_icmp_ge (tgt := 90) hx hb dX2_within_31 (by decide) (fun c9 => ?_) (fun c9 => ?_)
      · have hF := tc_it hF c9
        refine lv_iload_n hx hb dX2_within_90 rfl (lv_at hl 2 rfl) ?_
        obtain ⟨h91, h92⟩ := tc_pr2 (Option.some.inj hF)
        refine W.widen (k := 1) (n := 6) (Nat.le_of_ble_eq_true rfl) (Nat.le_of_ble_eq_true rfl) ?_
        refine vx_ret ?_
        exact W.iret hx hb hr (fun t ht hW9 => ⟨⟨h91.symm, by rw [← h92], by rw [ht]; exact hW⟩, tc_F hS ht⟩) hS.2.2 dX2_within_91
      · have hF := tc_if hF c9
        refine lv_aload_n hx hb dX2_within_34 rfl (lv_at hl 0 rfl) ?_
        refine tc_get (v := .ref (E 2)) hx hb hts hinX2 hown hK (hW.o) (C := RX2) (T := TX2) (N := 4) rfl 1 (by decide) (hts (.fieldLink RX2 18 "TreadCranes" "barrels" "Ljava/util/ArrayList;") (List.mem_of_getElem? (i := 3) rfl)) (fun _ h9 => h9) rfl dX2_within_35 ?_
        refine lv_iload hx hb dX2_within_38 (lv_at hl 3 rfl) ?_
        obtain ⟨g10, hF⟩ := tc_ob hF
        obtain ⟨b11, eb11⟩ : ∃ z : Nat, z = w8.toNatClampNeg := ⟨_, rfl⟩
        have hF := tc_lt hF eb11
        have g12 : b11 < tc_nb x := by rw [eb11]; exact g10.2
        obtain ⟨mo, cap, fl, ha1, ha2, ha3, ha4, ha5⟩ := tc_Li.full hW.2.2.1 (Nat.lt_of_le_of_lt (Nat.zero_le _) g10.2)
        refine tc_cr (W.runV (As := [.int w8]) (rest := []) ⟨hx, hb, hml, hown, hts⟩ (mt_lget l D cO (E 2) mo (E 4) (tc_nb x) cap fl w8 (E (6 + b11)) g10 ha3 ha4 (by rw [eb11]; exact ha5 _ g10.2)) (cwV 1 hts gX2_within_Jx4a65c_get_915e3 rfl rfl rfl (by decide +kernel) ⟨Nat.le_of_ble_eq_true rfl, Nat.le_of_ble_eq_true rfl⟩) ⟨fun a U g mk q => ⟨q.1, q.2.1, q.2.2.1, va_K.moved (Vm.Alike.refl U.vm) q.2.2.2⟩, tc_rcv ha1 hK rfl, fun U hU hW9 => ⟨rfl, by rw [hU]; exact ha1, by rw [hU]; exact ha2, va_K.moved hW9.alike (hK.sub [1] rfl)⟩⟩ rfl rfl hl.1 rfl (lv_room (Nat.le_of_ble_eq_true rfl)) dX2_within_40 ⟨Nat.le_of_ble_eq_true rfl, Nat.le_of_ble_eq_true rfl⟩) ?_
        refine va_castS hx hb hown (hts (.classLink RX2 9 "TreadCranes$Barrel") (List.mem_of_getElem? (i := 4) rfl)) ((hK.1 1 _ rfl).2) (tc_rcv (hW.b g12) hK rfl) dX2_within_43 ?_
        refine lv_astore (lv' := [(5, .ref (E (6 + b11))), (0, .ref (E 0)), (2, .ref (E (46 + b5))), (3, .int w7), (4, .int w8)]) hx hb dX2_within_46 hl (by decide) rfl (fun ls hl => ?_)
        refine lv_aload hx hb dX2_within_48 (lv_at hl 0 rfl) ?_
        refine tc_get (v := .int (x.1 12 b11)) hx hb hts hinX0 hown hK (hW.b g12) (C := RX0) (T := TX0) (N := 7) rfl 2 (by decide) (hts (.fieldLink RX2 193 "TreadCranes$Barrel" "place" "I") (List.mem_of_getElem? (i := 5) rfl)) (fun _ h9 => h9) rfl dX2_within_50 ?_
        refine lv_iconst (v := (-1)) hx hb dX2_within_53 (by decide) ?_
        refine lv_icmp_eq (tgt := 84) hx hb dX2_within_54 (by decide) (fun c13 => ?_) (fun c13 => ?_)
        · have hF := tc_it hF c13
          obtain ⟨v14, ev14⟩ : ∃ z : Int32, z = w8 + 1 := ⟨_, rfl⟩
          have hF := tc_lt hF ev14
          refine lv_iinc (v := v14) (lv' := [(4, .int v14), (5, .ref (E (6 + b11))), (0, .ref (E 0)), (2, .ref (E (46 + b5))), (3, .int w7)]) hx hb dX2_within_84 hl (k := 4) rfl (by rw [ev14]; rfl) (by decide) rfl (fun ls hl => ?_)
          refine lv_goto (tgt := 22) hx hb dX2_within_87 (by decide) ?_
          exact ih_22 w7 v14 hF _ (lv_sub hl [2, 3, 4, 0] rfl)
        · have hF := tc_if hF c13
          refine lv_aload_n hx hb dX2_within_57 rfl (lv_at hl 2 rfl) ?_
          refine lv_aload hx hb dX2_within_58 (lv_at hl 0 rfl) ?_
          refine tc_get (v := .int (x.1 12 b11)) hx hb hts hinX0 hown hK (hW.b g12) (C := RX0) (T := TX0) (N := 7) rfl 2 (by decide) (hts (.fieldLink RX2 193 "TreadCranes$Barrel" "place" "I") (List.mem_of_getElem? (i := 5) rfl)) (fun _ h9 => h9) rfl dX2_within_60 ?_
          obtain ⟨r15, h16, hF⟩ := tc_bi hF
          refine tc_cr (W.runV (As := [.int (x.1 12 b11)]) (rest := []) ⟨hx, hb, hml, hown, hts⟩ (mt_X1_reaches l D cU cO cI e0 A E x b5 (x.1 12 b11) r15 h16) (cwV 1 hts gX2_within_X1_reaches rfl rfl rfl (by decide +kernel) ⟨Nat.le_of_ble_eq_true rfl, Nat.le_of_ble_eq_true rfl⟩) ⟨fun a U g mk q => ⟨q.1, q.2.1, q.2.2.call⟩, tc_rcv (hW.c g6) hK rfl, fun U hU hW9 => ⟨rfl, by rw [hU]; exact hW, hKC.warm hW9⟩⟩ rfl rfl hl.1 rfl (lv_room (Nat.le_of_ble_eq_true rfl)) dX2_within_63 ⟨Nat.le_of_ble_eq_true rfl, Nat.le_of_ble_eq_true rfl⟩) ?_
          refine lv_if_eq (tgt := 84) hx hb dX2_within_66 (by decide) (fun c17 => ?_) (fun c17 => ?_)
          · have hF := tc_it hF c17
            obtain ⟨v18, ev18⟩ : ∃ z : Int32, z = w8 + 1 := ⟨_, rfl⟩
            have hF := tc_lt hF ev18
            refine lv_iinc (v := v18) (lv' := [(4, .int v18), (5, .ref (E (6 + b11))), (0, .ref (E 0)), (2, .ref (E (46 + b5))), (3, .int w7)]) hx hb dX2_within_84 hl (k := 4) rfl (by rw [ev18]; rfl) (by decide) rfl (fun ls hl => ?_)
            refine lv_goto (tgt := 22) hx hb dX2_within_87 (by decide) ?_
            exact ih_22 w7 v18 hF _ (lv_sub hl [2, 3, 4, 0] rfl)
          · have hF := tc_if hF c17
            refine lv_aload_n hx hb dX2_within_69 rfl (lv_at hl 2 rfl) ?_
            refine lv_aload hx hb dX2_within_70 (lv_at hl 0 rfl) ?_
            refine tc_get (v := .int (x.1 11 b11)) hx hb hts hinX0 hown hK (hW.b g12) (C := RX0) (T := TX0) (N := 7) rfl 1 (by decide) (hts (.fieldLink RX2 134 "TreadCranes$Barrel" "weight" "I") (List.mem_of_getElem? (i := 6) rfl)) (fun _ h9 => h9) rfl dX2_within_72 ?_
            obtain ⟨r19, h20, hF⟩ := tc_bi hF
            refine tc_cr (W.runV (As := [.int (x.1 11 b11)]) (rest := []) ⟨hx, hb, hml, hown, hts⟩ (mt_X1_canLift l D cU cO cI e0 A E x b5 (x.1 11 b11) r19 h20) (cwV 1 hts gX2_within_X1_canLift rfl rfl rfl (by decide +kernel) ⟨Nat.le_of_ble_eq_true rfl, Nat.le_of_ble_eq_true rfl⟩) ⟨fun a U g mk q => ⟨q.1, q.2.1, q.2.2.call⟩, tc_rcv (hW.c g6) hK rfl, fun U hU hW9 => ⟨rfl, by rw [hU]; exact hW, hKC.warm hW9⟩⟩ rfl rfl hl.1 rfl (lv_room (Nat.le_of_ble_eq_true rfl)) dX2_within_75 ⟨Nat.le_of_ble_eq_true rfl, Nat.le_of_ble_eq_true rfl⟩) ?_
            refine lv_if_eq (tgt := 84) hx hb dX2_within_78 (by decide) (fun c21 => ?_) (fun c21 => ?_)
            · have hF := tc_it hF c21
              obtain ⟨v22, ev22⟩ : ∃ z : Int32, z = w8 + 1 := ⟨_, rfl⟩
              have hF := tc_lt hF ev22
              refine lv_iinc (v := v22) (lv' := [(4, .int v22), (5, .ref (E (6 + b11))), (0, .ref (E 0)), (2, .ref (E (46 + b5))), (3, .int w7)]) hx hb dX2_within_84 hl (k := 4) rfl (by rw [ev22]; rfl) (by decide) rfl (fun ls hl => ?_)
              refine lv_goto (tgt := 22) hx hb dX2_within_87 (by decide) ?_
              exact ih_22 w7 v22 hF _ (lv_sub hl [2, 3, 4, 0] rfl)
            · have hF := tc_if hF c21
              obtain ⟨v23, ev23⟩ : ∃ z : Int32, z = w7 + 1 := ⟨_, rfl⟩
              have hF := tc_lt hF ev23
              refine lv_iinc (v := v23) (lv' := [(3, .int v23), (5, .ref (E (6 + b11))), (0, .ref (E 0)), (2, .ref (E (46 + b5))), (4, .int w8)]) hx hb dX2_within_81 hl (k := 3) rfl (by rw [ev23]; rfl) (by decide) rfl (fun ls hl => ?_)
              obtain ⟨v24, ev24⟩ : ∃ z : Int32, z = w8 + 1 := ⟨_, rfl⟩
              have hF := tc_lt hF ev24
              refine lv_iinc (v := v24) (lv' := [(4, .int v24), (3, .int v23), (5, .ref (E (6 + b11))), (0, .ref (E 0)), (2, .ref (E (46 + b5)))]) hx hb dX2_within_84 hl (k := 4) rfl (by rw [ev24]; rfl) (by decide) rfl (fun ls hl => ?_)
              refine lv_goto (tgt := 22) hx hb dX2_within_87 (by decide) ?_
              exact ih_22 v23 v24 hF _ (lv_sub hl [3, 4, 1, 0] rfl)
    · intro w7 w8 h9
      have h9 : lp_X2_within_22 0 x b5 w7 w8 = some (k, r) := h9
      rw [lp_X2_within_22] at h9
      cases h9
