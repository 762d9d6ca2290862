def f_X3_no (x : tc_Y) (a1 : Int32) : Option (Int32 × tc_Y) := tc_let (tc_ym x 0 0 a1) (fun x1 => some (0, x1))
set_option maxHeartbeats 4000000 in
set_option maxRecDepth 100000 in
theorem mt_X3_no (l : Launch) (D : va_G) (cU cO cI : ClassId) (A : Nat → Prop) (E : Nat → Nat) (x : tc_Y) (a1 : Int32) (r : Int32) (z : tc_Y) (hF : f_X3_no x a1 = some (r, z)) : Met l yX3_no wsX3_no ({ frames := 0, cells := 0, slots := 0, locals := 0 } : Room) (va_Pc [.ref (E 0), .int a1] (fun U => tc_WM D cI A E x U.heap ∧ tc_KM D cU cO cI A U)) (tc_Qw (some (.int r)) (tc_WM D cI A E z) A) 0 0 A := by
  refine Met.ofW (cc := cX3_no) (maxL := 2) (ret := (some .int)) (by decide) rfl ?_
  intro p e s m args below meth c s₁ B hml hv
  obtain ⟨rfl, hW, hKM⟩ := hv
  have hx := B.exec
  have hb := B.bytes
  have hr := B.returns
  have hts := atoms_spec (ws := wsX3_no) B.pre
  have hown : s.vm.findClass RX3 = some m.cls := findClass_of_methodNamed B.named
  have hlocks := B.notSynchronized
  have hK := hKM.1
  have hA := hKM.2
  have hinX3 : ∀ w ∈ wsX30, w ∈ wsX3_no := fun w9 h9 => List.mem_cons_of_mem _ (List.mem_append_right _ h9)
  have hS : va_S A s.heap s.heap [] := va_S.rf
  have hl := lv_entry ([.ref (E 0), .int a1]) (n := 2) (Nat.le_of_ble_eq_true rfl)
  rw [lg_entry_eq]
  generalize (lg_sl ([.ref (E 0), .int a1]) ++ List.replicate (2 - (lg_sl ([.ref (E 0), .int a1])).length) Slot.unset).toArray = ls at hl ⊢
  have hl : lv_has ls 2 [(0, .ref (E 0)), (1, .int a1)] := hl
  refine lv_aload_n hx hb dX3_no_0 rfl (lv_at hl 0 rfl) ?_
  refine lv_iload_n hx hb dX3_no_1 rfl (lv_at hl 1 rfl) ?_
  refine tc_put (v := .int a1) (ty := .int) hx hb hts hinX3 tyX3 tyX3_ok nmX3 hown hK (hW.1) hS (hW.own (Or.inl rfl)) (C := RX3) (T := TX3) (N := 15) rfl 0 (by decide) (hts (.fieldLink RX3 43 "TreadCranesModel" "thrown" "I") (List.mem_of_getElem? (i := 1) rfl)) (fun _ h9 => h9) rfl (by decide +kernel) rfl rfl (Nat.le_of_ble_eq_true rfl) dX3_no_2 (fun H locs e1 z1 o1 hS => ?_)
  obtain ⟨x1, ex1⟩ : ∃ z : tc_Y, z = tc_ym x 0 0 a1 := ⟨_, rfl⟩
  have hF := tc_lt hF ex1
  have hW : tc_WM D cI A E x1 H := by rw [ex1]; exact hW.sf (Or.inl rfl) (by rw [tc_m0]; exact e1) o1
  refine lv_iconst (v := 0) hx hb dX3_no_5 (by decide) ?_
  obtain ⟨h91, h92⟩ := tc_pr2 (Option.some.inj hF)
  refine W.widen (k := 0) (n := 0) (Nat.le_of_ble_eq_true rfl) (Nat.le_of_ble_eq_true rfl) ?_
  exact W.iret hx hb hr (fun t ht hW9 => ⟨⟨by rw [← h91], by rw [← h92, ht]; exact hW⟩, tc_F hS ht⟩) hS.2.2 dX3_no_6

def f_X3_land (x : tc_Y) (a1 : Int32) (a2 : Int32) : Option (Int32 × tc_Y) := tc_let (tc_ym x 0 0 0) (fun x1 => Option.bind (f_X3_isPlace a1) (fun r2 => (if r2 = 0 then tc_b2 (f_X3_no x1 1) (fun r34 x35 => some (r34, x35)) else Option.bind (f_X3_isIn a2 1 60) (fun r5 => (if r5 = 0 then tc_b2 (f_X3_no x1 2) (fun r31 x32 => some (r31, x32)) else Option.bind (f_X3_high x1 a1) (fun r8 => (if (x1 2 0) = 40 then tc_b2 (f_X3_no x1 3) (fun r11 x12 => some (r11, x12)) else (if r8 = 8 then tc_b2 (f_X3_no x1 3) (fun r15 x16 => some (r15, x16)) else Option.bind (f_X3_isTooLow x1 a1 (r8 + 1) (-1)) (fun r18 => (if r18 = 0 then (if ¬ (x1 2 0) < 0 ∧ (x1 2 0).toNatClampNeg < 40 then tc_let (tc_ym x1 3 (x1 2 0).toNatClampNeg a2) (fun x22 => (if ¬ (x22 2 0) < 0 ∧ (x22 2 0).toNatClampNeg < 40 then tc_let (tc_ym x22 4 (x22 2 0).toNatClampNeg a1) (fun x24 => (if ¬ (x24 2 0) < 0 ∧ (x24 2 0).toNatClampNeg < 40 then tc_let (tc_ym x24 5 (x24 2 0).toNatClampNeg r8) (fun x26 => tc_let (tc_ym x26 2 0 ((x26 2 0) + 1)) (fun x27 => some (((x27 2 0) - 1), x27))) else none)) else none)) else none) else tc_b2 (f_X3_no x1 3) (fun r28 x29 => some (r28, x29))))))))))))
set_option maxHeartbeats 4000000 in
set_option maxRecDepth 100000 in
theorem mt_X3_land (l : Launch) (D : va_G) (cU cO cI : ClassId) (A : Nat → Prop) (E : Nat → Nat) (x : tc_Y) (a1 : Int32) (a2 : Int32) (r : Int32) (z : tc_Y) (hF : f_X3_land x a1 a2 = some (r, z)) : Met l yX3_land wsX3_land ({ frames := 2, cells := 0, slots := 0, locals := 45 } : Room) (va_Pc [.ref (E 0), .int a1, .int a2] (fun U => tc_WM D cI A E x U.heap ∧ tc_KM D cU cO cI A U)) (tc_Qw (some (.int r)) (tc_WM D cI A E z) A) 0 0 A := by
  refine Met.ofW (cc := cX3_land) (maxL := 4) (ret := (some .int)) (by decide) rfl ?_
  intro p e s m args below meth c s₁ B hml hv
  obtain ⟨rfl, hW, hKM⟩ := hv
  have hx := B.exec
  have hb := B.bytes
  have hr := B.returns
  have hts := atoms_spec (ws := wsX3_land) B.pre
  have hown : s.vm.findClass RX3 = some m.cls := findClass_of_methodNamed B.named
  have hlocks := B.notSynchronized
  have hK := hKM.1
  have hA := hKM.2
  have hinX3 : ∀ w ∈ wsX30, w ∈ wsX3_land := fun w9 h9 => List.mem_cons_of_mem _ (List.mem_append_right _ h9)
  have hS : va_S A s.heap s.heap [] := va_S.rf
  have hl := lv_entry ([.ref (E 0), .int a1, .int a2]) (n := 4) (Nat.le_of_ble_eq_true rfl)
  rw [lg_entry_eq]
  generalize (lg_sl ([.ref (E 0), .int a1, .int a2]) ++ List.replicate (4 - (lg_sl ([.ref (E 0), .int a1, .int a2])).length) Slot.unset).toArray = ls at hl ⊢
  have hl : lv_has ls 4 [(0, .ref (E 0)), (1, .int a1), (2, .int a2)] := hl
  refine lv_aload_n hx hb dX3_land_0 rfl (lv_at hl 0 rfl) ?_
  refine lv_iconst (v := 0) hx hb dX3_land_1 (by decide) ?_
  refine tc_put (v := .int 0) (ty := .int) hx hb hts hinX3 tyX3 tyX3_ok nmX3 hown hK (hW.1) hS (hW.own (Or.inl rfl)) (C := RX3) (T := TX3) (N := 15) rfl 0 (by decide) (hts (.fieldLink RX3 43 "TreadCranesModel" "thrown" "I") (List.mem_of_getElem? (i := 1) rfl)) (fun _ h9 => h9) rfl (by decide +kernel) rfl rfl (Nat.le_of_ble_eq_true rfl) dX3_land_2 (fun H locs e1 z1 o1 hS => ?_)
  obtain ⟨x1, ex1⟩ : ∃ z : tc_Y, z = tc_ym x 0 0 0 := ⟨_, rfl⟩
  have hF := tc_lt hF ex1
  have hW : tc_WM D cI A E x1 H := by rw [ex1]; exact hW.sf (Or.inl rfl) (by rw [tc_m0]; exact e1) o1
  refine lv_iload_n hx hb dX3_land_5 rfl (lv_at hl 1 rfl) ?_
  obtain ⟨r2, h3, hF⟩ := tc_bi hF
  refine tc_cr (W.runS (As := [.int a1]) (rest := []) ⟨hx, hb, hml, hown, hts⟩ (mt_X3_isPlace l   a1 r2 h3) (va_cwS 1 hts gX3_land_X3_isPlace rfl rfl rfl (by decide +kernel) ⟨Nat.le_of_ble_eq_true rfl, Nat.le_of_ble_eq_true rfl⟩) ⟨fun a U g mk q => q, fun U hU hW9 => ⟨rfl, trivial⟩⟩ rfl rfl hl.1 rfl (lv_room (Nat.le_of_ble_eq_true rfl)) dX3_land_6 ⟨Nat.le_of_ble_eq_true rfl, Nat.le_of_ble_eq_true rfl⟩) ?_
  refine lv_if_ne (tgt := 18) hx hb dX3_land_9 (by decide) (fun c4 => ?_) (fun c4 => ?_)
  · have hF := tc_if hF c4
    refine lv_iload_n hx hb dX3_land_18 rfl (lv_at hl 2 rfl) ?_
    refine lv_iconst (v := 1) hx hb dX3_land_19 (by decide) ?_
    refine lv_bipush (v := 60) hx hb dX3_land_20 (by decide) ?_
    obtain ⟨r5, h6, hF⟩ := tc_bi hF
    refine tc_cr (W.runS (As := [.int a2, .int 1, .int 60]) (rest := []) ⟨hx, hb, hml, hown, hts⟩ (mt_X3_isIn l   a2 1 60 r5 h6) (va_cwS 3 hts gX3_land_X3_isIn rfl rfl rfl (by decide +kernel) ⟨Nat.le_of_ble_eq_true rfl, Nat.le_of_ble_eq_true rfl⟩) ⟨fun a U g mk q => q, fun U hU hW9 => ⟨rfl, trivial⟩⟩ rfl rfl hl.1 rfl (lv_room (Nat.le_of_ble_eq_true rfl)) dX3_land_22 ⟨Nat.le_of_ble_eq_true rfl, Nat.le_of_ble_eq_true rfl⟩) ?_
    refine lv_if_ne (tgt := 34) hx hb dX3_land_25 (by decide) (fun c7 => ?_) (fun c7 => ?_)
    · have hF := tc_if hF c7
      refine lv_aload_n hx hb dX3_land_34 rfl (lv_at hl 0 rfl) ?_
      refine lv_iload_n hx hb dX3_land_35 rfl (lv_at hl 1 rfl) ?_
      obtain ⟨r8, h9, hF⟩ := tc_bi hF
      refine tc_cr (W.runV (As := [.int a1]) (rest := []) ⟨hx, hb, hml, hown, hts⟩ (mt_X3_high l D cU cO cI A E x1 a1 r8 h9) (cwV 1 hts gX3_land_X3_high rfl rfl rfl (by decide +kernel) ⟨Nat.le_of_ble_eq_true rfl, Nat.le_of_ble_eq_true rfl⟩) ⟨fun a U g mk q => ⟨q.1, q.2.1, va_K.moved (Vm.Alike.refl U.vm) q.2.2⟩, tc_rcv (hW.1) hK rfl, fun U hU hW9 => ⟨rfl, by rw [hU]; exact hW, va_K.moved hW9.alike hK⟩⟩ rfl rfl hl.1 rfl (lv_room (Nat.le_of_ble_eq_true rfl)) dX3_land_36 ⟨Nat.le_of_ble_eq_true rfl, Nat.le_of_ble_eq_true rfl⟩) ?_
      refine lv_istore_n (lv' := [(3, .int r8), (0, .ref (E 0)), (1, .int a1), (2, .int a2)]) hx hb dX3_land_39 rfl hl (by decide) rfl (fun ls hl => ?_)
      refine lv_aload_n hx hb dX3_land_40 rfl (lv_at hl 1 rfl) ?_
      refine tc_get (v := .int (x1 2 0)) hx hb hts hinX3 hown hK (hW.1) (C := RX3) (T := TX3) (N := 15) rfl 2 (by decide) (hts (.fieldLink RX3 54 "TreadCranesModel" "barrels" "I") (List.mem_of_getElem? (i := 2) rfl)) (fun _ h9 => h9) rfl dX3_land_41 ?_
      refine lv_bipush (v := 40) hx hb dX3_land_44 (by decide) ?_
      refine lv_icmp_eq (tgt := 67) hx hb dX3_land_46 (by decide) (fun c10 => ?_) (fun c10 => ?_)
      · have hF := tc_it hF c10
        refine lv_aload_n hx hb dX3_land_67 rfl (lv_at hl 1 rfl) ?_
        refine lv_iconst (v := 3) hx hb dX3_land_68 (by decide) ?_
        obtain ⟨r11, x12, h13, hF⟩ := tc_bi2 hF
        refine tc_cw (va_runV (As := [.int 3]) (rest := []) ⟨hx, hb, hml, hown, hts⟩ (mt_X3_no l D cU cO cI A E x1 3 r11 x12 h13) (cwV 1 hts gX3_land_X3_no rfl rfl rfl (by decide +kernel) ⟨Nat.le_of_ble_eq_true rfl, Nat.le_of_ble_eq_true rfl⟩) ⟨fun a U g mk q => ⟨q.1, q.2.1, q.2.2.call⟩, tc_rcv (hW.1) hK rfl, fun U hU hW9 => ⟨rfl, by rw [hU]; exact hW, hKM.go hS hU hW9⟩⟩ rfl rfl hl.1 rfl (lv_room (Nat.le_of_ble_eq_true rfl)) dX3_land_69 ⟨Nat.le_of_ble_eq_true rfl, Nat.le_of_ble_eq_true rfl⟩) hS (fun _ _ h => h) (fun _ h => h) (fun H locs hW z1 o1 hS => ?_)
        obtain ⟨h91, h92⟩ := tc_pr2 (Option.some.inj hF)
        refine W.widen (k := 0) (n := 0) (Nat.le_of_ble_eq_true rfl) (Nat.le_of_ble_eq_true rfl) ?_
        exact W.iret hx hb hr (fun t ht hW9 => ⟨⟨by rw [← h91], by rw [← h92, ht]; exact hW⟩, tc_F hS ht⟩) hS.2.2 dX3_land_72
      · have hF := tc_if hF c10
        refine lv_iload_n hx hb dX3_land_49 rfl (lv_at hl 0 rfl) ?_
        refine lv_bipush (v := 8) hx hb dX3_land_50 (by decide) ?_
        refine lv_icmp_eq (tgt := 67) hx hb dX3_land_52 (by decide) (fun c14 => ?_) (fun c14 => ?_)
        · have hF := tc_it hF c14
          refine lv_aload_n hx hb dX3_land_67 rfl (lv_at hl 1 rfl) ?_
          refine lv_iconst (v := 3) hx hb dX3_land_68 (by decide) ?_
          obtain ⟨r15, x16, h17, hF⟩ := tc_bi2 hF
          refine tc_cw (va_runV (As := [.int 3]) (rest := []) ⟨hx, hb, hml, hown, hts⟩ (mt_X3_no l D cU cO cI A E x1 3 r15 x16 h17) (cwV 1 hts gX3_land_X3_no rfl rfl rfl (by decide +kernel) ⟨Nat.le_of_ble_eq_true rfl, Nat.le_of_ble_eq_true rfl⟩) ⟨fun a U g mk q => ⟨q.1, q.2.1, q.2.2.call⟩, tc_rcv (hW.1) hK rfl, fun U hU hW9 => ⟨rfl, by rw [hU]; exact hW, hKM.go hS hU hW9⟩⟩ rfl rfl hl.1 rfl (lv_room (Nat.le_of_ble_eq_true rfl)) dX3_land_69 ⟨Nat.le_of_ble_eq_true rfl, Nat.le_of_ble_eq_true rfl⟩) hS (fun _ _ h => h) (fun _ h => h) (fun H locs hW z1 o1 hS => ?_)
          obtain ⟨h91, h92⟩ := tc_pr2 (Option.some.inj hF)
          refine W.widen (k := 0) (n := 0) (Nat.le_of_ble_eq_true rfl) (Nat.le_of_ble_eq_true rfl) ?_
          exact W.iret hx hb hr (fun t ht hW9 => ⟨⟨by rw [← h91], by rw [← h92, ht]; exact hW⟩, tc_F hS ht⟩) hS.2.2 dX3_land_72
        · have hF := tc_if hF c14
          refine lv_aload_n hx hb dX3_land_55 rfl (lv_at hl 1 rfl) ?_
          refine lv_iload_n hx hb dX3_land_56 rfl (lv_at hl 2 rfl) ?_
          refine lv_iload_n hx hb dX3_land_57 rfl (lv_at hl 0 rfl) ?_
          refine lv_iconst (v := 1) hx hb dX3_land_58 (by decide) ?_
          refine lv_iadd hx hb dX3_land_59 ?_
          refine lv_iconst (v := (-1)) hx hb dX3_land_60 (by decide) ?_
          obtain ⟨r18, h19, hF⟩ := tc_bi hF
          refine tc_cr (W.runV (As := [.int a1, .int (r8 + 1), .int (-1)]) (rest := []) ⟨hx, hb, hml, hown, hts⟩ (mt_X3_isTooLow l D cU cO cI A E x1 a1 (r8 + 1) (-1) r18 h19) (cwV 3 hts gX3_land_X3_isTooLow rfl rfl rfl (by decide +kernel) ⟨Nat.le_of_ble_eq_true rfl, Nat.le_of_ble_eq_true rfl⟩) ⟨fun a U g mk q => ⟨q.1, q.2.1, va_K.moved (Vm.Alike.refl U.vm) q.2.2⟩, tc_rcv (hW.1) hK rfl, fun U hU hW9 => ⟨rfl, by rw [hU]; exact hW, va_K.moved hW9.alike hK⟩⟩ rfl rfl hl.1 rfl (lv_room (Nat.le_of_ble_eq_true rfl)) dX3_land_61 ⟨Nat.le_of_ble_eq_true rfl, Nat.le_of_ble_eq_true rfl⟩) ?_
          refine lv_if_eq (tgt := 73) hx hb dX3_land_64 (by decide) (fun c20 => ?_) (fun c20 => ?_)
          · have hF := tc_it hF c20
            refine lv_aload_n hx hb dX3_land_73 rfl (lv_at hl 1 rfl) ?_
            refine tc_get (v := .ref (E 3)) hx hb hts hinX3 hown hK (hW.1) (C := RX3) (T := TX3) (N := 15) rfl 3 (by decide) (hts (.fieldLink RX3 9 "TreadCranesModel" "weight" "[I") (List.mem_of_getElem? (i := 3) rfl)) (fun _ h9 => h9) rfl dX3_land_74 ?_
            refine lv_aload_n hx hb dX3_land_77 rfl (lv_at hl 1 rfl) ?_
            refine tc_get (v := .int (x1 2 0)) hx hb hts hinX3 hown hK (hW.1) (C := RX3) (T := TX3) (N := 15) rfl 2 (by decide) (hts (.fieldLink RX3 54 "TreadCranesModel" "barrels" "I") (List.mem_of_getElem? (i := 2) rfl)) (fun _ h9 => h9) rfl dX3_land_78 ?_
            refine lv_iload_n hx hb dX3_land_81 rfl (lv_at hl 3 rfl) ?_
            obtain ⟨g21, hF⟩ := tc_ob hF
            refine tc_iast (f := x1 3) hx hb hK (hW.lo ⟨by decide, by decide⟩) hS (hW.own (Or.inr (Or.inl ⟨by decide, by decide⟩))) 2 rfl g21 dX3_land_82 (fun H locs e1 z1 o1 hS => ?_)
            obtain ⟨x22, ex22⟩ : ∃ z : tc_Y, z = tc_ym x1 3 (x1 2 0).toNatClampNeg a2 := ⟨_, rfl⟩
            have hF := tc_lt hF ex22
            have hW : tc_WM D cI A E x22 H := by rw [ex22]; exact hW.sl ⟨by decide, by decide⟩ e1 o1
            refine lv_aload_n hx hb dX3_land_83 rfl (lv_at hl 1 rfl) ?_
            refine tc_get (v := .ref (E 4)) hx hb hts hinX3 hown hK (hW.1) (C := RX3) (T := TX3) (N := 15) rfl 4 (by decide) (hts (.fieldLink RX3 13 "TreadCranesModel" "at" "[I") (List.mem_of_getElem? (i := 4) rfl)) (fun _ h9 => h9) rfl dX3_land_84 ?_
            refine lv_aload_n hx hb dX3_land_87 rfl (lv_at hl 1 rfl) ?_
            refine tc_get (v := .int (x22 2 0)) hx hb hts hinX3 hown hK (hW.1) (C := RX3) (T := TX3) (N := 15) rfl 2 (by decide) (hts (.fieldLink RX3 54 "TreadCranesModel" "barrels" "I") (List.mem_of_getElem? (i := 2) rfl)) (fun _ h9 => h9) rfl dX3_land_88 ?_
            refine lv_iload_n hx hb dX3_land_91 rfl (lv_at hl 2 rfl) ?_
            obtain ⟨g23, hF⟩ := tc_ob hF
            refine tc_iast (f := x22 4) hx hb hK (hW.lo ⟨by decide, by decide⟩) hS (hW.own (Or.inr (Or.inl ⟨by decide, by decide⟩))) 2 rfl g23 dX3_land_92 (fun H locs e1 z1 o1 hS => ?_)
            obtain ⟨x24, ex24⟩ : ∃ z : tc_Y, z = tc_ym x22 4 (x22 2 0).toNatClampNeg a1 := ⟨_, rfl⟩
            have hF := tc_lt hF ex24
            have hW : tc_WM D cI A E x24 H := by rw [ex24]; exact hW.sl ⟨by decide, by decide⟩ e1 o1
            refine lv_aload_n hx hb dX3_land_93 rfl (lv_at hl 1 rfl) ?_
            refine tc_get (v := .ref (E 5)) hx hb hts hinX3 hown hK (hW.1) (C := RX3) (T := TX3) (N := 15) rfl 5 (by decide) (hts (.fieldLink RX3 16 "TreadCranesModel" "below" "[I") (List.mem_of_getElem? (i := 5) rfl)) (fun _ h9 => h9) rfl dX3_land_94 ?_
            refine lv_aload_n hx hb dX3_land_97 rfl (lv_at hl 1 rfl) ?_
            refine tc_get (v := .int (x24 2 0)) hx hb hts hinX3 hown hK (hW.1) (C := RX3) (T := TX3) (N := 15) rfl 2 (by decide) (hts (.fieldLink RX3 54 "TreadCranesModel" "barrels" "I") (List.mem_of_getElem? (i := 2) rfl)) (fun _ h9 => h9) rfl dX3_land_98 ?_
            refine lv_iload_n hx hb dX3_land_101 rfl (lv_at hl 0 rfl) ?_
            obtain ⟨g25, hF⟩ := tc_ob hF
            refine tc_iast (f := x24 5) hx hb hK (hW.lo ⟨by decide, by decide⟩) hS (hW.own (Or.inr (Or.inl ⟨by decide, by decide⟩))) 2 rfl g25 dX3_land_102 (fun H locs e1 z1 o1 hS => ?_)
            obtain ⟨x26, ex26⟩ : ∃ z : tc_Y, z = tc_ym x24 5 (x24 2 0).toNatClampNeg r8 := ⟨_, rfl⟩
            have hF := tc_lt hF ex26
            have hW : tc_WM D cI A E x26 H := by rw [ex26]; exact hW.sl ⟨by decide, by decide⟩ e1 o1
            refine lv_aload_n hx hb dX3_land_103 rfl (lv_at hl 1 rfl) ?_
            refine lv_dup hx hb dX3_land_104 rfl ?_
            refine tc_get (v := .int (x26 2 0)) hx hb hts hinX3 hown hK (hW.1) (C := RX3) (T := TX3) (N := 15) rfl 2 (by decide) (hts (.fieldLink RX3 54 "TreadCranesModel" "barrels" "I") (List.mem_of_getElem? (i := 2) rfl)) (fun _ h9 => h9) rfl dX3_land_105 ?_
            refine lv_iconst (v := 1) hx hb dX3_land_108 (by decide) ?_
            refine lv_iadd hx hb dX3_land_109 ?_
            refine tc_put (v := .int ((x26 2 0) + 1)) (ty := .int) hx hb hts hinX3 tyX3 tyX3_ok nmX3 hown hK (hW.1) hS (hW.own (Or.inl rfl)) (C := RX3) (T := TX3) (N := 15) rfl 2 (by decide) (hts (.fieldLink RX3 54 "TreadCranesModel" "barrels" "I") (List.mem_of_getElem? (i := 2) rfl)) (fun _ h9 => h9) rfl (by decide +kernel) rfl rfl (Nat.le_of_ble_eq_true rfl) dX3_land_110 (fun H locs e1 z1 o1 hS => ?_)
            obtain ⟨x27, ex27⟩ : ∃ z : tc_Y, z = tc_ym x26 2 0 ((x26 2 0) + 1) := ⟨_, rfl⟩
            have hF := tc_lt hF ex27
            have hW : tc_WM D cI A E x27 H := by rw [ex27]; exact hW.sf (Or.inr (Or.inr (Or.inl rfl))) (by rw [tc_m2]; exact e1) o1
            refine lv_aload_n hx hb dX3_land_113 rfl (lv_at hl 1 rfl) ?_
            refine tc_get (v := .int (x27 2 0)) hx hb hts hinX3 hown hK (hW.1) (C := RX3) (T := TX3) (N := 15) rfl 2 (by decide) (hts (.fieldLink RX3 54 "TreadCranesModel" "barrels" "I") (List.mem_of_getElem? (i := 2) rfl)) (fun _ h9 => h9) rfl dX3_land_114 ?_
            refine lv_iconst (v := 1) hx hb dX3_land_117 (by decide) ?_
            refine lv_isub hx hb dX3_land_118 ?_
            obtain ⟨h91, h92⟩ := tc_pr2 (Option.some.inj hF)
            refine W.widen (k := 0) (n := 0) (Nat.le_of_ble_eq_true rfl) (Nat.le_of_ble_eq_true rfl) ?_
            exact W.iret hx hb hr (fun t ht hW9 => ⟨⟨by rw [← h91], by rw [← h92, ht]; exact hW⟩, tc_F hS ht⟩) hS.2.2 dX3_land_119
          · have hF := tc_if hF c20
            refine lv_aload_n hx hb dX3_land_67 rfl (lv_at hl 1 rfl) ?_
            refine lv_iconst (v := 3) hx hb dX3_land_68 (by decide) ?_
            obtain ⟨r28, x29, h30, hF⟩ := tc_bi2 hF
            refine tc_cw (va_runV (As := [.int 3]) (rest := []) ⟨hx, hb, hml, hown, hts⟩ (mt_X3_no l D cU cO cI A E x1 3 r28 x29 h30) (cwV 1 hts gX3_land_X3_no rfl rfl rfl (by decide +kernel) ⟨Nat.le_of_ble_eq_true rfl, Nat.le_of_ble_eq_true rfl⟩) ⟨fun a U g mk q => ⟨q.1, q.2.1, q.2.2.call⟩, tc_rcv (hW.1) hK rfl, fun U hU hW9 => ⟨rfl, by rw [hU]; exact hW, hKM.go hS hU hW9⟩⟩ rfl rfl hl.1 rfl (lv_room (Nat.le_of_ble_eq_true rfl)) dX3_land_69 ⟨Nat.le_of_ble_eq_true rfl, Nat.le_of_ble_eq_true rfl⟩) hS (fun _ _ h => h) (fun _ h => h) (fun H locs hW z1 o1 hS => ?_)
            obtain ⟨h91, h92⟩ := tc_pr2 (Option.some.inj hF)
            refine W.widen (k := 0) (n := 0) (Nat.le_of_ble_eq_true rfl) (Nat.le_of_ble_eq_true rfl) ?_
            exact W.iret hx hb hr (fun t ht hW9 => ⟨⟨by rw [← h91], by rw [← h92, ht]; exact hW⟩, tc_F hS ht⟩) hS.2.2 dX3_land_72
    · have hF := tc_it hF c7
      refine lv_aload_n hx hb dX3_land_28 rfl (lv_at hl 0 rfl) ?_
      refine lv_iconst (v := 2) hx hb dX3_land_29 (by decide) ?_
      obtain ⟨r31, x32, h33, hF⟩ := tc_bi2 hF
      refine tc_cw (va_runV (As := [.int 2]) (rest := []) ⟨hx, hb, hml, hown, hts⟩ (mt_X3_no l D cU cO cI A E x1 2 r31 x32 h33) (cwV 1 hts gX3_land_X3_no rfl rfl rfl (by decide +kernel) ⟨Nat.le_of_ble_eq_true rfl, Nat.le_of_ble_eq_true rfl⟩) ⟨fun a U g mk q => ⟨q.1, q.2.1, q.2.2.call⟩, tc_rcv (hW.1) hK rfl, fun U hU hW9 => ⟨rfl, by rw [hU]; exact hW, hKM.go hS hU hW9⟩⟩ rfl rfl hl.1 rfl (lv_room (Nat.le_of_ble_eq_true rfl)) dX3_land_30 ⟨Nat.le_of_ble_eq_true rfl, Nat.le_of_ble_eq_true rfl⟩) hS (fun _ _ h => h) (fun _ h => h) (fun H locs hW z1 o1 hS => ?_)
      obtain ⟨h91, h92⟩ := tc_pr2 (Option.some.inj hF)
      refine W.widen (k := 0) (n := 0) (Nat.le_of_ble_eq_true rfl) (Nat.le_of_ble_eq_true rfl) ?_
      exact W.iret hx hb hr (fun t ht hW9 => ⟨⟨by rw [← h91], by rw [← h92, ht]; exact hW⟩, tc_F hS ht⟩) hS.2.2 dX3_land_33
  · have hF := tc_it hF c4
    refine lv_aload_n hx hb dX3_land_12 rfl (lv_at hl 0 rfl) ?_
    refine lv_iconst (v := 1) hx hb dX3_land_13 (by decide) ?_
    obtain ⟨r34, x35, h36, hF⟩ := tc_bi2 hF
    refine tc_cw (va_runV (As := [.int 1]) (rest := []) ⟨hx, hb, hml, hown, hts⟩ (mt_X3_no l D cU cO cI A E x1 1 r34 x35 h36) (cwV 1 hts gX3_land_X3_no rfl rfl rfl (by decide +kernel) ⟨Nat.le_of_ble_eq_true rfl, Nat.le_of_ble_eq_true rfl⟩) ⟨fun a U g mk q => ⟨q.1, q.2.1, q.2.2.call⟩, tc_rcv (hW.1) hK rfl, fun U hU hW9 => ⟨rfl, by rw [hU]; exact hW, hKM.go hS hU hW9⟩⟩ rfl rfl hl.1 rfl (lv_room (Nat.le_of_ble_eq_true rfl)) dX3_land_14 ⟨Nat.le_of_ble_eq_true rfl, Nat.le_of_ble_eq_true rfl⟩) hS (fun _ _ h => h) (fun _ h => h) (fun H locs hW z1 o1 hS => ?_)
    obtain ⟨h91, h92⟩ := tc_pr2 (Option.some.inj hF)
    refine W.widen (k := 0) (n := 0) (Nat.le_of_ble_eq_true rfl) (Nat.le_of_ble_eq_true rfl) ?_
    exact W.iret hx hb hr (fun t ht hW9 => ⟨⟨by rw [← h91], by rw [← h92, ht]; exact hW⟩, tc_F hS ht⟩) hS.2.2 dX3_land_17

def f_X3_build (x : tc_Y) (a1 : Int32) (a2 : Int32) (a3 : Int32) (a4 : Int32) : Option (Int32 × tc_Y) := tc_let (tc_ym x 0 0 0) (fun x1 => Option.bind (f_X3_isPlace a1) (fun r2 => (if r2 = 0 then tc_b2 (f_X3_no x1 1) (fun r42 x43 => some (r42, x43)) else Option.bind (f_X3_isIn a2 1 15) (fun r5 => (if r5 = 0 then tc_b2 (f_X3_no x1 2) (fun r8 x9 => some (r8, x9)) else Option.bind (f_X3_isIn a3 1 6) (fun r11 => (if r11 = 0 then tc_b2 (f_X3_no x1 2) (fun r14 x15 => some (r14, x15)) else Option.bind (f_X3_isIn a4 0 8) (fun r17 => (if r17 = 0 then tc_b2 (f_X3_no x1 2) (fun r39 x40 => some (r39, x40)) else (if (x1 6 0) = 5 then tc_b2 (f_X3_no x1 3) (fun r36 x37 => some (r36, x37)) else (if ¬ (x1 6 0) < 0 ∧ (x1 6 0).toNatClampNeg < 5 then tc_let (tc_ym x1 7 (x1 6 0).toNatClampNeg a1) (fun x22 => (if ¬ (x22 6 0) < 0 ∧ (x22 6 0).toNatClampNeg < 5 then tc_let (tc_ym x22 8 (x22 6 0).toNatClampNeg a2) (fun x24 => (if ¬ (x24 6 0) < 0 ∧ (x24 6 0).toNatClampNeg < 5 then tc_let (tc_ym x24 9 (x24 6 0).toNatClampNeg a3) (fun x26 => (if ¬ (x26 6 0) < 0 ∧ (x26 6 0).toNatClampNeg < 5 then tc_let (tc_ym x26 10 (x26 6 0).toNatClampNeg a4) (fun x28 => (if ¬ (x28 6 0) < 0 ∧ (x28 6 0).toNatClampNeg < 5 then tc_let (tc_ym x28 12 (x28 6 0).toNatClampNeg a1) (fun x30 => (if ¬ (x30 6 0) < 0 ∧ (x30 6 0).toNatClampNeg < 5 then tc_let (tc_ym x30 13 (x30 6 0).toNatClampNeg 10) (fun x32 => (if ¬ (x32 6 0) < 0 ∧ (x32 6 0).toNatClampNeg < 5 then tc_let (tc_ym x32 14 (x32 6 0).toNatClampNeg (-1)) (fun x34 => tc_let (tc_ym x34 6 0 ((x34 6 0) + 1)) (fun x35 => some (((x35 6 0) - 1), x35))) else none)) else none)) else none)) else none)) else none)) else none)) else none)))))))))))
set_option maxHeartbeats 4000000 in
set_option maxRecDepth 100000 in
theorem mt_X3_build (l : Launch) (D : va_G) (cU cO cI : ClassId) (A : Nat → Prop) (E : Nat → Nat) (x : tc_Y) (a1 : Int32) (a2 : Int32) (a3 : Int32) (a4 : Int32) (r : Int32) (z : tc_Y) (hF : f_X3_build x a1 a2 a3 a4 = some (r, z)) : Met l yX3_build wsX3_build ({ frames := 2, cells := 0, slots := 0, locals := 42 } : Room) (va_Pc [.ref (E 0), .int a1, .int a2, .int a3, .int a4] (fun U => tc_WM D cI A E x U.heap ∧ tc_KM D cU cO cI A U)) (tc_Qw (some (.int r)) (tc_WM D cI A E z) A) 0 0 A := by
  refine Met.ofW (cc := cX3_build) (maxL := 5) (ret := (some .int)) (by decide) rfl ?_
  intro p e s m args below meth c s₁ B hml hv
  obtain ⟨rfl, hW, hKM⟩ := hv
  have hx := B.exec
  have hb := B.bytes
  have hr := B.returns
  have hts := atoms_spec (ws := wsX3_build) B.pre
  have hown : s.vm.findClass RX3 = some m.cls := findClass_of_methodNamed B.named
  have hlocks := B.notSynchronized
  have hK := hKM.1
  have hA := hKM.2
  have hinX3 : ∀ w ∈ wsX30, w ∈ wsX3_build := fun w9 h9 => List.mem_cons_of_mem _ (List.mem_append_right _ h9)
  have hS : va_S A s.heap s.heap [] := va_S.rf
  have hl := lv_entry ([.ref (E 0), .int a1, .int a2, .int a3, .int a4]) (n := 5) (Nat.le_of_ble_eq_true rfl)
  rw [lg_entry_eq]
  generalize (lg_sl ([.ref (E 0), .int a1, .int a2, .int a3, .int a4]) ++ List.replicate (5 - (lg_sl ([.ref (E 0), .int a1, .int a2, .int a3, .int a4])).length) Slot.unset).toArray = ls at hl ⊢
  have hl : lv_has ls 5 [(0, .ref (E 0)), (1, .int a1), (2, .int a2), (3, .int a3), (4, .int a4)] := hl
  refine lv_aload_n hx hb dX3_build_0 rfl (lv_at hl 0 rfl) ?_
  refine lv_iconst (v := 0) hx hb dX3_build_1 (by decide) ?_
  refine tc_put (v := .int 0) (ty := .int) hx hb hts hinX3 tyX3 tyX3_ok nmX3 hown hK (hW.1) hS (hW.own (Or.inl rfl)) (C := RX3) (T := TX3) (N := 15) rfl 0 (by decide) (hts (.fieldLink RX3 43 "TreadCranesModel" "thrown" "I") (List.mem_of_getElem? (i := 1) rfl)) (fun _ h9 => h9) rfl (by decide +kernel) rfl rfl (Nat.le_of_ble_eq_true rfl) dX3_build_2 (fun H locs e1 z1 o1 hS => ?_)
  obtain ⟨x1, ex1⟩ : ∃ z : tc_Y, z = tc_ym x 0 0 0 := ⟨_, rfl⟩
  have hF := tc_lt hF ex1
  have hW : tc_WM D cI A E x1 H := by rw [ex1]; exact hW.sf (Or.inl rfl) (by rw [tc_m0]; exact e1) o1
  refine lv_iload_n hx hb dX3_build_5 rfl (lv_at hl 1 rfl) ?_
  obtain ⟨r2, h3, hF⟩ := tc_bi hF
  refine tc_cr (W.runS (As := [.int a1]) (rest := []) ⟨hx, hb, hml, hown, hts⟩ (mt_X3_isPlace l   a1 r2 h3) (va_cwS 1 hts gX3_build_X3_isPlace rfl rfl rfl (by decide +kernel) ⟨Nat.le_of_ble_eq_true rfl, Nat.le_of_ble_eq_true rfl⟩) ⟨fun a U g mk q => q, fun U hU hW9 => ⟨rfl, trivial⟩⟩ rfl rfl hl.1 rfl (lv_room (Nat.le_of_ble_eq_true rfl)) dX3_build_6 ⟨Nat.le_of_ble_eq_true rfl, Nat.le_of_ble_eq_true rfl⟩) ?_
  refine lv_if_ne (tgt := 18) hx hb dX3_build_9 (by decide) (fun c4 => ?_) (fun c4 => ?_)
  · have hF := tc_if hF c4
    refine lv_iload_n hx hb dX3_build_18 rfl (lv_at hl 2 rfl) ?_
    refine lv_iconst (v := 1) hx hb dX3_build_19 (by decide) ?_
    refine lv_bipush (v := 15) hx hb dX3_build_20 (by decide) ?_
    obtain ⟨r5, h6, hF⟩ := tc_bi hF
    refine tc_cr (W.runS (As := [.int a2, .int 1, .int 15]) (rest := []) ⟨hx, hb, hml, hown, hts⟩ (mt_X3_isIn l   a2 1 15 r5 h6) (va_cwS 3 hts gX3_build_X3_isIn rfl rfl rfl (by decide +kernel) ⟨Nat.le_of_ble_eq_true rfl, Nat.le_of_ble_eq_true rfl⟩) ⟨fun a U g mk q => q, fun U hU hW9 => ⟨rfl, trivial⟩⟩ rfl rfl hl.1 rfl (lv_room (Nat.le_of_ble_eq_true rfl)) dX3_build_22 ⟨Nat.le_of_ble_eq_true rfl, Nat.le_of_ble_eq_true rfl⟩) ?_
    refine lv_if_eq (tgt := 49) hx hb dX3_build_25 (by decide) (fun c7 => ?_) (fun c7 => ?_)
    · have hF := tc_it hF c7
      refine lv_aload_n hx hb dX3_build_49 rfl (lv_at hl 0 rfl) ?_
      refine lv_iconst (v := 2) hx hb dX3_build_50 (by decide) ?_
      obtain ⟨r8, x9, h10, hF⟩ := tc_bi2 hF
      refine tc_cw (va_runV (As := [.int 2]) (rest := []) ⟨hx, hb, hml, hown, hts⟩ (mt_X3_no l D cU cO cI A E x1 2 r8 x9 h10) (cwV 1 hts gX3_build_X3_no rfl rfl rfl (by decide +kernel) ⟨Nat.le_of_ble_eq_true rfl, Nat.le_of_ble_eq_true rfl⟩) ⟨fun a U g mk q => ⟨q.1, q.2.1, q.2.2.call⟩, tc_rcv (hW.1) hK rfl, fun U hU hW9 => ⟨rfl, by rw [hU]; exact hW, hKM.go hS hU hW9⟩⟩ rfl rfl hl.1 rfl (lv_room (Nat.le_of_ble_eq_true rfl)) dX3_build_51 ⟨Nat.le_of_ble_eq_true rfl, Nat.le_of_ble_eq_true rfl⟩) hS (fun _ _ h => h) (fun _ h => h) (fun H locs hW z1 o1 hS => ?_)
      obtain ⟨h91, h92⟩ := tc_pr2 (Option.some.inj hF)
      refine W.widen (k := 0) (n := 0) (Nat.le_of_ble_eq_true rfl) (Nat.le_of_ble_eq_true rfl) ?_
      exact W.iret hx hb hr (fun t ht hW9 => ⟨⟨by rw [← h91], by rw [← h92, ht]; exact hW⟩, tc_F hS ht⟩) hS.2.2 dX3_build_54
    · have hF := tc_if hF c7
      refine lv_iload_n hx hb dX3_build_28 rfl (lv_at hl 3 rfl) ?_
      refine lv_iconst (v := 1) hx hb dX3_build_29 (by decide) ?_
      refine lv_bipush (v := 6) hx hb dX3_build_30 (by decide) ?_
      obtain ⟨r11, h12, hF⟩ := tc_bi hF
      refine tc_cr (W.runS (As := [.int a3, .int 1, .int 6]) (rest := []) ⟨hx, hb, hml, hown, hts⟩ (mt_X3_isIn l   a3 1 6 r11 h12) (va_cwS 3 hts gX3_build_X3_isIn rfl rfl rfl (by decide +kernel) ⟨Nat.le_of_ble_eq_true rfl, Nat.le_of_ble_eq_true rfl⟩) ⟨fun a U g mk q => q, fun U hU hW9 => ⟨rfl, trivial⟩⟩ rfl rfl hl.1 rfl (lv_room (Nat.le_of_ble_eq_true rfl)) dX3_build_32 ⟨Nat.le_of_ble_eq_true rfl, Nat.le_of_ble_eq_true rfl⟩) ?_
      refine lv_if_eq (tgt := 49) hx hb dX3_build_35 (by decide) (fun c13 => ?_) (fun c13 => ?_)
      · have hF := tc_it hF c13
        refine lv_aload_n hx hb dX3_build_49 rfl (lv_at hl 0 rfl) ?_
        refine lv_iconst (v := 2) hx hb dX3_build_50 (by decide) ?_
        obtain ⟨r14, x15, h16, hF⟩ := tc_bi2 hF
        refine tc_cw (va_runV (As := [.int 2]) (rest := []) ⟨hx, hb, hml, hown, hts⟩ (mt_X3_no l D cU cO cI A E x1 2 r14 x15 h16) (cwV 1 hts gX3_build_X3_no rfl rfl rfl (by decide +kernel) ⟨Nat.le_of_ble_eq_true rfl, Nat.le_of_ble_eq_true rfl⟩) ⟨fun a U g mk q => ⟨q.1, q.2.1, q.2.2.call⟩, tc_rcv (hW.1) hK rfl, fun U hU hW9 => ⟨rfl, by rw [hU]; exact hW, hKM.go hS hU hW9⟩⟩ rfl rfl hl.1 rfl (lv_room (Nat.le_of_ble_eq_true rfl)) dX3_build_51 ⟨Nat.le_of_ble_eq_true rfl, Nat.le_of_ble_eq_true rfl⟩) hS (fun _ _ h => h) (fun _ h => h) (fun H locs hW z1 o1 hS => ?_)
        obtain ⟨h91, h92⟩ := tc_pr2 (Option.some.inj hF)
        refine W.widen (k := 0) (n := 0) (Nat.le_of_ble_eq_true rfl) (Nat.le_of_ble_eq_true rfl) ?_
        exact W.iret hx hb hr (fun t ht hW9 => ⟨⟨by rw [← h91], by rw [← h92, ht]; exact hW⟩, tc_F hS ht⟩) hS.2.2 dX3_build_54
      · have hF := tc_if hF c13
        refine lv_iload hx hb dX3_build_38 (lv_at hl 4 rfl) ?_
        refine lv_iconst (v := 0) hx hb dX3_build_40 (by decide) ?_
        refine lv_bipush (v := 8) hx hb dX3_build_41 (by decide) ?_
        obtain ⟨r17, h18, hF⟩ := tc_bi hF
        refine tc_cr (W.runS (As := [.int a4, .int 0, .int 8]) (rest := []) ⟨hx, hb, hml, hown, hts⟩ (mt_X3_isIn l   a4 0 8 r17 h18) (va_cwS 3 hts gX3_build_X3_isIn rfl rfl rfl (by decide +kernel) ⟨Nat.le_of_ble_eq_true rfl, Nat.le_of_ble_eq_true rfl⟩) ⟨fun a U g mk q => q, fun U hU hW9 => ⟨rfl, trivial⟩⟩ rfl rfl hl.1 rfl (lv_room (Nat.le_of_ble_eq_true rfl)) dX3_build_43 ⟨Nat.le_of_ble_eq_true rfl, Nat.le_of_ble_eq_true rfl⟩) ?_
        refine lv_if_ne (tgt := 55) hx hb dX3_build_46 (by decide) (fun c19 => ?_) (fun c19 => ?_)
        · have hF := tc_if hF c19
          refine lv_aload_n hx hb dX3_build_55 rfl (lv_at hl 0 rfl) ?_
          refine tc_get (v := .int (x1 6 0)) hx hb hts hinX3 hown hK (hW.1) (C := RX3) (T := TX3) (N := 15) rfl 6 (by decide) (hts (.fieldLink RX3 51 "TreadCranesModel" "cranes" "I") (List.mem_of_getElem? (i := 2) rfl)) (fun _ h9 => h9) rfl dX3_build_56 ?_
          refine lv_iconst (v := 5) hx hb dX3_build_59 (by decide) ?_
          refine lv_icmp_ne (tgt := 69) hx hb dX3_build_60 (by decide) (fun c20 => ?_) (fun c20 => ?_)
          · have hF := tc_if hF c20
            refine lv_aload_n hx hb dX3_build_69 rfl (lv_at hl 0 rfl) ?_
            refine tc_get (v := .ref (E 7)) hx hb hts hinX3 hown hK (hW.1) (C := RX3) (T := TX3) (N := 15) rfl 7 (by decide) (hts (.fieldLink RX3 19 "TreadCranesModel" "post" "[I") (List.mem_of_getElem? (i := 3) rfl)) (fun _ h9 => h9) rfl dX3_build_70 ?_
            refine lv_aload_n hx hb dX3_build_73 rfl (lv_at hl 0 rfl) ?_
            refine tc_get (v := .int (x1 6 0)) hx hb hts hinX3 hown hK (hW.1) (C := RX3) (T := TX3) (N := 15) rfl 6 (by decide) (hts (.fieldLink RX3 51 "TreadCranesModel" "cranes" "I") (List.mem_of_getElem? (i := 2) rfl)) (fun _ h9 => h9) rfl dX3_build_74 ?_
            refine lv_iload_n hx hb dX3_build_77 rfl (lv_at hl 1 rfl) ?_
            obtain ⟨g21, hF⟩ := tc_ob hF
            refine tc_iast (f := x1 7) hx hb hK (hW.hi ⟨by decide, by decide⟩) hS (hW.own (Or.inr (Or.inr ⟨by decide, by decide⟩))) 2 rfl g21 dX3_build_78 (fun H locs e1 z1 o1 hS => ?_)
            obtain ⟨x22, ex22⟩ : ∃ z : tc_Y, z = tc_ym x1 7 (x1 6 0).toNatClampNeg a1 := ⟨_, rfl⟩
            have hF := tc_lt hF ex22
            have hW : tc_WM D cI A E x22 H := by rw [ex22]; exact hW.sh ⟨by decide, by decide⟩ e1 o1
            refine lv_aload_n hx hb dX3_build_79 rfl (lv_at hl 0 rfl) ?_
            refine tc_get (v := .ref (E 8)) hx hb hts hinX3 hown hK (hW.1) (C := RX3) (T := TX3) (N := 15) rfl 8 (by decide) (hts (.fieldLink RX3 22 "TreadCranesModel" "reach" "[I") (List.mem_of_getElem? (i := 4) rfl)) (fun _ h9 => h9) rfl dX3_build_80 ?_
            refine lv_aload_n hx hb dX3_build_83 rfl (lv_at hl 0 rfl) ?_
            refine tc_get (v := .int (x22 6 0)) hx hb hts hinX3 hown hK (hW.1) (C := RX3) (T := TX3) (N := 15) rfl 6 (by decide) (hts (.fieldLink RX3 51 "TreadCranesModel" "cranes" "I") (List.mem_of_getElem? (i := 2) rfl)) (fun _ h9 => h9) rfl dX3_build_84 ?_
            refine lv_iload_n hx hb dX3_build_87 rfl (lv_at hl 2 rfl) ?_
            obtain ⟨g23, hF⟩ := tc_ob hF
            refine tc_iast (f := x22 8) hx hb hK (hW.hi ⟨by decide, by decide⟩) hS (hW.own (Or.inr (Or.inr ⟨by decide, by decide⟩))) 2 rfl g23 dX3_build_88 (fun H locs e1 z1 o1 hS => ?_)
            obtain ⟨x24, ex24⟩ : ∃ z : tc_Y, z = tc_ym x22 8 (x22 6 0).toNatClampNeg a2 := ⟨_, rfl⟩
            have hF := tc_lt hF ex24
            have hW : tc_WM D cI A E x24 H := by rw [ex24]; exact hW.sh ⟨by decide, by decide⟩ e1 o1
            refine lv_aload_n hx hb dX3_build_89 rfl (lv_at hl 0 rfl) ?_
            refine tc_get (v := .ref (E 9)) hx hb hts hinX3 hown hK (hW.1) (C := RX3) (T := TX3) (N := 15) rfl 9 (by decide) (hts (.fieldLink RX3 25 "TreadCranesModel" "drum" "[I") (List.mem_of_getElem? (i := 5) rfl)) (fun _ h9 => h9) rfl dX3_build_90 ?_
            refine lv_aload_n hx hb dX3_build_93 rfl (lv_at hl 0 rfl) ?_
            refine tc_get (v := .int (x24 6 0)) hx hb hts hinX3 hown hK (hW.1) (C := RX3) (T := TX3) (N := 15) rfl 6 (by decide) (hts (.fieldLink RX3 51 "TreadCranesModel" "cranes" "I") (List.mem_of_getElem? (i := 2) rfl)) (fun _ h9 => h9) rfl dX3_build_94 ?_
            refine lv_iload_n hx hb dX3_build_97 rfl (lv_at hl 3 rfl) ?_
            obtain ⟨g25, hF⟩ := tc_ob hF
            refine tc_iast (f := x24 9) hx hb hK (hW.hi ⟨by decide, by decide⟩) hS (hW.own (Or.inr (Or.inr ⟨by decide, by decide⟩))) 2 rfl g25 dX3_build_98 (fun H locs e1 z1 o1 hS => ?_)
            obtain ⟨x26, ex26⟩ : ∃ z : tc_Y, z = tc_ym x24 9 (x24 6 0).toNatClampNeg a3 := ⟨_, rfl⟩
            have hF := tc_lt hF ex26
            have hW : tc_WM D cI A E x26 H := by rw [ex26]; exact hW.sh ⟨by decide, by decide⟩ e1 o1
            refine lv_aload_n hx hb dX3_build_99 rfl (lv_at hl 0 rfl) ?_
            refine tc_get (v := .ref (E 10)) hx hb hts hinX3 hown hK (hW.1) (C := RX3) (T := TX3) (N := 15) rfl 10 (by decide) (hts (.fieldLink RX3 28 "TreadCranesModel" "walkers" "[I") (List.mem_of_getElem? (i := 6) rfl)) (fun _ h9 => h9) rfl dX3_build_100 ?_
            refine lv_aload_n hx hb dX3_build_103 rfl (lv_at hl 0 rfl) ?_
            refine tc_get (v := .int (x26 6 0)) hx hb hts hinX3 hown hK (hW.1) (C := RX3) (T := TX3) (N := 15) rfl 6 (by decide) (hts (.fieldLink RX3 51 "TreadCranesModel" "cranes" "I") (List.mem_of_getElem? (i := 2) rfl)) (fun _ h9 => h9) rfl dX3_build_104 ?_
            refine lv_iload hx hb dX3_build_107 (lv_at hl 4 rfl) ?_
            obtain ⟨g27, hF⟩ := tc_ob hF
            refine tc_iast (f := x26 10) hx hb hK (hW.hi ⟨by decide, by decide⟩) hS (hW.own (Or.inr (Or.inr ⟨by decide, by decide⟩))) 2 rfl g27 dX3_build_109 (fun H locs e1 z1 o1 hS => ?_)
            obtain ⟨x28, ex28⟩ : ∃ z : tc_Y, z = tc_ym x26 10 (x26 6 0).toNatClampNeg a4 := ⟨_, rfl⟩
            have hF := tc_lt hF ex28
            have hW : tc_WM D cI A E x28 H := by rw [ex28]; exact hW.sh ⟨by decide, by decide⟩ e1 o1
            refine lv_aload_n hx hb dX3_build_110 rfl (lv_at hl 0 rfl) ?_
            refine tc_get (v := .ref (E 12)) hx hb hts hinX3 hown hK (hW.1) (C := RX3) (T := TX3) (N := 15) rfl 12 (by decide) (hts (.fieldLink RX3 34 "TreadCranesModel" "hook" "[I") (List.mem_of_getElem? (i := 7) rfl)) (fun _ h9 => h9) rfl dX3_build_111 ?_
            refine lv_aload_n hx hb dX3_build_114 rfl (lv_at hl 0 rfl) ?_
            refine tc_get (v := .int (x28 6 0)) hx hb hts hinX3 hown hK (hW.1) (C := RX3) (T := TX3) (N := 15) rfl 6 (by decide) (hts (.fieldLink RX3 51 "TreadCranesModel" "cranes" "I") (List.mem_of_getElem? (i := 2) rfl)) (fun _ h9 => h9) rfl dX3_build_115 ?_
            refine lv_iload_n hx hb dX3_build_118 rfl (lv_at hl 1 rfl) ?_
            obtain ⟨g29, hF⟩ := tc_ob hF
            refine tc_iast (f := x28 12) hx hb hK (hW.hi ⟨by decide, by decide⟩) hS (hW.own (Or.inr (Or.inr ⟨by decide, by decide⟩))) 2 rfl g29 dX3_build_119 (fun H locs e1 z1 o1 hS => ?_)
            obtain ⟨x30, ex30⟩ : ∃ z : tc_Y, z = tc_ym x28 12 (x28 6 0).toNatClampNeg a1 := ⟨_, rfl⟩
            have hF := tc_lt hF ex30
            have hW : tc_WM D cI A E x30 H := by rw [ex30]; exact hW.sh ⟨by decide, by decide⟩ e1 o1
            refine lv_aload_n hx hb dX3_build_120 rfl (lv_at hl 0 rfl) ?_
            refine tc_get (v := .ref (E 13)) hx hb hts hinX3 hown hK (hW.1) (C := RX3) (T := TX3) (N := 15) rfl 13 (by decide) (hts (.fieldLink RX3 37 "TreadCranesModel" "height" "[I") (List.mem_of_getElem? (i := 8) rfl)) (fun _ h9 => h9) rfl dX3_build_121 ?_
            refine lv_aload_n hx hb dX3_build_124 rfl (lv_at hl 0 rfl) ?_
            refine tc_get (v := .int (x30 6 0)) hx hb hts hinX3 hown hK (hW.1) (C := RX3) (T := TX3) (N := 15) rfl 6 (by decide) (hts (.fieldLink RX3 51 "TreadCranesModel" "cranes" "I") (List.mem_of_getElem? (i := 2) rfl)) (fun _ h9 => h9) rfl dX3_build_125 ?_
            refine lv_bipush (v := 10) hx hb dX3_build_128 (by decide) ?_
            obtain ⟨g31, hF⟩ := tc_ob hF
            refine tc_iast (f := x30 13) hx hb hK (hW.hi ⟨by decide, by decide⟩) hS (hW.own (Or.inr (Or.inr ⟨by decide, by decide⟩))) 2 rfl g31 dX3_build_130 (fun H locs e1 z1 o1 hS => ?_)
            obtain ⟨x32, ex32⟩ : ∃ z : tc_Y, z = tc_ym x30 13 (x30 6 0).toNatClampNeg 10 := ⟨_, rfl⟩
            have hF := tc_lt hF ex32
            have hW : tc_WM D cI A E x32 H := by rw [ex32]; exact hW.sh ⟨by decide, by decide⟩ e1 o1
            refine lv_aload_n hx hb dX3_build_131 rfl (lv_at hl 0 rfl) ?_
            refine tc_get (v := .ref (E 14)) hx hb hts hinX3 hown hK (hW.1) (C := RX3) (T := TX3) (N := 15) rfl 14 (by decide) (hts (.fieldLink RX3 40 "TreadCranesModel" "load" "[I") (List.mem_of_getElem? (i := 9) rfl)) (fun _ h9 => h9) rfl dX3_build_132 ?_
            refine lv_aload_n hx hb dX3_build_135 rfl (lv_at hl 0 rfl) ?_
            refine tc_get (v := .int (x32 6 0)) hx hb hts hinX3 hown hK (hW.1) (C := RX3) (T := TX3) (N := 15) rfl 6 (by decide) (hts (.fieldLink RX3 51 "TreadCranesModel" "cranes" "I") (List.mem_of_getElem? (i := 2) rfl)) (fun _ h9 => h9) rfl dX3_build_136 ?_
            refine lv_iconst (v := (-1)) hx hb dX3_build_139 (by decide) ?_
            obtain ⟨g33, hF⟩ := tc_ob hF
            refine tc_iast (f := x32 14) hx hb hK (hW.hi ⟨by decide, by decide⟩) hS (hW.own (Or.inr (Or.inr ⟨by decide, by decide⟩))) 2 rfl g33 dX3_build_140 (fun H locs e1 z1 o1 hS => ?_)
            obtain ⟨x34, ex34⟩ : ∃ z : tc_Y, z = tc_ym x32 14 (x32 6 0).toNatClampNeg (-1) := ⟨_, rfl⟩
            have hF := tc_lt hF ex34
            have hW : tc_WM D cI A E x34 H := by rw [ex34]; exact hW.sh ⟨by decide, by decide⟩ e1 o1
            refine lv_aload_n hx hb dX3_build_141 rfl (lv_at hl 0 rfl) ?_
            refine lv_dup hx hb dX3_build_142 rfl ?_
            refine tc_get (v := .int (x34 6 0)) hx hb hts hinX3 hown hK (hW.1) (C := RX3) (T := TX3) (N := 15) rfl 6 (by decide) (hts (.fieldLink RX3 51 "TreadCranesModel" "cranes" "I") (List.mem_of_getElem? (i := 2) rfl)) (fun _ h9 => h9) rfl dX3_build_143 ?_
            refine lv_iconst (v := 1) hx hb dX3_build_146 (by decide) ?_
            refine lv_iadd hx hb dX3_build_147 ?_
            refine tc_put (v := .int ((x34 6 0) + 1)) (ty := .int) hx hb hts hinX3 tyX3 tyX3_ok nmX3 hown hK (hW.1) hS (hW.own (Or.inl rfl)) (C := RX3) (T := TX3) (N := 15) rfl 6 (by decide) (hts (.fieldLink RX3 51 "TreadCranesModel" "cranes" "I") (List.mem_of_getElem? (i := 2) rfl)) (fun _ h9 => h9) rfl (by decide +kernel) rfl rfl (Nat.le_of_ble_eq_true rfl) dX3_build_148 (fun H locs e1 z1 o1 hS => ?_)
            obtain ⟨x35, ex35⟩ : ∃ z : tc_Y, z = tc_ym x34 6 0 ((x34 6 0) + 1) := ⟨_, rfl⟩
            have hF := tc_lt hF ex35
            have hW : tc_WM D cI A E x35 H := by rw [ex35]; exact hW.sf (Or.inr (Or.inr (Or.inr rfl))) (by rw [tc_m6]; exact e1) o1
            refine lv_aload_n hx hb dX3_build_151 rfl (lv_at hl 0 rfl) ?_
            refine tc_get (v := .int (x35 6 0)) hx hb hts hinX3 hown hK (hW.1) (C := RX3) (T := TX3) (N := 15) rfl 6 (by decide) (hts (.fieldLink RX3 51 "TreadCranesModel" "cranes" "I") (List.mem_of_getElem? (i := 2) rfl)) (fun _ h9 => h9) rfl dX3_build_152 ?_
            refine lv_iconst (v := 1) hx hb dX3_build_155 (by decide) ?_
            refine lv_isub hx hb dX3_build_156 ?_
            obtain ⟨h91, h92⟩ := tc_pr2 (Option.some.inj hF)
            refine W.widen (k := 0) (n := 0) (Nat.le_of_ble_eq_true rfl) (Nat.le_of_ble_eq_true rfl) ?_
            exact W.iret hx hb hr (fun t ht hW9 => ⟨⟨by rw [← h91], by rw [← h92, ht]; exact hW⟩, tc_F hS ht⟩) hS.2.2 dX3_build_157
          · have hF := tc_it hF c20
            refine lv_aload_n hx hb dX3_build_63 rfl (lv_at hl 0 rfl) ?_
            refine lv_iconst (v := 3) hx hb dX3_build_64 (by decide) ?_
            obtain ⟨r36, x37, h38, hF⟩ := tc_bi2 hF
            refine tc_cw (va_runV (As := [.int 3]) (rest := []) ⟨hx, hb, hml, hown, hts⟩ (mt_X3_no l D cU cO cI A E x1 3 r36 x37 h38) (cwV 1 hts gX3_build_X3_no rfl rfl rfl (by decide +kernel) ⟨Nat.le_of_ble_eq_true rfl, Nat.le_of_ble_eq_true rfl⟩) ⟨fun a U g mk q => ⟨q.1, q.2.1, q.2.2.call⟩, tc_rcv (hW.1) hK rfl, fun U hU hW9 => ⟨rfl, by rw [hU]; exact hW, hKM.go hS hU hW9⟩⟩ rfl rfl hl.1 rfl (lv_room (Nat.le_of_ble_eq_true rfl)) dX3_build_65 ⟨Nat.le_of_ble_eq_true rfl, Nat.le_of_ble_eq_true rfl⟩) hS (fun _ _ h => h) (fun _ h => h) (fun H locs hW z1 o1 hS => ?_)
            obtain ⟨h91, h92⟩ := tc_pr2 (Option.some.inj hF)
            refine W.widen (k := 0) (n := 0) (Nat.le_of_ble_eq_true rfl) (Nat.le_of_ble_eq_true rfl) ?_
            exact W.iret hx hb hr (fun t ht hW9 => ⟨⟨by rw [← h91], by rw [← h92, ht]; exact hW⟩, tc_F hS ht⟩) hS.2.2 dX3_build_68
        · have hF := tc_it hF c19
          refine lv_aload_n hx hb dX3_build_49 rfl (lv_at hl 0 rfl) ?_
          refine lv_iconst (v := 2) hx hb dX3_build_50 (by decide) ?_
          obtain ⟨r39, x40, h41, hF⟩ := tc_bi2 hF
          refine tc_cw (va_runV (As := [.int 2]) (rest := []) ⟨hx, hb, hml, hown, hts⟩ (mt_X3_no l D cU cO cI A E x1 2 r39 x40 h41) (cwV 1 hts gX3_build_X3_no rfl rfl rfl (by decide +kernel) ⟨Nat.le_of_ble_eq_true rfl, Nat.le_of_ble_eq_true rfl⟩) ⟨fun a U g mk q => ⟨q.1, q.2.1, q.2.2.call⟩, tc_rcv (hW.1) hK rfl, fun U hU hW9 => ⟨rfl, by rw [hU]; exact hW, hKM.go hS hU hW9⟩⟩ rfl rfl hl.1 rfl (lv_room (Nat.le_of_ble_eq_true rfl)) dX3_build_51 ⟨Nat.le_of_ble_eq_true rfl, Nat.le_of_ble_eq_true rfl⟩) hS (fun _ _ h => h) (fun _ h => h) (fun H locs hW z1 o1 hS => ?_)
          obtain ⟨h91, h92⟩ := tc_pr2 (Option.some.inj hF)
          refine W.widen (k := 0) (n := 0) (Nat.le_of_ble_eq_true rfl) (Nat.le_of_ble_eq_true rfl) ?_
          exact W.iret hx hb hr (fun t ht hW9 => ⟨⟨by rw [← h91], by rw [← h92, ht]; exact hW⟩, tc_F hS ht⟩) hS.2.2 dX3_build_54
  · have hF := tc_it hF c4
    refine lv_aload_n hx hb dX3_build_12 rfl (lv_at hl 0 rfl) ?_
    refine lv_iconst (v := 1) hx hb dX3_build_13 (by decide) ?_
    obtain ⟨r42, x43, h44, hF⟩ := tc_bi2 hF
    refine tc_cw (va_runV (As := [.int 1]) (rest := []) ⟨hx, hb, hml, hown, hts⟩ (mt_X3_no l D cU cO cI A E x1 1 r42 x43 h44) (cwV 1 hts gX3_build_X3_no rfl rfl rfl (by decide +kernel) ⟨Nat.le_of_ble_eq_true rfl, Nat.le_of_ble_eq_true rfl⟩) ⟨fun a U g mk q => ⟨q.1, q.2.1, q.2.2.call⟩, tc_rcv (hW.1) hK rfl, fun U hU hW9 => ⟨rfl, by rw [hU]; exact hW, hKM.go hS hU hW9⟩⟩ rfl rfl hl.1 rfl (lv_room (Nat.le_of_ble_eq_true rfl)) dX3_build_14 ⟨Nat.le_of_ble_eq_true rfl, Nat.le_of_ble_eq_true rfl⟩) hS (fun _ _ h => h) (fun _ h => h) (fun H locs hW z1 o1 hS => ?_)
    obtain ⟨h91, h92⟩ := tc_pr2 (Option.some.inj hF)
    refine W.widen (k := 0) (n := 0) (Nat.le_of_ble_eq_true rfl) (Nat.le_of_ble_eq_true rfl) ?_
    exact W.iret hx hb hr (fun t ht hW9 => ⟨⟨by rw [← h91], by rw [← h92, ht]; exact hW⟩, tc_F hS ht⟩) hS.2.2 dX3_build_17

def f_X3_man (x : tc_Y) (a1 : Int32) (a2 : Int32) : Option (Int32 × tc_Y) := tc_let (tc_ym x 0 0 0) (fun x1 => Option.bind (f_X3_isCrane x1 a1) (fun r2 => (if r2 = 0 then tc_b2 (f_X3_no x1 1) (fun r14 x15 => some (r14, x15)) else Option.bind (f_X3_isIn a2 0 8) (fun r5 => (if r5 = 0 then tc_b2 (f_X3_no x1 2) (fun r11 x12 => some (r11, x12)) else (if ¬ a1 < 0 ∧ a1.toNatClampNeg < 5 then tc_let (x1 10 a1.toNatClampNeg) (fun v9 => tc_let (tc_ym x1 10 a1.toNatClampNeg a2) (fun x10 => some (v9, x10))) else none))))))
set_option maxHeartbeats 4000000 in
set_option maxRecDepth 100000 in
theorem mt_X3_man (l : Launch) (D : va_G) (cU cO cI : ClassId) (A : Nat → Prop) (E : Nat → Nat) (x : tc_Y) (a1 : Int32) (a2 : Int32) (r : Int32) (z : tc_Y) (hF : f_X3_man x a1 a2 = some (r, z)) : Met l yX3_man wsX3_man ({ frames := 2, cells := 0, slots := 0, locals := 43 } : Room) (va_Pc [.ref (E 0), .int a1, .int a2] (fun U => tc_WM D cI A E x U.heap ∧ tc_KM D cU cO cI A U)) (tc_Qw (some (.int r)) (tc_WM D cI A E z) A) 0 0 A := by
  refine Met.ofW (cc := cX3_man) (maxL := 4) (ret := (some .int)) (by decide) rfl ?_
  intro p e s m args below meth c s₁ B hml hv
  obtain ⟨rfl, hW, hKM⟩ := hv
  have hx := B.exec
  have hb := B.bytes
  have hr := B.returns
  have hts := atoms_spec (ws := wsX3_man) B.pre
  have hown : s.vm.findClass RX3 = some m.cls := findClass_of_methodNamed B.named
  have hlocks := B.notSynchronized
  have hK := hKM.1
  have hA := hKM.2
  have hinX3 : ∀ w ∈ wsX30, w ∈ wsX3_man := fun w9 h9 => List.mem_cons_of_mem _ (List.mem_append_right _ h9)
  have hS : va_S A s.heap s.heap [] := va_S.rf
  have hl := lv_entry ([.ref (E 0), .int a1, .int a2]) (n := 4) (Nat.le_of_ble_eq_true rfl)
  rw [lg_entry_eq]
  generalize (lg_sl ([.ref (E 0), .int a1, .int a2]) ++ List.replicate (4 - (lg_sl ([.ref (E 0), .int a1, .int a2])).length) Slot.unset).toArray = ls at hl ⊢
  have hl : lv_has ls 4 [(0, .ref (E 0)), (1, .int a1), (2, .int a2)] := hl
  refine lv_aload_n hx hb dX3_man_0 rfl (lv_at hl 0 rfl) ?_
  refine lv_iconst (v := 0) hx hb dX3_man_1 (by decide) ?_
  refine tc_put (v := .int 0) (ty := .int) hx hb hts hinX3 tyX3 tyX3_ok nmX3 hown hK (hW.1) hS (hW.own (Or.inl rfl)) (C := RX3) (T := TX3) (N := 15) rfl 0 (by decide) (hts (.fieldLink RX3 43 "TreadCranesModel" "thrown" "I") (List.mem_of_getElem? (i := 1) rfl)) (fun _ h9 => h9) rfl (by decide +kernel) rfl rfl (Nat.le_of_ble_eq_true rfl) dX3_man_2 (fun H locs e1 z1 o1 hS => ?_)
  obtain ⟨x1, ex1⟩ : ∃ z : tc_Y, z = tc_ym x 0 0 0 := ⟨_, rfl⟩
  have hF := tc_lt hF ex1
  have hW : tc_WM D cI A E x1 H := by rw [ex1]; exact hW.sf (Or.inl rfl) (by rw [tc_m0]; exact e1) o1
  refine lv_aload_n hx hb dX3_man_5 rfl (lv_at hl 0 rfl) ?_
  refine lv_iload_n hx hb dX3_man_6 rfl (lv_at hl 1 rfl) ?_
  obtain ⟨r2, h3, hF⟩ := tc_bi hF
  refine tc_cr (W.runV (As := [.int a1]) (rest := []) ⟨hx, hb, hml, hown, hts⟩ (mt_X3_isCrane l D cU cO cI A E x1 a1 r2 h3) (cwV 1 hts gX3_man_X3_isCrane rfl rfl rfl (by decide +kernel) ⟨Nat.le_of_ble_eq_true rfl, Nat.le_of_ble_eq_true rfl⟩) ⟨fun a U g mk q => ⟨q.1, q.2.1, va_K.moved (Vm.Alike.refl U.vm) q.2.2⟩, tc_rcv (hW.1) hK rfl, fun U hU hW9 => ⟨rfl, by rw [hU]; exact hW, va_K.moved hW9.alike hK⟩⟩ rfl rfl hl.1 rfl (lv_room (Nat.le_of_ble_eq_true rfl)) dX3_man_7 ⟨Nat.le_of_ble_eq_true rfl, Nat.le_of_ble_eq_true rfl⟩) ?_
  refine lv_if_ne (tgt := 19) hx hb dX3_man_10 (by decide) (fun c4 => ?_) (fun c4 => ?_)
  · have hF := tc_if hF c4
    refine lv_iload_n hx hb dX3_man_19 rfl (lv_at hl 2 rfl) ?_
    refine lv_iconst (v := 0) hx hb dX3_man_20 (by decide) ?_
    refine lv_bipush (v := 8) hx hb dX3_man_21 (by decide) ?_
    obtain ⟨r5, h6, hF⟩ := tc_bi hF
    refine tc_cr (W.runS (As := [.int a2, .int 0, .int 8]) (rest := []) ⟨hx, hb, hml, hown, hts⟩ (mt_X3_isIn l   a2 0 8 r5 h6) (va_cwS 3 hts gX3_man_X3_isIn rfl rfl rfl (by decide +kernel) ⟨Nat.le_of_ble_eq_true rfl, Nat.le_of_ble_eq_true rfl⟩) ⟨fun a U g mk q => q, fun U hU hW9 => ⟨rfl, trivial⟩⟩ rfl rfl hl.1 rfl (lv_room (Nat.le_of_ble_eq_true rfl)) dX3_man_23 ⟨Nat.le_of_ble_eq_true rfl, Nat.le_of_ble_eq_true rfl⟩) ?_
    refine lv_if_ne (tgt := 35) hx hb dX3_man_26 (by decide) (fun c7 => ?_) (fun c7 => ?_)
    · have hF := tc_if hF c7
      refine lv_aload_n hx hb dX3_man_35 rfl (lv_at hl 0 rfl) ?_
      refine tc_get (v := .ref (E 10)) hx hb hts hinX3 hown hK (hW.1) (C := RX3) (T := TX3) (N := 15) rfl 10 (by decide) (hts (.fieldLink RX3 28 "TreadCranesModel" "walkers" "[I") (List.mem_of_getElem? (i := 2) rfl)) (fun _ h9 => h9) rfl dX3_man_36 ?_
      refine lv_iload_n hx hb dX3_man_39 rfl (lv_at hl 1 rfl) ?_
      obtain ⟨g8, hF⟩ := tc_ob hF
      refine tc_iald (f := x1 10) hx hb hK (hW.hi ⟨by decide, by decide⟩) 2 rfl g8 dX3_man_40 ?_
      refine lv_topi (fun v9 ev9 => ?_)
      have hF := tc_lt hF ev9
      refine lv_istore_n (lv' := [(3, .int v9), (0, .ref (E 0)), (1, .int a1), (2, .int a2)]) hx hb dX3_man_41 rfl hl (by decide) rfl (fun ls hl => ?_)
      refine lv_aload_n hx hb dX3_man_42 rfl (lv_at hl 1 rfl) ?_
      refine tc_get (v := .ref (E 10)) hx hb hts hinX3 hown hK (hW.1) (C := RX3) (T := TX3) (N := 15) rfl 10 (by decide) (hts (.fieldLink RX3 28 "TreadCranesModel" "walkers" "[I") (List.mem_of_getElem? (i := 2) rfl)) (fun _ h9 => h9) rfl dX3_man_43 ?_
      refine lv_iload_n hx hb dX3_man_46 rfl (lv_at hl 2 rfl) ?_
      refine lv_iload_n hx hb dX3_man_47 rfl (lv_at hl 3 rfl) ?_
      refine tc_iast (f := x1 10) hx hb hK (hW.hi ⟨by decide, by decide⟩) hS (hW.own (Or.inr (Or.inr ⟨by decide, by decide⟩))) 2 rfl g8 dX3_man_48 (fun H locs e1 z1 o1 hS => ?_)
      obtain ⟨x10, ex10⟩ : ∃ z : tc_Y, z = tc_ym x1 10 a1.toNatClampNeg a2 := ⟨_, rfl⟩
      have hF := tc_lt hF ex10
      have hW : tc_WM D cI A E x10 H := by rw [ex10]; exact hW.sh ⟨by decide, by decide⟩ e1 o1
      refine lv_iload_n hx hb dX3_man_49 rfl (lv_at hl 0 rfl) ?_
      obtain ⟨h91, h92⟩ := tc_pr2 (Option.some.inj hF)
      refine W.widen (k := 0) (n := 0) (Nat.le_of_ble_eq_true rfl) (Nat.le_of_ble_eq_true rfl) ?_
      exact W.iret hx hb hr (fun t ht hW9 => ⟨⟨by rw [← h91], by rw [← h92, ht]; exact hW⟩, tc_F hS ht⟩) hS.2.2 dX3_man_50
    · have hF := tc_it hF c7
      refine lv_aload_n hx hb dX3_man_29 rfl (lv_at hl 0 rfl) ?_
      refine lv_iconst (v := 2) hx hb dX3_man_30 (by decide) ?_
      obtain ⟨r11, x12, h13, hF⟩ := tc_bi2 hF
      refine tc_cw (va_runV (As := [.int 2]) (rest := []) ⟨hx, hb, hml, hown, hts⟩ (mt_X3_no l D cU cO cI A E x1 2 r11 x12 h13) (cwV 1 hts gX3_man_X3_no rfl rfl rfl (by decide +kernel) ⟨Nat.le_of_ble_eq_true rfl, Nat.le_of_ble_eq_true rfl⟩) ⟨fun a U g mk q => ⟨q.1, q.2.1, q.2.2.call⟩, tc_rcv (hW.1) hK rfl, fun U hU hW9 => ⟨rfl, by rw [hU]; exact hW, hKM.go hS hU hW9⟩⟩ rfl rfl hl.1 rfl (lv_room (Nat.le_of_ble_eq_true rfl)) dX3_man_31 ⟨Nat.le_of_ble_eq_true rfl, Nat.le_of_ble_eq_true rfl⟩) hS (fun _ _ h => h) (fun _ h => h) (fun H locs hW z1 o1 hS => ?_)
      obtain ⟨h91, h92⟩ := tc_pr2 (Option.some.inj hF)
      refine W.widen (k := 0) (n := 0) (Nat.le_of_ble_eq_true rfl) (Nat.le_of_ble_eq_true rfl) ?_
      exact W.iret hx hb hr (fun t ht hW9 => ⟨⟨by rw [← h91], by rw [← h92, ht]; exact hW⟩, tc_F hS ht⟩) hS.2.2 dX3_man_34
  · have hF := tc_it hF c4
    refine lv_aload_n hx hb dX3_man_13 rfl (lv_at hl 0 rfl) ?_
    refine lv_iconst (v := 1) hx hb dX3_man_14 (by decide) ?_
    obtain ⟨r14, x15, h16, hF⟩ := tc_bi2 hF
    refine tc_cw (va_runV (As := [.int 1]) (rest := []) ⟨hx, hb, hml, hown, hts⟩ (mt_X3_no l D cU cO cI A E x1 1 r14 x15 h16) (cwV 1 hts gX3_man_X3_no rfl rfl rfl (by decide +kernel) ⟨Nat.le_of_ble_eq_true rfl, Nat.le_of_ble_eq_true rfl⟩) ⟨fun a U g mk q => ⟨q.1, q.2.1, q.2.2.call⟩, tc_rcv (hW.1) hK rfl, fun U hU hW9 => ⟨rfl, by rw [hU]; exact hW, hKM.go hS hU hW9⟩⟩ rfl rfl hl.1 rfl (lv_room (Nat.le_of_ble_eq_true rfl)) dX3_man_15 ⟨Nat.le_of_ble_eq_true rfl, Nat.le_of_ble_eq_true rfl⟩) hS (fun _ _ h => h) (fun _ h => h) (fun H locs hW z1 o1 hS => ?_)
    obtain ⟨h91, h92⟩ := tc_pr2 (Option.some.inj hF)
    refine W.widen (k := 0) (n := 0) (Nat.le_of_ble_eq_true rfl) (Nat.le_of_ble_eq_true rfl) ?_
    exact W.iret hx hb hr (fun t ht hW9 => ⟨⟨by rw [← h91], by rw [← h92, ht]; exact hW⟩, tc_F hS ht⟩) hS.2.2 dX3_man_18

def f_X3_mend (x : tc_Y) (a1 : Int32) : Option (Int32 × tc_Y) := tc_let (tc_ym x 0 0 0) (fun x1 => Option.bind (f_X3_isCrane x1 a1) (fun r2 => (if r2 = 0 then tc_b2 (f_X3_no x1 1) (fun r8 x9 => some (r8, x9)) else (if ¬ a1 < 0 ∧ a1.toNatClampNeg < 5 then tc_let (x1 11 a1.toNatClampNeg) (fun v6 => tc_let (tc_ym x1 11 a1.toNatClampNeg 0) (fun x7 => some (v6, x7))) else none))))
set_option maxHeartbeats 4000000 in
set_option maxRecDepth 100000 in
theorem mt_X3_mend (l : Launch) (D : va_G) (cU cO cI : ClassId) (A : Nat → Prop) (E : Nat → Nat) (x : tc_Y) (a1 : Int32) (r : Int32) (z : tc_Y) (hF : f_X3_mend x a1 = some (r, z)) : Met l yX3_mend wsX3_mend ({ frames := 2, cells := 0, slots := 0, locals := 43 } : Room) (va_Pc [.ref (E 0), .int a1] (fun U => tc_WM D cI A E x U.heap ∧ tc_KM D cU cO cI A U)) (tc_Qw (some (.int r)) (tc_WM D cI A E z) A) 0 0 A := by
  refine Met.ofW (cc := cX3_mend) (maxL := 3) (ret := (some .int)) (by decide) rfl ?_
  intro p e s m args below meth c s₁ B hml hv
  obtain ⟨rfl, hW, hKM⟩ := hv
  have hx := B.exec
  have hb := B.bytes
  have hr := B.returns
  have hts := atoms_spec (ws := wsX3_mend) B.pre
  have hown : s.vm.findClass RX3 = some m.cls := findClass_of_methodNamed B.named
  have hlocks := B.notSynchronized
  have hK := hKM.1
  have hA := hKM.2
  have hinX3 : ∀ w ∈ wsX30, w ∈ wsX3_mend := fun w9 h9 => List.mem_cons_of_mem _ (List.mem_append_right _ h9)
  have hS : va_S A s.heap s.heap [] := va_S.rf
  have hl := lv_entry ([.ref (E 0), .int a1]) (n := 3) (Nat.le_of_ble_eq_true rfl)
  rw [lg_entry_eq]
  generalize (lg_sl ([.ref (E 0), .int a1]) ++ List.replicate (3 - (lg_sl ([.ref (E 0), .int a1])).length) Slot.unset).toArray = ls at hl ⊢
  have hl : lv_has ls 3 [(0, .ref (E 0)), (1, .int a1)] := hl
  refine lv_aload_n hx hb dX3_mend_0 rfl (lv_at hl 0 rfl) ?_
  refine lv_iconst (v := 0) hx hb dX3_mend_1 (by decide) ?_
  refine tc_put (v := .int 0) (ty := .int) hx hb hts hinX3 tyX3 tyX3_ok nmX3 hown hK (hW.1) hS (hW.own (Or.inl rfl)) (C := RX3) (T := TX3) (N := 15) rfl 0 (by decide) (hts (.fieldLink RX3 43 "TreadCranesModel" "thrown" "I") (List.mem_of_getElem? (i := 1) rfl)) (fun _ h9 => h9) rfl (by decide +kernel) rfl rfl (Nat.le_of_ble_eq_true rfl) dX3_mend_2 (fun H locs e1 z1 o1 hS => ?_)
  obtain ⟨x1, ex1⟩ : ∃ z : tc_Y, z = tc_ym x 0 0 0 := ⟨_, rfl⟩
  have hF := tc_lt hF ex1
  have hW : tc_WM D cI A E x1 H := by rw [ex1]; exact hW.sf (Or.inl rfl) (by rw [tc_m0]; exact e1) o1
  refine lv_aload_n hx hb dX3_mend_5 rfl (lv_at hl 0 rfl) ?_
  refine lv_iload_n hx hb dX3_mend_6 rfl (lv_at hl 1 rfl) ?_
  obtain ⟨r2, h3, hF⟩ := tc_bi hF
  refine tc_cr (W.runV (As := [.int a1]) (rest := []) ⟨hx, hb, hml, hown, hts⟩ (mt_X3_isCrane l D cU cO cI A E x1 a1 r2 h3) (cwV 1 hts gX3_mend_X3_isCrane rfl rfl rfl (by decide +kernel) ⟨Nat.le_of_ble_eq_true rfl, Nat.le_of_ble_eq_true rfl⟩) ⟨fun a U g mk q => ⟨q.1, q.2.1, va_K.moved (Vm.Alike.refl U.vm) q.2.2⟩, tc_rcv (hW.1) hK rfl, fun U hU hW9 => ⟨rfl, by rw [hU]; exact hW, va_K.moved hW9.alike hK⟩⟩ rfl rfl hl.1 rfl (lv_room (Nat.le_of_ble_eq_true rfl)) dX3_mend_7 ⟨Nat.le_of_ble_eq_true rfl, Nat.le_of_ble_eq_true rfl⟩) ?_
  refine lv_if_ne (tgt := 19) hx hb dX3_mend_10 (by decide) (fun c4 => ?_) (fun c4 => ?_)
  · have hF := tc_if hF c4
    refine lv_aload_n hx hb dX3_mend_19 rfl (lv_at hl 0 rfl) ?_
    refine tc_get (v := .ref (E 11)) hx hb hts hinX3 hown hK (hW.1) (C := RX3) (T := TX3) (N := 15) rfl 11 (by decide) (hts (.fieldLink RX3 31 "TreadCranesModel" "worn" "[I") (List.mem_of_getElem? (i := 2) rfl)) (fun _ h9 => h9) rfl dX3_mend_20 ?_
    refine lv_iload_n hx hb dX3_mend_23 rfl (lv_at hl 1 rfl) ?_
    obtain ⟨g5, hF⟩ := tc_ob hF
    refine tc_iald (f := x1 11) hx hb hK (hW.hi ⟨by decide, by decide⟩) 2 rfl g5 dX3_mend_24 ?_
    refine lv_topi (fun v6 ev6 => ?_)
    have hF := tc_lt hF ev6
    refine lv_istore_n (lv' := [(2, .int v6), (0, .ref (E 0)), (1, .int a1)]) hx hb dX3_mend_25 rfl hl (by decide) rfl (fun ls hl => ?_)
    refine lv_aload_n hx hb dX3_mend_26 rfl (lv_at hl 1 rfl) ?_
    refine tc_get (v := .ref (E 11)) hx hb hts hinX3 hown hK (hW.1) (C := RX3) (T := TX3) (N := 15) rfl 11 (by decide) (hts (.fieldLink RX3 31 "TreadCranesModel" "worn" "[I") (List.mem_of_getElem? (i := 2) rfl)) (fun _ h9 => h9) rfl dX3_mend_27 ?_
    refine lv_iload_n hx hb dX3_mend_30 rfl (lv_at hl 2 rfl) ?_
    refine lv_iconst (v := 0) hx hb dX3_mend_31 (by decide) ?_
    refine tc_iast (f := x1 11) hx hb hK (hW.hi ⟨by decide, by decide⟩) hS (hW.own (Or.inr (Or.inr ⟨by decide, by decide⟩))) 2 rfl g5 dX3_mend_32 (fun H locs e1 z1 o1 hS => ?_)
    obtain ⟨x7, ex7⟩ : ∃ z : tc_Y, z = tc_ym x1 11 a1.toNatClampNeg 0 := ⟨_, rfl⟩
    have hF := tc_lt hF ex7
    have hW : tc_WM D cI A E x7 H := by rw [ex7]; exact hW.sh ⟨by decide, by decide⟩ e1 o1
    refine lv_iload_n hx hb dX3_mend_33 rfl (lv_at hl 0 rfl) ?_
    obtain ⟨h91, h92⟩ := tc_pr2 (Option.some.inj hF)
    refine W.widen (k := 0) (n := 0) (Nat.le_of_ble_eq_true rfl) (Nat.le_of_ble_eq_true rfl) ?_
    exact W.iret hx hb hr (fun t ht hW9 => ⟨⟨by rw [← h91], by rw [← h92, ht]; exact hW⟩, tc_F hS ht⟩) hS.2.2 dX3_mend_34
  · have hF := tc_it hF c4
    refine lv_aload_n hx hb dX3_mend_13 rfl (lv_at hl 0 rfl) ?_
    refine lv_iconst (v := 1) hx hb dX3_mend_14 (by decide) ?_
    obtain ⟨r8, x9, h10, hF⟩ := tc_bi2 hF
    refine tc_cw (va_runV (As := [.int 1]) (rest := []) ⟨hx, hb, hml, hown, hts⟩ (mt_X3_no l D cU cO cI A E x1 1 r8 x9 h10) (cwV 1 hts gX3_mend_X3_no rfl rfl rfl (by decide +kernel) ⟨Nat.le_of_ble_eq_true rfl, Nat.le_of_ble_eq_true rfl⟩) ⟨fun a U g mk q => ⟨q.1, q.2.1, q.2.2.call⟩, tc_rcv (hW.1) hK rfl, fun U hU hW9 => ⟨rfl, by rw [hU]; exact hW, hKM.go hS hU hW9⟩⟩ rfl rfl hl.1 rfl (lv_room (Nat.le_of_ble_eq_true rfl)) dX3_mend_15 ⟨Nat.le_of_ble_eq_true rfl, Nat.le_of_ble_eq_true rfl⟩) hS (fun _ _ h => h) (fun _ h => h) (fun H locs hW z1 o1 hS => ?_)
    obtain ⟨h91, h92⟩ := tc_pr2 (Option.some.inj hF)
    refine W.widen (k := 0) (n := 0) (Nat.le_of_ble_eq_true rfl) (Nat.le_of_ble_eq_true rfl) ?_
    exact W.iret hx hb hr (fun t ht hW9 => ⟨⟨by rw [← h91], by rw [← h92, ht]; exact hW⟩, tc_F hS ht⟩) hS.2.2 dX3_mend_18

def f_X3_turn (x : tc_Y) (a1 : Int32) (a2 : Int32) : Option (Int32 × tc_Y) := tc_let (tc_ym x 0 0 0) (fun x1 => Option.bind (f_X3_isCrane x1 a1) (fun r2 => (if r2 = 0 then tc_b2 (f_X3_no x1 1) (fun r5 x6 => some (r5, x6)) else Option.bind (f_X3_isPlace a2) (fun r8 => (if r8 = 0 then tc_b2 (f_X3_no x1 1) (fun r29 x30 => some (r29, x30)) else Option.bind (f_X3_isInReach x1 a1 a2) (fun r11 => (if r11 = 0 then tc_b2 (f_X3_no x1 2) (fun r14 x15 => some (r14, x15)) else (if ¬ a1 < 0 ∧ a1.toNatClampNeg < 5 then Option.bind (f_X3_highest x1 (x1 12 a1.toNatClampNeg) a2 (-1)) (fun r18 => Option.bind (f_X3_loaded x1 a1) (fun r20 => (if (r18 + r20) ≤ (x1 13 a1.toNatClampNeg) then tc_let (tc_abs ((x1 12 a1.toNatClampNeg) - a2)) (fun v23 => tc_let (tc_ym x1 12 a1.toNatClampNeg a2) (fun x24 => tc_let (tc_ym x24 1 0 ((x24 1 0) + v23)) (fun x25 => some (v23, x25)))) else tc_b2 (f_X3_no x1 2) (fun r26 x27 => some (r26, x27))))) else none))))))))
set_option maxHeartbeats 4000000 in
set_option maxRecDepth 100000 in
theorem mt_X3_turn (l : Launch) (D : va_G) (cU cO cI : ClassId) (A : Nat → Prop) (E : Nat → Nat) (x : tc_Y) (a1 : Int32) (a2 : Int32) (r : Int32) (z : tc_Y) (hF : f_X3_turn x a1 a2 = some (r, z)) : Met l yX3_turn wsX3_turn ({ frames := 2, cells := 0, slots := 0, locals := 48 } : Room) (va_Pc [.ref (E 0), .int a1, .int a2] (fun U => tc_WM D cI A E x U.heap ∧ tc_KM D cU cO cI A U)) (tc_Qw (some (.int r)) (tc_WM D cI A E z) A) 0 0 A := by
  refine Met.ofW (cc := cX3_turn) (maxL := 4) (ret := (some .int)) (by decide) rfl ?_
  intro p e s m args below meth c s₁ B hml hv
  obtain ⟨rfl, hW, hKM⟩ := hv
  have hx := B.exec
  have hb := B.bytes
  have hr := B.returns
  have hts := atoms_spec (ws := wsX3_turn) B.pre
  have hown : s.vm.findClass RX3 = some m.cls := findClass_of_methodNamed B.named
  have hlocks := B.notSynchronized
  have hK := hKM.1
  have hA := hKM.2
  have hinX3 : ∀ w ∈ wsX30, w ∈ wsX3_turn := fun w9 h9 => List.mem_cons_of_mem _ (List.mem_append_right _ h9)
  have hS : va_S A s.heap s.heap [] := va_S.rf
  have hl := lv_entry ([.ref (E 0), .int a1, .int a2]) (n := 4) (Nat.le_of_ble_eq_true rfl)
  rw [lg_entry_eq]
  generalize (lg_sl ([.ref (E 0), .int a1, .int a2]) ++ List.replicate (4 - (lg_sl ([.ref (E 0), .int a1, .int a2])).length) Slot.unset).toArray = ls at hl ⊢
  have hl : lv_has ls 4 [(0, .ref (E 0)), (1, .int a1), (2, .int a2)] := hl
  refine lv_aload_n hx hb dX3_turn_0 rfl (lv_at hl 0 rfl) ?_
  refine lv_iconst (v := 0) hx hb dX3_turn_1 (by decide) ?_
  refine tc_put (v := .int 0) (ty := .int) hx hb hts hinX3 tyX3 tyX3_ok nmX3 hown hK (hW.1) hS (hW.own (Or.inl rfl)) (C := RX3) (T := TX3) (N := 15) rfl 0 (by decide) (hts (.fieldLink RX3 43 "TreadCranesModel" "thrown" "I") (List.mem_of_getElem? (i := 1) rfl)) (fun _ h9 => h9) rfl (by decide +kernel) rfl rfl (Nat.le_of_ble_eq_true rfl) dX3_turn_2 (fun H locs e1 z1 o1 hS => ?_)
  obtain ⟨x1, ex1⟩ : ∃ z : tc_Y, z = tc_ym x 0 0 0 := ⟨_, rfl⟩
  have hF := tc_lt hF ex1
  have hW : tc_WM D cI A E x1 H := by rw [ex1]; exact hW.sf (Or.inl rfl) (by rw [tc_m0]; exact e1) o1
  refine lv_aload_n hx hb dX3_turn_5 rfl (lv_at hl 0 rfl) ?_
  refine lv_iload_n hx hb dX3_turn_6 rfl (lv_at hl 1 rfl) ?_
  obtain ⟨r2, h3, hF⟩ := tc_bi hF
  refine tc_cr (W.runV (As := [.int a1]) (rest := []) ⟨hx, hb, hml, hown, hts⟩ (mt_X3_isCrane l D cU cO cI A E x1 a1 r2 h3) (cwV 1 hts gX3_turn_X3_isCrane rfl rfl rfl (by decide +kernel) ⟨Nat.le_of_ble_eq_true rfl, Nat.le_of_ble_eq_true rfl⟩) ⟨fun a U g mk q => ⟨q.1, q.2.1, va_K.moved (Vm.Alike.refl U.vm) q.2.2⟩, tc_rcv (hW.1) hK rfl, fun U hU hW9 => ⟨rfl, by rw [hU]; exact hW, va_K.moved hW9.alike hK⟩⟩ rfl rfl hl.1 rfl (lv_room (Nat.le_of_ble_eq_true rfl)) dX3_turn_7 ⟨Nat.le_of_ble_eq_true rfl, Nat.le_of_ble_eq_true rfl⟩) ?_
  refine lv_if_eq (tgt := 20) hx hb dX3_turn_10 (by decide) (fun c4 => ?_) (fun c4 => ?_)
  · have hF := tc_it hF c4
    refine lv_aload_n hx hb dX3_turn_20 rfl (lv_at hl 0 rfl) ?_
    refine lv_iconst (v := 1) hx hb dX3_turn_21 (by decide) ?_
    obtain ⟨r5, x6, h7, hF⟩ := tc_bi2 hF
    refine tc_cw (va_runV (As := [.int 1]) (rest := []) ⟨hx, hb, hml, hown, hts⟩ (mt_X3_no l D cU cO cI A E x1 1 r5 x6 h7) (cwV 1 hts gX3_turn_X3_no rfl rfl rfl (by decide +kernel) ⟨Nat.le_of_ble_eq_true rfl, Nat.le_of_ble_eq_true rfl⟩) ⟨fun a U g mk q => ⟨q.1, q.2.1, q.2.2.call⟩, tc_rcv (hW.1) hK rfl, fun U hU hW9 => ⟨rfl, by rw [hU]; exact hW, hKM.go hS hU hW9⟩⟩ rfl rfl hl.1 rfl (lv_room (Nat.le_of_ble_eq_true rfl)) dX3_turn_22 ⟨Nat.le_of_ble_eq_true rfl, Nat.le_of_ble_eq_true rfl⟩) hS (fun _ _ h => h) (fun _ h => h) (fun H locs hW z1 o1 hS => ?_)
    obtain ⟨h91, h92⟩ := tc_pr2 (Option.some.inj hF)
    refine W.widen (k := 0) (n := 0) (Nat.le_of_ble_eq_true rfl) (Nat.le_of_ble_eq_true rfl) ?_
    exact W.iret hx hb hr (fun t ht hW9 => ⟨⟨by rw [← h91], by rw [← h92, ht]; exact hW⟩, tc_F hS ht⟩) hS.2.2 dX3_turn_25
  · have hF := tc_if hF c4
    refine lv_iload_n hx hb dX3_turn_13 rfl (lv_at hl 2 rfl) ?_
    obtain ⟨r8, h9, hF⟩ := tc_bi hF
    refine tc_cr (W.runS (As := [.int a2]) (rest := []) ⟨hx, hb, hml, hown, hts⟩ (mt_X3_isPlace l   a2 r8 h9) (va_cwS 1 hts gX3_turn_X3_isPlace rfl rfl rfl (by decide +kernel) ⟨Nat.le_of_ble_eq_true rfl, Nat.le_of_ble_eq_true rfl⟩) ⟨fun a U g mk q => q, fun U hU hW9 => ⟨rfl, trivial⟩⟩ rfl rfl hl.1 rfl (lv_room (Nat.le_of_ble_eq_true rfl)) dX3_turn_14 ⟨Nat.le_of_ble_eq_true rfl, Nat.le_of_ble_eq_true rfl⟩) ?_
    refine lv_if_ne (tgt := 26) hx hb dX3_turn_17 (by decide) (fun c10 => ?_) (fun c10 => ?_)
    · have hF := tc_if hF c10
      refine lv_aload_n hx hb dX3_turn_26 rfl (lv_at hl 0 rfl) ?_
      refine lv_iload_n hx hb dX3_turn_27 rfl (lv_at hl 1 rfl) ?_
      refine lv_iload_n hx hb dX3_turn_28 rfl (lv_at hl 2 rfl) ?_
      obtain ⟨r11, h12, hF⟩ := tc_bi hF
      refine tc_cr (W.runV (As := [.int a1, .int a2]) (rest := []) ⟨hx, hb, hml, hown, hts⟩ (mt_X3_isInReach l D cU cO cI A E x1 a1 a2 r11 h12) (cwV 2 hts gX3_turn_X3_isInReach rfl rfl rfl (by decide +kernel) ⟨Nat.le_of_ble_eq_true rfl, Nat.le_of_ble_eq_true rfl⟩) ⟨fun a U g mk q => ⟨q.1, q.2.1, va_K.moved (Vm.Alike.refl U.vm) q.2.2⟩, tc_rcv (hW.1) hK rfl, fun U hU hW9 => ⟨rfl, by rw [hU]; exact hW, va_K.moved hW9.alike hK⟩⟩ rfl rfl hl.1 rfl (lv_room (Nat.le_of_ble_eq_true rfl)) dX3_turn_29 ⟨Nat.le_of_ble_eq_true rfl, Nat.le_of_ble_eq_true rfl⟩) ?_
      refine lv_if_eq (tgt := 62) hx hb dX3_turn_32 (by decide) (fun c13 => ?_) (fun c13 => ?_)
      · have hF := tc_it hF c13
        refine lv_aload_n hx hb dX3_turn_62 rfl (lv_at hl 0 rfl) ?_
        refine lv_iconst (v := 2) hx hb dX3_turn_63 (by decide) ?_
        obtain ⟨r14, x15, h16, hF⟩ := tc_bi2 hF
        refine tc_cw (va_runV (As := [.int 2]) (rest := []) ⟨hx, hb, hml, hown, hts⟩ (mt_X3_no l D cU cO cI A E x1 2 r14 x15 h16) (cwV 1 hts gX3_turn_X3_no rfl rfl rfl (by decide +kernel) ⟨Nat.le_of_ble_eq_true rfl, Nat.le_of_ble_eq_true rfl⟩) ⟨fun a U g mk q => ⟨q.1, q.2.1, q.2.2.call⟩, tc_rcv (hW.1) hK rfl, fun U hU hW9 => ⟨rfl, by rw [hU]; exact hW, hKM.go hS hU hW9⟩⟩ rfl rfl hl.1 rfl (lv_room (Nat.le_of_ble_eq_true rfl)) dX3_turn_64 ⟨Nat.le_of_ble_eq_true rfl, Nat.le_of_ble_eq_true rfl⟩) hS (fun _ _ h => h) (fun _ h => h) (fun H locs hW z1 o1 hS => ?_)
        obtain ⟨h91, h92⟩ := tc_pr2 (Option.some.inj hF)
        refine W.widen (k := 0) (n := 0) (Nat.le_of_ble_eq_true rfl) (Nat.le_of_ble_eq_true rfl) ?_
        exact W.iret hx hb hr (fun t ht hW9 => ⟨⟨by rw [← h91], by rw [← h92, ht]; exact hW⟩, tc_F hS ht⟩) hS.2.2 dX3_turn_67
      · have hF := tc_if hF c13
        refine lv_aload_n hx hb dX3_turn_35 rfl (lv_at hl 0 rfl) ?_
        refine tc_get (v := .ref (E 13)) hx hb hts hinX3 hown hK (hW.1) (C := RX3) (T := TX3) (N := 15) rfl 13 (by decide) (hts (.fieldLink RX3 37 "TreadCranesModel" "height" "[I") (List.mem_of_getElem? (i := 2) rfl)) (fun _ h9 => h9) rfl dX3_turn_36 ?_
        refine lv_iload_n hx hb dX3_turn_39 rfl (lv_at hl 1 rfl) ?_
        obtain ⟨g17, hF⟩ := tc_ob hF
        refine tc_iald (f := x1 13) hx hb hK (hW.hi ⟨by decide, by decide⟩) 2 rfl g17 dX3_turn_40 ?_
        refine lv_aload_n hx hb dX3_turn_41 rfl (lv_at hl 0 rfl) ?_
        refine lv_aload_n hx hb dX3_turn_42 rfl (lv_at hl 0 rfl) ?_
        refine tc_get (v := .ref (E 12)) hx hb hts hinX3 hown hK (hW.1) (C := RX3) (T := TX3) (N := 15) rfl 12 (by decide) (hts (.fieldLink RX3 34 "TreadCranesModel" "hook" "[I") (List.mem_of_getElem? (i := 3) rfl)) (fun _ h9 => h9) rfl dX3_turn_43 ?_
        refine lv_iload_n hx hb dX3_turn_46 rfl (lv_at hl 1 rfl) ?_
        refine tc_iald (f := x1 12) hx hb hK (hW.hi ⟨by decide, by decide⟩) 2 rfl g17 dX3_turn_47 ?_
        refine lv_iload_n hx hb dX3_turn_48 rfl (lv_at hl 2 rfl) ?_
        refine lv_iconst (v := (-1)) hx hb dX3_turn_49 (by decide) ?_
        obtain ⟨r18, h19, hF⟩ := tc_bi hF
        refine tc_cr (W.runV (As := [.int (x1 12 a1.toNatClampNeg), .int a2, .int (-1)]) (rest := [.int (x1 13 a1.toNatClampNeg)]) ⟨hx, hb, hml, hown, hts⟩ (mt_X3_highest l D cU cO cI A E x1 (x1 12 a1.toNatClampNeg) a2 (-1) r18 h19) (cwV 3 hts gX3_turn_X3_highest rfl rfl rfl (by decide +kernel) ⟨Nat.le_of_ble_eq_true rfl, Nat.le_of_ble_eq_true rfl⟩) ⟨fun a U g mk q => ⟨q.1, q.2.1, va_K.moved (Vm.Alike.refl U.vm) q.2.2⟩, tc_rcv (hW.1) hK rfl, fun U hU hW9 => ⟨rfl, by rw [hU]; exact hW, va_K.moved hW9.alike hK⟩⟩ rfl rfl hl.1 rfl (lv_room (Nat.le_of_ble_eq_true rfl)) dX3_turn_50 ⟨Nat.le_of_ble_eq_true rfl, Nat.le_of_ble_eq_true rfl⟩) ?_
        refine lv_aload_n hx hb dX3_turn_53 rfl (lv_at hl 0 rfl) ?_
        refine lv_iload_n hx hb dX3_turn_54 rfl (lv_at hl 1 rfl) ?_
        obtain ⟨r20, h21, hF⟩ := tc_bi hF
        refine tc_cr (W.runV (As := [.int a1]) (rest := [.int r18, .int (x1 13 a1.toNatClampNeg)]) ⟨hx, hb, hml, hown, hts⟩ (mt_X3_loaded l D cU cO cI A E x1 a1 r20 h21) (cwV 1 hts gX3_turn_X3_loaded rfl rfl rfl (by decide +kernel) ⟨Nat.le_of_ble_eq_true rfl, Nat.le_of_ble_eq_true rfl⟩) ⟨fun a U g mk q => ⟨q.1, q.2.1, va_K.moved (Vm.Alike.refl U.vm) q.2.2⟩, tc_rcv (hW.1) hK rfl, fun U hU hW9 => ⟨rfl, by rw [hU]; exact hW, va_K.moved hW9.alike hK⟩⟩ rfl rfl hl.1 rfl (lv_room (Nat.le_of_ble_eq_true rfl)) dX3_turn_55 ⟨Nat.le_of_ble_eq_true rfl, Nat.le_of_ble_eq_true rfl⟩) ?_
        refine lv_iadd hx hb dX3_turn_58 ?_
        refine lv_icmp_ge (tgt := 68) hx hb dX3_turn_59 (by decide) (fun c22 => ?_) (fun c22 => ?_)
        · have hF := tc_it hF c22
          refine lv_aload_n hx hb dX3_turn_68 rfl (lv_at hl 0 rfl) ?_
          refine tc_get (v := .ref (E 12)) hx hb hts hinX3 hown hK (hW.1) (C := RX3) (T := TX3) (N := 15) rfl 12 (by decide) (hts (.fieldLink RX3 34 "TreadCranesModel" "hook" "[I") (List.mem_of_getElem? (i := 3) rfl)) (fun _ h9 => h9) rfl dX3_turn_69 ?_
          refine lv_iload_n hx hb dX3_turn_72 rfl (lv_at hl 1 rfl) ?_
          refine tc_iald (f := x1 12) hx hb hK (hW.hi ⟨by decide, by decide⟩) 2 rfl g17 dX3_turn_73 ?_
          refine lv_iload_n hx hb dX3_turn_74 rfl (lv_at hl 2 rfl) ?_
          refine lv_isub hx hb dX3_turn_75 ?_
          refine va_mabs hx hb (by rw [hml]; exact hl.1.symm) hown (hts (.methodLink RX3 61 Lib.Math.abs.name) (List.mem_of_getElem? (i := 4) rfl)) (hts (.static Lib.Math.abs.name) (List.mem_of_getElem? (i := 5) rfl)) (hts (.initialized "java/lang/Math") (List.mem_of_getElem? (i := 6) rfl)) (hts (.code Lib.Math.abs.name Lib.Math.abs.code 1 (some .int)) (List.mem_of_getElem? (i := 7) rfl)) (Nat.le_of_ble_eq_true rfl) (Nat.le_of_ble_eq_true rfl) (Nat.le_of_ble_eq_true rfl) (Nat.le_of_ble_eq_true rfl) dX3_turn_76 ?_
          refine lv_topi (fun v23 ev23 => ?_)
          have hF := tc_lt hF ev23
          refine lv_istore_n (lv' := [(3, .int v23), (0, .ref (E 0)), (1, .int a1), (2, .int a2)]) hx hb dX3_turn_79 rfl hl (by decide) rfl (fun ls hl => ?_)
          refine lv_aload_n hx hb dX3_turn_80 rfl (lv_at hl 1 rfl) ?_
          refine tc_get (v := .ref (E 12)) hx hb hts hinX3 hown hK (hW.1) (C := RX3) (T := TX3) (N := 15) rfl 12 (by decide) (hts (.fieldLink RX3 34 "TreadCranesModel" "hook" "[I") (List.mem_of_getElem? (i := 3) rfl)) (fun _ h9 => h9) rfl dX3_turn_81 ?_
          refine lv_iload_n hx hb dX3_turn_84 rfl (lv_at hl 2 rfl) ?_
          refine lv_iload_n hx hb dX3_turn_85 rfl (lv_at hl 3 rfl) ?_
          refine tc_iast (f := x1 12) hx hb hK (hW.hi ⟨by decide, by decide⟩) hS (hW.own (Or.inr (Or.inr ⟨by decide, by decide⟩))) 2 rfl g17 dX3_turn_86 (fun H locs e1 z1 o1 hS => ?_)
          obtain ⟨x24, ex24⟩ : ∃ z : tc_Y, z = tc_ym x1 12 a1.toNatClampNeg a2 := ⟨_, rfl⟩
          have hF := tc_lt hF ex24
          have hW : tc_WM D cI A E x24 H := by rw [ex24]; exact hW.sh ⟨by decide, by decide⟩ e1 o1
          refine lv_aload_n hx hb dX3_turn_87 rfl (lv_at hl 1 rfl) ?_
          refine lv_dup hx hb dX3_turn_88 rfl ?_
          refine tc_get (v := .int (x24 1 0)) hx hb hts hinX3 hown hK (hW.1) (C := RX3) (T := TX3) (N := 15) rfl 1 (by decide) (hts (.fieldLink RX3 97 "TreadCranesModel" "ticks" "I") (List.mem_of_getElem? (i := 8) rfl)) (fun _ h9 => h9) rfl dX3_turn_89 ?_
          refine lv_iload_n hx hb dX3_turn_92 rfl (lv_at hl 0 rfl) ?_
          refine lv_iadd hx hb dX3_turn_93 ?_
          refine tc_put (v := .int ((x24 1 0) + v23)) (ty := .int) hx hb hts hinX3 tyX3 tyX3_ok nmX3 hown hK (hW.1) hS (hW.own (Or.inl rfl)) (C := RX3) (T := TX3) (N := 15) rfl 1 (by decide) (hts (.fieldLink RX3 97 "TreadCranesModel" "ticks" "I") (List.mem_of_getElem? (i := 8) rfl)) (fun _ h9 => h9) rfl (by decide +kernel) rfl rfl (Nat.le_of_ble_eq_true rfl) dX3_turn_94 (fun H locs e1 z1 o1 hS => ?_)
          obtain ⟨x25, ex25⟩ : ∃ z : tc_Y, z = tc_ym x24 1 0 ((x24 1 0) + v23) := ⟨_, rfl⟩
          have hF := tc_lt hF ex25
          have hW : tc_WM D cI A E x25 H := by rw [ex25]; exact hW.sf (Or.inr (Or.inl rfl)) (by rw [tc_m1]; exact e1) o1
          refine lv_iload_n hx hb dX3_turn_97 rfl (lv_at hl 0 rfl) ?_
          obtain ⟨h91, h92⟩ := tc_pr2 (Option.some.inj hF)
          refine W.widen (k := 0) (n := 0) (Nat.le_of_ble_eq_true rfl) (Nat.le_of_ble_eq_true rfl) ?_
          exact W.iret hx hb hr (fun t ht hW9 => ⟨⟨by rw [← h91], by rw [← h92, ht]; exact hW⟩, tc_F hS ht⟩) hS.2.2 dX3_turn_98
        · have hF := tc_if hF c22
          refine lv_aload_n hx hb dX3_turn_62 rfl (lv_at hl 0 rfl) ?_
          refine lv_iconst (v := 2) hx hb dX3_turn_63 (by decide) ?_
          obtain ⟨r26, x27, h28, hF⟩ := tc_bi2 hF
          refine tc_cw (va_runV (As := [.int 2]) (rest := []) ⟨hx, hb, hml, hown, hts⟩ (mt_X3_no l D cU cO cI A E x1 2 r26 x27 h28) (cwV 1 hts gX3_turn_X3_no rfl rfl rfl (by decide +kernel) ⟨Nat.le_of_ble_eq_true rfl, Nat.le_of_ble_eq_true rfl⟩) ⟨fun a U g mk q => ⟨q.1, q.2.1, q.2.2.call⟩, tc_rcv (hW.1) hK rfl, fun U hU hW9 => ⟨rfl, by rw [hU]; exact hW, hKM.go hS hU hW9⟩⟩ rfl rfl hl.1 rfl (lv_room (Nat.le_of_ble_eq_true rfl)) dX3_turn_64 ⟨Nat.le_of_ble_eq_true rfl, Nat.le_of_ble_eq_true rfl⟩) hS (fun _ _ h => h) (fun _ h => h) (fun H locs hW z1 o1 hS => ?_)
          obtain ⟨h91, h92⟩ := tc_pr2 (Option.some.inj hF)
          refine W.widen (k := 0) (n := 0) (Nat.le_of_ble_eq_true rfl) (Nat.le_of_ble_eq_true rfl) ?_
          exact W.iret hx hb hr (fun t ht hW9 => ⟨⟨by rw [← h91], by rw [← h92, ht]; exact hW⟩, tc_F hS ht⟩) hS.2.2 dX3_turn_67
    · have hF := tc_it hF c10
      refine lv_aload_n hx hb dX3_turn_20 rfl (lv_at hl 0 rfl) ?_
      refine lv_iconst (v := 1) hx hb dX3_turn_21 (by decide) ?_
      obtain ⟨r29, x30, h31, hF⟩ := tc_bi2 hF
      refine tc_cw (va_runV (As := [.int 1]) (rest := []) ⟨hx, hb, hml, hown, hts⟩ (mt_X3_no l D cU cO cI A E x1 1 r29 x30 h31) (cwV 1 hts gX3_turn_X3_no rfl rfl rfl (by decide +kernel) ⟨Nat.le_of_ble_eq_true rfl, Nat.le_of_ble_eq_true rfl⟩) ⟨fun a U g mk q => ⟨q.1, q.2.1, q.2.2.call⟩, tc_rcv (hW.1) hK rfl, fun U hU hW9 => ⟨rfl, by rw [hU]; exact hW, hKM.go hS hU hW9⟩⟩ rfl rfl hl.1 rfl (lv_room (Nat.le_of_ble_eq_true rfl)) dX3_turn_22 ⟨Nat.le_of_ble_eq_true rfl, Nat.le_of_ble_eq_true rfl⟩) hS (fun _ _ h => h) (fun _ h => h) (fun H locs hW z1 o1 hS => ?_)
      obtain ⟨h91, h92⟩ := tc_pr2 (Option.some.inj hF)
      refine W.widen (k := 0) (n := 0) (Nat.le_of_ble_eq_true rfl) (Nat.le_of_ble_eq_true rfl) ?_
      exact W.iret hx hb hr (fun t ht hW9 => ⟨⟨by rw [← h91], by rw [← h92, ht]; exact hW⟩, tc_F hS ht⟩) hS.2.2 dX3_turn_25

def f_X3_fall (x : tc_Y) (a1 : Int32) : Option (Int32 × tc_Y) := (if ¬ a1 < 0 ∧ a1.toNatClampNeg < 5 then (if ¬ (x 14 a1.toNatClampNeg) < 0 ∧ (x 14 a1.toNatClampNeg).toNatClampNeg < 40 then tc_let (tc_ym x 4 (x 14 a1.toNatClampNeg).toNatClampNeg (-2)) (fun x3 => tc_let (tc_ym x3 14 a1.toNatClampNeg (-1)) (fun x4 => tc_let (tc_ym x4 11 a1.toNatClampNeg 99) (fun x5 => some ((-1), x5)))) else none) else none)
set_option maxHeartbeats 4000000 in
set_option maxRecDepth 100000 in
theorem mt_X3_fall (l : Launch) (D : va_G) (cU cO cI : ClassId) (A : Nat → Prop) (E : Nat → Nat) (x : tc_Y) (a1 : Int32) (r : Int32) (z : tc_Y) (hF : f_X3_fall x a1 = some (r, z)) : Met l yX3_fall wsX3_fall ({ frames := 0, cells := 0, slots := 0, locals := 0 } : Room) (va_Pc [.ref (E 0), .int a1] (fun U => tc_WM D cI A E x U.heap ∧ tc_KM D cU cO cI A U)) (tc_Qw (some (.int r)) (tc_WM D cI A E z) A) 0 0 A := by
  refine Met.ofW (cc := cX3_fall) (maxL := 2) (ret := (some .int)) (by decide) rfl ?_
  intro p e s m args below meth c s₁ B hml hv
  obtain ⟨rfl, hW, hKM⟩ := hv
  have hx := B.exec
  have hb := B.bytes
  have hr := B.returns
  have hts := atoms_spec (ws := wsX3_fall) B.pre
  have hown : s.vm.findClass RX3 = some m.cls := findClass_of_methodNamed B.named
  have hlocks := B.notSynchronized
  have hK := hKM.1
  have hA := hKM.2
  have hinX3 : ∀ w ∈ wsX30, w ∈ wsX3_fall := fun w9 h9 => List.mem_cons_of_mem _ (List.mem_append_right _ h9)
  have hS : va_S A s.heap s.heap [] := va_S.rf
  have hl := lv_entry ([.ref (E 0), .int a1]) (n := 2) (Nat.le_of_ble_eq_true rfl)
  rw [lg_entry_eq]
  generalize (lg_sl ([.ref (E 0), .int a1]) ++ List.replicate (2 - (lg_sl ([.ref (E 0), .int a1])).length) Slot.unset).toArray = ls at hl ⊢
  have hl : lv_has ls 2 [(0, .ref (E 0)), (1, .int a1)] := hl
  refine lv_aload_n hx hb dX3_fall_0 rfl (lv_at hl 0 rfl) ?_
  refine tc_get (v := .ref (E 4)) hx hb hts hinX3 hown hK (hW.1) (C := RX3) (T := TX3) (N := 15) rfl 4 (by decide) (hts (.fieldLink RX3 13 "TreadCranesModel" "at" "[I") (List.mem_of_getElem? (i := 1) rfl)) (fun _ h9 => h9) rfl dX3_fall_1 ?_
  refine lv_aload_n hx hb dX3_fall_4 rfl (lv_at hl 0 rfl) ?_
  refine tc_get (v := .ref (E 14)) hx hb hts hinX3 hown hK (hW.1) (C := RX3) (T := TX3) (N := 15) rfl 14 (by decide) (hts (.fieldLink RX3 40 "TreadCranesModel" "load" "[I") (List.mem_of_getElem? (i := 2) rfl)) (fun _ h9 => h9) rfl dX3_fall_5 ?_
  refine lv_iload_n hx hb dX3_fall_8 rfl (lv_at hl 1 rfl) ?_
  obtain ⟨g1, hF⟩ := tc_ob hF
  refine tc_iald (f := x 14) hx hb hK (hW.hi ⟨by decide, by decide⟩) 2 rfl g1 dX3_fall_9 ?_
  refine lv_bipush (v := (-2)) hx hb dX3_fall_10 (by decide) ?_
  obtain ⟨g2, hF⟩ := tc_ob hF
  refine tc_iast (f := x 4) hx hb hK (hW.lo ⟨by decide, by decide⟩) hS (hW.own (Or.inr (Or.inl ⟨by decide, by decide⟩))) 2 rfl g2 dX3_fall_12 (fun H locs e1 z1 o1 hS => ?_)
  obtain ⟨x3, ex3⟩ : ∃ z : tc_Y, z = tc_ym x 4 (x 14 a1.toNatClampNeg).toNatClampNeg (-2) := ⟨_, rfl⟩
  have hF := tc_lt hF ex3
  have hW : tc_WM D cI A E x3 H := by rw [ex3]; exact hW.sl ⟨by decide, by decide⟩ e1 o1
  refine lv_aload_n hx hb dX3_fall_13 rfl (lv_at hl 0 rfl) ?_
  refine tc_get (v := .ref (E 14)) hx hb hts hinX3 hown hK (hW.1) (C := RX3) (T := TX3) (N := 15) rfl 14 (by decide) (hts (.fieldLink RX3 40 "TreadCranesModel" "load" "[I") (List.mem_of_getElem? (i := 2) rfl)) (fun _ h9 => h9) rfl dX3_fall_14 ?_
  refine lv_iload_n hx hb dX3_fall_17 rfl (lv_at hl 1 rfl) ?_
  refine lv_iconst (v := (-1)) hx hb dX3_fall_18 (by decide) ?_
  refine tc_iast (f := x3 14) hx hb hK (hW.hi ⟨by decide, by decide⟩) hS (hW.own (Or.inr (Or.inr ⟨by decide, by decide⟩))) 2 rfl g1 dX3_fall_19 (fun H locs e1 z1 o1 hS => ?_)
  obtain ⟨x4, ex4⟩ : ∃ z : tc_Y, z = tc_ym x3 14 a1.toNatClampNeg (-1) := ⟨_, rfl⟩
  have hF := tc_lt hF ex4
  have hW : tc_WM D cI A E x4 H := by rw [ex4]; exact hW.sh ⟨by decide, by decide⟩ e1 o1
  refine lv_aload_n hx hb dX3_fall_20 rfl (lv_at hl 0 rfl) ?_
  refine tc_get (v := .ref (E 11)) hx hb hts hinX3 hown hK (hW.1) (C := RX3) (T := TX3) (N := 15) rfl 11 (by decide) (hts (.fieldLink RX3 31 "TreadCranesModel" "worn" "[I") (List.mem_of_getElem? (i := 3) rfl)) (fun _ h9 => h9) rfl dX3_fall_21 ?_
  refine lv_iload_n hx hb dX3_fall_24 rfl (lv_at hl 1 rfl) ?_
  refine lv_bipush (v := 99) hx hb dX3_fall_25 (by decide) ?_
  refine tc_iast (f := x4 11) hx hb hK (hW.hi ⟨by decide, by decide⟩) hS (hW.own (Or.inr (Or.inr ⟨by decide, by decide⟩))) 2 rfl g1 dX3_fall_27 (fun H locs e1 z1 o1 hS => ?_)
  obtain ⟨x5, ex5⟩ : ∃ z : tc_Y, z = tc_ym x4 11 a1.toNatClampNeg 99 := ⟨_, rfl⟩
  have hF := tc_lt hF ex5
  have hW : tc_WM D cI A E x5 H := by rw [ex5]; exact hW.sh ⟨by decide, by decide⟩ e1 o1
  refine lv_iconst (v := (-1)) hx hb dX3_fall_28 (by decide) ?_
  obtain ⟨h91, h92⟩ := tc_pr2 (Option.some.inj hF)
  refine W.widen (k := 0) (n := 0) (Nat.le_of_ble_eq_true rfl) (Nat.le_of_ble_eq_true rfl) ?_
  exact W.iret hx hb hr (fun t ht hW9 => ⟨⟨by rw [← h91], by rw [← h92, ht]; exact hW⟩, tc_F hS ht⟩) hS.2.2 dX3_fall_29

def f_X3_hoist (x : tc_Y) (a1 : Int32) (a2 : Int32) : Option (Int32 × tc_Y) := tc_let (tc_ym x 0 0 0) (fun x1 => Option.bind (f_X3_isCrane x1 a1) (fun r2 => (if r2 = 0 then tc_b2 (f_X3_no x1 1) (fun r64 x65 => some (r64, x65)) else Option.bind (f_X3_isIn a2 0 20) (fun r5 => (if r5 = 0 then tc_b2 (f_X3_no x1 2) (fun r61 x62 => some (r61, x62)) else (if ¬ a1 < 0 ∧ a1.toNatClampNeg < 5 then tc_let (a2 - (x1 13 a1.toNatClampNeg)) (fun v9 => Option.bind (f_X3_high x1 (x1 12 a1.toNatClampNeg)) (fun r10 => Option.bind (f_X3_loaded x1 a1) (fun r12 => (if a2 < (r10 + r12) then tc_b2 (f_X3_no x1 3) (fun r15 x16 => some (r15, x16)) else (if v9 ≤ 0 then tc_let (tc_abs v9) (fun v19 => Option.bind (f_X3_wound x1 a1 v19) (fun r20 => (if 0 ≤ v9 then tc_let (tc_ym x1 13 a1.toNatClampNeg a2) (fun x23 => tc_let (tc_ym x23 1 0 ((x23 1 0) + r20)) (fun x24 => some (r20, x24))) else (if (x1 14 a1.toNatClampNeg) = (-1) then tc_let (tc_ym x1 13 a1.toNatClampNeg a2) (fun x26 => tc_let (tc_ym x26 1 0 ((x26 1 0) + r20)) (fun x27 => some (r20, x27))) else (if ¬ (x1 14 a1.toNatClampNeg) < 0 ∧ (x1 14 a1.toNatClampNeg).toNatClampNeg < 40 then tc_let (r20 * (((x1 3 (x1 14 a1.toNatClampNeg).toNatClampNeg) / 20) + 1)) (fun v29 => (if ((x1 11 a1.toNatClampNeg) + v29) ≤ 99 then tc_let (tc_ym x1 11 a1.toNatClampNeg ((x1 11 a1.toNatClampNeg) + v29)) (fun x31 => tc_let (tc_ym x31 13 a1.toNatClampNeg a2) (fun x32 => tc_let (tc_ym x32 1 0 ((x32 1 0) + r20)) (fun x33 => some (r20, x33)))) else tc_b2 (f_X3_fall x1 a1) (fun r34 x35 => some (r34, x35)))) else none))))) else Option.bind (f_X3_canLift x1 a1) (fun r37 => (if r37 = 0 then tc_b2 (f_X3_no x1 3) (fun r58 x59 => some (r58, x59)) else tc_let (tc_abs v9) (fun v40 => Option.bind (f_X3_wound x1 a1 v40) (fun r41 => (if 0 ≤ v9 then tc_let (tc_ym x1 13 a1.toNatClampNeg a2) (fun x44 => tc_let (tc_ym x44 1 0 ((x44 1 0) + r41)) (fun x45 => some (r41, x45))) else (if (x1 14 a1.toNatClampNeg) = (-1) then tc_let (tc_ym x1 13 a1.toNatClampNeg a2) (fun x47 => tc_let (tc_ym x47 1 0 ((x47 1 0) + r41)) (fun x48 => some (r41, x48))) else (if ¬ (x1 14 a1.toNatClampNeg) < 0 ∧ (x1 14 a1.toNatClampNeg).toNatClampNeg < 40 then tc_let (r41 * (((x1 3 (x1 14 a1.toNatClampNeg).toNatClampNeg) / 20) + 1)) (fun v50 => (if ((x1 11 a1.toNatClampNeg) + v50) ≤ 99 then tc_let (tc_ym x1 11 a1.toNatClampNeg ((x1 11 a1.toNatClampNeg) + v50)) (fun x52 => tc_let (tc_ym x52 13 a1.toNatClampNeg a2) (fun x53 => tc_let (tc_ym x53 1 0 ((x53 1 0) + r41)) (fun x54 => some (r41, x54)))) else tc_b2 (f_X3_fall x1 a1) (fun r55 x56 => some (r55, x56)))) else none)))))))))))) else none))))))
set_option maxHeartbeats 4000000 in
set_option maxRecDepth 100000 in
theorem mt_X3_hoist (l : Launch) (D : va_G) (cU cO cI : ClassId) (A : Nat → Prop) (E : Nat → Nat) (x : tc_Y) (a1 : Int32) (a2 : Int32) (r : Int32) (z : tc_Y) (hF : f_X3_hoist x a1 a2 = some (r, z)) : Met l yX3_hoist wsX3_hoist ({ frames := 2, cells := 0, slots := 0, locals := 43 } : Room) (va_Pc [.ref (E 0), .int a1, .int a2] (fun U => tc_WM D cI A E x U.heap ∧ tc_KM D cU cO cI A U)) (tc_Qw (some (.int r)) (tc_WM D cI A E z) A) 0 0 A := by
  refine Met.ofW (cc := cX3_hoist) (maxL := 6) (ret := (some .int)) (by decide) rfl ?_
  intro p e s m args below meth c s₁ B hml hv
  obtain ⟨rfl, hW, hKM⟩ := hv
  have hx := B.exec
  have hb := B.bytes
  have hr := B.returns
  have hts := atoms_spec (ws := wsX3_hoist) B.pre
  have hown : s.vm.findClass RX3 = some m.cls := findClass_of_methodNamed B.named
  have hlocks := B.notSynchronized
  have hK := hKM.1
  have hA := hKM.2
  have hinX3 : ∀ w ∈ wsX30, w ∈ wsX3_hoist := fun w9 h9 => List.mem_cons_of_mem _ (List.mem_append_right _ h9)
  have hS : va_S A s.heap s.heap [] := va_S.rf
  have hl := lv_entry ([.ref (E 0), .int a1, .int a2]) (n := 6) (Nat.le_of_ble_eq_true rfl)
  rw [lg_entry_eq]
  generalize (lg_sl ([.ref (E 0), .int a1, .int a2]) ++ List.replicate (6 - (lg_sl ([.ref (E 0), .int a1, .int a2])).length) Slot.unset).toArray = ls at hl ⊢
  have hl : lv_has ls 6 [(0, .ref (E 0)), (1, .int a1), (2, .int a2)] := hl
  refine lv_aload_n hx hb dX3_hoist_0 rfl (lv_at hl 0 rfl) ?_
  refine lv_iconst (v := 0) hx hb dX3_hoist_1 (by decide) ?_
  refine tc_put (v := .int 0) (ty := .int) hx hb hts hinX3 tyX3 tyX3_ok nmX3 hown hK (hW.1) hS (hW.own (Or.inl rfl)) (C := RX3) (T := TX3) (N := 15) rfl 0 (by decide) (hts (.fieldLink RX3 43 "TreadCranesModel" "thrown" "I") (List.mem_of_getElem? (i := 1) rfl)) (fun _ h9 => h9) rfl (by decide +kernel) rfl rfl (Nat.le_of_ble_eq_true rfl) dX3_hoist_2 (fun H locs e1 z1 o1 hS => ?_)
  obtain ⟨x1, ex1⟩ : ∃ z : tc_Y, z = tc_ym x 0 0 0 := ⟨_, rfl⟩
  have hF := tc_lt hF ex1
  have hW : tc_WM D cI A E x1 H := by rw [ex1]; exact hW.sf (Or.inl rfl) (by rw [tc_m0]; exact e1) o1
  refine lv_aload_n hx hb dX3_hoist_5 rfl (lv_at hl 0 rfl) ?_
  refine lv_iload_n hx hb dX3_hoist_6 rfl (lv_at hl 1 rfl) ?_
  obtain ⟨r2, h3, hF⟩ := tc_bi hF
  refine tc_cr (W.runV (As := [.int a1]) (rest := []) ⟨hx, hb, hml, hown, hts⟩ (mt_X3_isCrane l D cU cO cI A E x1 a1 r2 h3) (cwV 1 hts gX3_hoist_X3_isCrane rfl rfl rfl (by decide +kernel) ⟨Nat.le_of_ble_eq_true rfl, Nat.le_of_ble_eq_true rfl⟩) ⟨fun a U g mk q => ⟨q.1, q.2.1, va_K.moved (Vm.Alike.refl U.vm) q.2.2⟩, tc_rcv (hW.1) hK rfl, fun U hU hW9 => ⟨rfl, by rw [hU]; exact hW, va_K.moved hW9.alike hK⟩⟩ rfl rfl hl.1 rfl (lv_room (Nat.le_of_ble_eq_true rfl)) dX3_hoist_7 ⟨Nat.le_of_ble_eq_true rfl, Nat.le_of_ble_eq_true rfl⟩) ?_
  refine lv_if_ne (tgt := 19) hx hb dX3_hoist_10 (by decide) (fun c4 => ?_) (fun c4 => ?_)
  · have hF := tc_if hF c4
    refine lv_iload_n hx hb dX3_hoist_19 rfl (lv_at hl 2 rfl) ?_
    refine lv_iconst (v := 0) hx hb dX3_hoist_20 (by decide) ?_
    refine lv_bipush (v := 20) hx hb dX3_hoist_21 (by decide) ?_
    obtain ⟨r5, h6, hF⟩ := tc_bi hF
    refine tc_cr (W.runS (As := [.int a2, .int 0, .int 20]) (rest := []) ⟨hx, hb, hml, hown, hts⟩ (mt_X3_isIn l   a2 0 20 r5 h6) (va_cwS 3 hts gX3_hoist_X3_isIn rfl rfl rfl (by decide +kernel) ⟨Nat.le_of_ble_eq_true rfl, Nat.le_of_ble_eq_true rfl⟩) ⟨fun a U g mk q => q, fun U hU hW9 => ⟨rfl, trivial⟩⟩ rfl rfl hl.1 rfl (lv_room (Nat.le_of_ble_eq_true rfl)) dX3_hoist_23 ⟨Nat.le_of_ble_eq_true rfl, Nat.le_of_ble_eq_true rfl⟩) ?_
    refine lv_if_ne (tgt := 35) hx hb dX3_hoist_26 (by decide) (fun c7 => ?_) (fun c7 => ?_)
    · have hF := tc_if hF c7
      refine lv_iload_n hx hb dX3_hoist_35 rfl (lv_at hl 2 rfl) ?_
      refine lv_aload_n hx hb dX3_hoist_36 rfl (lv_at hl 0 rfl) ?_
      refine tc_get (v := .ref (E 13)) hx hb hts hinX3 hown hK (hW.1) (C := RX3) (T := TX3) (N := 15) rfl 13 (by decide) (hts (.fieldLink RX3 37 "TreadCranesModel" "height" "[I") (List.mem_of_getElem? (i := 2) rfl)) (fun _ h9 => h9) rfl dX3_hoist_37 ?_
      refine lv_iload_n hx hb dX3_hoist_40 rfl (lv_at hl 1 rfl) ?_
      obtain ⟨g8, hF⟩ := tc_ob hF
      refine tc_iald (f := x1 13) hx hb hK (hW.hi ⟨by decide, by decide⟩) 2 rfl g8 dX3_hoist_41 ?_
      refine lv_isub hx hb dX3_hoist_42 ?_
      refine lv_topi (fun v9 ev9 => ?_)
      have hF := tc_lt hF ev9
      refine lv_istore_n (lv' := [(3, .int v9), (0, .ref (E 0)), (1, .int a1), (2, .int a2)]) hx hb dX3_hoist_43 rfl hl (by decide) rfl (fun ls hl => ?_)
      refine lv_iload_n hx hb dX3_hoist_44 rfl (lv_at hl 3 rfl) ?_
      refine lv_aload_n hx hb dX3_hoist_45 rfl (lv_at hl 1 rfl) ?_
      refine lv_aload_n hx hb dX3_hoist_46 rfl (lv_at hl 1 rfl) ?_
      refine tc_get (v := .ref (E 12)) hx hb hts hinX3 hown hK (hW.1) (C := RX3) (T := TX3) (N := 15) rfl 12 (by decide) (hts (.fieldLink RX3 34 "TreadCranesModel" "hook" "[I") (List.mem_of_getElem? (i := 3) rfl)) (fun _ h9 => h9) rfl dX3_hoist_47 ?_
      refine lv_iload_n hx hb dX3_hoist_50 rfl (lv_at hl 2 rfl) ?_
      refine tc_iald (f := x1 12) hx hb hK (hW.hi ⟨by decide, by decide⟩) 2 rfl g8 dX3_hoist_51 ?_
      obtain ⟨r10, h11, hF⟩ := tc_bi hF
      refine tc_cr (W.runV (As := [.int (x1 12 a1.toNatClampNeg)]) (rest := [.int a2]) ⟨hx, hb, hml, hown, hts⟩ (mt_X3_high l D cU cO cI A E x1 (x1 12 a1.toNatClampNeg) r10 h11) (cwV 1 hts gX3_hoist_X3_high rfl rfl rfl (by decide +kernel) ⟨Nat.le_of_ble_eq_true rfl, Nat.le_of_ble_eq_true rfl⟩) ⟨fun a U g mk q => ⟨q.1, q.2.1, va_K.moved (Vm.Alike.refl U.vm) q.2.2⟩, tc_rcv (hW.1) hK rfl, fun U hU hW9 => ⟨rfl, by rw [hU]; exact hW, va_K.moved hW9.alike hK⟩⟩ rfl rfl hl.1 rfl (lv_room (Nat.le_of_ble_eq_true rfl)) dX3_hoist_52 ⟨Nat.le_of_ble_eq_true rfl, Nat.le_of_ble_eq_true rfl⟩) ?_
      refine lv_aload_n hx hb dX3_hoist_55 rfl (lv_at hl 1 rfl) ?_
      refine lv_iload_n hx hb dX3_hoist_56 rfl (lv_at hl 2 rfl) ?_
      obtain ⟨r12, h13, hF⟩ := tc_bi hF
      refine tc_cr (W.runV (As := [.int a1]) (rest := [.int r10, .int a2]) ⟨hx, hb, hml, hown, hts⟩ (mt_X3_loaded l D cU cO cI A E x1 a1 r12 h13) (cwV 1 hts gX3_hoist_X3_loaded rfl rfl rfl (by decide +kernel) ⟨Nat.le_of_ble_eq_true rfl, Nat.le_of_ble_eq_true rfl⟩) ⟨fun a U g mk q => ⟨q.1, q.2.1, va_K.moved (Vm.Alike.refl U.vm) q.2.2⟩, tc_rcv (hW.1) hK rfl, fun U hU hW9 => ⟨rfl, by rw [hU]; exact hW, va_K.moved hW9.alike hK⟩⟩ rfl rfl hl.1 rfl (lv_room (Nat.le_of_ble_eq_true rfl)) dX3_hoist_57 ⟨Nat.le_of_ble_eq_true rfl, Nat.le_of_ble_eq_true rfl⟩) ?_
      refine lv_iadd hx hb dX3_hoist_60 ?_
      refine lv_icmp_lt (tgt := 76) hx hb dX3_hoist_61 (by decide) (fun c14 => ?_) (fun c14 => ?_)
      · have hF := tc_it hF c14
        refine lv_aload_n hx hb dX3_hoist_76 rfl (lv_at hl 1 rfl) ?_
        refine lv_iconst (v := 3) hx hb dX3_hoist_77 (by decide) ?_
        obtain ⟨r15, x16, h17, hF⟩ := tc_bi2 hF
        refine tc_cw (va_runV (As := [.int 3]) (rest := []) ⟨hx, hb, hml, hown, hts⟩ (mt_X3_no l D cU cO cI A E x1 3 r15 x16 h17) (cwV 1 hts gX3_hoist_X3_no rfl rfl rfl (by decide +kernel) ⟨Nat.le_of_ble_eq_true rfl, Nat.le_of_ble_eq_true rfl⟩) ⟨fun a U g mk q => ⟨q.1, q.2.1, q.2.2.call⟩, tc_rcv (hW.1) hK rfl, fun U hU hW9 => ⟨rfl, by rw [hU]; exact hW, hKM.go hS hU hW9⟩⟩ rfl rfl hl.1 rfl (lv_room (Nat.le_of_ble_eq_true rfl)) dX3_hoist_78 ⟨Nat.le_of_ble_eq_true rfl, Nat.le_of_ble_eq_true rfl⟩) hS (fun _ _ h => h) (fun _ h => h) (fun H locs hW z1 o1 hS => ?_)
        obtain ⟨h91, h92⟩ := tc_pr2 (Option.some.inj hF)
        refine W.widen (k := 0) (n := 0) (Nat.le_of_ble_eq_true rfl) (Nat.le_of_ble_eq_true rfl) ?_
        exact W.iret hx hb hr (fun t ht hW9 => ⟨⟨by rw [← h91], by rw [← h92, ht]; exact hW⟩, tc_F hS ht⟩) hS.2.2 dX3_hoist_81
      · have hF := tc_if hF c14
        refine lv_iload_n hx hb dX3_hoist_64 rfl (lv_at hl 0 rfl) ?_
        refine lv_if_le (tgt := 82) hx hb dX3_hoist_65 (by decide) (fun c18 => ?_) (fun c18 => ?_)
        · have hF := tc_it hF c18
          refine lv_aload_n hx hb dX3_hoist_82 rfl (lv_at hl 1 rfl) ?_
          refine lv_iload_n hx hb dX3_hoist_83 rfl (lv_at hl 2 rfl) ?_
          refine lv_iload_n hx hb dX3_hoist_84 rfl (lv_at hl 0 rfl) ?_
          refine va_mabs hx hb (by rw [hml]; exact hl.1.symm) hown (hts (.methodLink RX3 61 Lib.Math.abs.name) (List.mem_of_getElem? (i := 4) rfl)) (hts (.static Lib.Math.abs.name) (List.mem_of_getElem? (i := 5) rfl)) (hts (.initialized "java/lang/Math") (List.mem_of_getElem? (i := 6) rfl)) (hts (.code Lib.Math.abs.name Lib.Math.abs.code 1 (some .int)) (List.mem_of_getElem? (i := 7) rfl)) (Nat.le_of_ble_eq_true rfl) (Nat.le_of_ble_eq_true rfl) (Nat.le_of_ble_eq_true rfl) (Nat.le_of_ble_eq_true rfl) dX3_hoist_85 ?_
          refine lv_topi (fun v19 ev19 => ?_)
          have hF := tc_lt hF ev19
          obtain ⟨r20, h21, hF⟩ := tc_bi hF
          refine tc_cr (W.runV (As := [.int a1, .int v19]) (rest := []) ⟨hx, hb, hml, hown, hts⟩ (mt_X3_wound l D cU cO cI A E x1 a1 v19 r20 h21) (cwV 2 hts gX3_hoist_X3_wound rfl rfl rfl (by decide +kernel) ⟨Nat.le_of_ble_eq_true rfl, Nat.le_of_ble_eq_true rfl⟩) ⟨fun a U g mk q => ⟨q.1, q.2.1, va_K.moved (Vm.Alike.refl U.vm) q.2.2⟩, tc_rcv (hW.1) hK rfl, fun U hU hW9 => ⟨rfl, by rw [hU]; exact hW, va_K.moved hW9.alike hK⟩⟩ rfl rfl hl.1 rfl (lv_room (Nat.le_of_ble_eq_true rfl)) dX3_hoist_88 ⟨Nat.le_of_ble_eq_true rfl, Nat.le_of_ble_eq_true rfl⟩) ?_
          refine lv_istore (lv' := [(4, .int r20), (3, .int v9), (0, .ref (E 0)), (1, .int a1), (2, .int a2)]) hx hb dX3_hoist_91 hl (by decide) rfl (fun ls hl => ?_)
          refine lv_iload_n hx hb dX3_hoist_93 rfl (lv_at hl 1 rfl) ?_
          refine lv_if_ge (tgt := 159) hx hb dX3_hoist_94 (by decide) (fun c22 => ?_) (fun c22 => ?_)
          · have hF := tc_it hF c22
            refine lv_aload_n hx hb dX3_hoist_159 rfl (lv_at hl 2 rfl) ?_
            refine tc_get (v := .ref (E 13)) hx hb hts hinX3 hown hK (hW.1) (C := RX3) (T := TX3) (N := 15) rfl 13 (by decide) (hts (.fieldLink RX3 37 "TreadCranesModel" "height" "[I") (List.mem_of_getElem? (i := 2) rfl)) (fun _ h9 => h9) rfl dX3_hoist_160 ?_
            refine lv_iload_n hx hb dX3_hoist_163 rfl (lv_at hl 3 rfl) ?_
            refine lv_iload_n hx hb dX3_hoist_164 rfl (lv_at hl 4 rfl) ?_
            refine tc_iast (f := x1 13) hx hb hK (hW.hi ⟨by decide, by decide⟩) hS (hW.own (Or.inr (Or.inr ⟨by decide, by decide⟩))) 2 rfl g8 dX3_hoist_165 (fun H locs e1 z1 o1 hS => ?_)
            obtain ⟨x23, ex23⟩ : ∃ z : tc_Y, z = tc_ym x1 13 a1.toNatClampNeg a2 := ⟨_, rfl⟩
            have hF := tc_lt hF ex23
            have hW : tc_WM D cI A E x23 H := by rw [ex23]; exact hW.sh ⟨by decide, by decide⟩ e1 o1
            refine lv_aload_n hx hb dX3_hoist_166 rfl (lv_at hl 2 rfl) ?_
            refine lv_dup hx hb dX3_hoist_167 rfl ?_
            refine tc_get (v := .int (x23 1 0)) hx hb hts hinX3 hown hK (hW.1) (C := RX3) (T := TX3) (N := 15) rfl 1 (by decide) (hts (.fieldLink RX3 97 "TreadCranesModel" "ticks" "I") (List.mem_of_getElem? (i := 11) rfl)) (fun _ h9 => h9) rfl dX3_hoist_168 ?_
            refine lv_iload hx hb dX3_hoist_171 (lv_at hl 0 rfl) ?_
            refine lv_iadd hx hb dX3_hoist_173 ?_
            refine tc_put (v := .int ((x23 1 0) + r20)) (ty := .int) hx hb hts hinX3 tyX3 tyX3_ok nmX3 hown hK (hW.1) hS (hW.own (Or.inl rfl)) (C := RX3) (T := TX3) (N := 15) rfl 1 (by decide) (hts (.fieldLink RX3 97 "TreadCranesModel" "ticks" "I") (List.mem_of_getElem? (i := 11) rfl)) (fun _ h9 => h9) rfl (by decide +kernel) rfl rfl (Nat.le_of_ble_eq_true rfl) dX3_hoist_174 (fun H locs e1 z1 o1 hS => ?_)
            obtain ⟨x24, ex24⟩ : ∃ z : tc_Y, z = tc_ym x23 1 0 ((x23 1 0) + r20) := ⟨_, rfl⟩
            have hF := tc_lt hF ex24
            have hW : tc_WM D cI A E x24 H := by rw [ex24]; exact hW.sf (Or.inr (Or.inl rfl)) (by rw [tc_m1]; exact e1) o1
            refine lv_iload hx hb dX3_hoist_177 (lv_at hl 0 rfl) ?_
            obtain ⟨h91, h92⟩ := tc_pr2 (Option.some.inj hF)
            refine W.widen (k := 0) (n := 0) (Nat.le_of_ble_eq_true rfl) (Nat.le_of_ble_eq_true rfl) ?_
            exact W.iret hx hb hr (fun t ht hW9 => ⟨⟨by rw [← h91], by rw [← h92, ht]; exact hW⟩, tc_F hS ht⟩) hS.2.2 dX3_hoist_179
          · have hF := tc_if hF c22
            refine lv_aload_n hx hb dX3_hoist_97 rfl (lv_at hl 2 rfl) ?_
            refine tc_get (v := .ref (E 14)) hx hb hts hinX3 hown hK (hW.1) (C := RX3) (T := TX3) (N := 15) rfl 14 (by decide) (hts (.fieldLink RX3 40 "TreadCranesModel" "load" "[I") (List.mem_of_getElem? (i := 8) rfl)) (fun _ h9 => h9) rfl dX3_hoist_98 ?_
            refine lv_iload_n hx hb dX3_hoist_101 rfl (lv_at hl 3 rfl) ?_
            refine tc_iald (f := x1 14) hx hb hK (hW.hi ⟨by decide, by decide⟩) 2 rfl g8 dX3_hoist_102 ?_
            refine lv_iconst (v := (-1)) hx hb dX3_hoist_103 (by decide) ?_
            refine lv_icmp_eq (tgt := 159) hx hb dX3_hoist_104 (by decide) (fun c25 => ?_) (fun c25 => ?_)
            · have hF := tc_it hF c25
              refine lv_aload_n hx hb dX3_hoist_159 rfl (lv_at hl 2 rfl) ?_
              refine tc_get (v := .ref (E 13)) hx hb hts hinX3 hown hK (hW.1) (C := RX3) (T := TX3) (N := 15) rfl 13 (by decide) (hts (.fieldLink RX3 37 "TreadCranesModel" "height" "[I") (List.mem_of_getElem? (i := 2) rfl)) (fun _ h9 => h9) rfl dX3_hoist_160 ?_
              refine lv_iload_n hx hb dX3_hoist_163 rfl (lv_at hl 3 rfl) ?_
              refine lv_iload_n hx hb dX3_hoist_164 rfl (lv_at hl 4 rfl) ?_
              refine tc_iast (f := x1 13) hx hb hK (hW.hi ⟨by decide, by decide⟩) hS (hW.own (Or.inr (Or.inr ⟨by decide, by decide⟩))) 2 rfl g8 dX3_hoist_165 (fun H locs e1 z1 o1 hS => ?_)
              obtain ⟨x26, ex26⟩ : ∃ z : tc_Y, z = tc_ym x1 13 a1.toNatClampNeg a2 := ⟨_, rfl⟩
              have hF := tc_lt hF ex26
              have hW : tc_WM D cI A E x26 H := by rw [ex26]; exact hW.sh ⟨by decide, by decide⟩ e1 o1
              refine lv_aload_n hx hb dX3_hoist_166 rfl (lv_at hl 2 rfl) ?_
              refine lv_dup hx hb dX3_hoist_167 rfl ?_
              refine tc_get (v := .int (x26 1 0)) hx hb hts hinX3 hown hK (hW.1) (C := RX3) (T := TX3) (N := 15) rfl 1 (by decide) (hts (.fieldLink RX3 97 "TreadCranesModel" "ticks" "I") (List.mem_of_getElem? (i := 11) rfl)) (fun _ h9 => h9) rfl dX3_hoist_168 ?_
              refine lv_iload hx hb dX3_hoist_171 (lv_at hl 0 rfl) ?_
              refine lv_iadd hx hb dX3_hoist_173 ?_
              refine tc_put (v := .int ((x26 1 0) + r20)) (ty := .int) hx hb hts hinX3 tyX3 tyX3_ok nmX3 hown hK (hW.1) hS (hW.own (Or.inl rfl)) (C := RX3) (T := TX3) (N := 15) rfl 1 (by decide) (hts (.fieldLink RX3 97 "TreadCranesModel" "ticks" "I") (List.mem_of_getElem? (i := 11) rfl)) (fun _ h9 => h9) rfl (by decide +kernel) rfl rfl (Nat.le_of_ble_eq_true rfl) dX3_hoist_174 (fun H locs e1 z1 o1 hS => ?_)
              obtain ⟨x27, ex27⟩ : ∃ z : tc_Y, z = tc_ym x26 1 0 ((x26 1 0) + r20) := ⟨_, rfl⟩
              have hF := tc_lt hF ex27
              have hW : tc_WM D cI A E x27 H := by rw [ex27]; exact hW.sf (Or.inr (Or.inl rfl)) (by rw [tc_m1]; exact e1) o1
              refine lv_iload hx hb dX3_hoist_177 (lv_at hl 0 rfl) ?_
              obtain ⟨h91, h92⟩ := tc_pr2 (Option.some.inj hF)
              refine W.widen (k := 0) (n := 0) (Nat.le_of_ble_eq_true rfl) (Nat.le_of_ble_eq_true rfl) ?_
              exact W.iret hx hb hr (fun t ht hW9 => ⟨⟨by rw [← h91], by rw [← h92, ht]; exact hW⟩, tc_F hS ht⟩) hS.2.2 dX3_hoist_179
            · have hF := tc_if hF c25
              refine lv_iload hx hb dX3_hoist_107 (lv_at hl 0 rfl) ?_
              refine lv_aload_n hx hb dX3_hoist_109 rfl (lv_at hl 2 rfl) ?_
              refine tc_get (v := .ref (E 3)) hx hb hts hinX3 hown hK (hW.1) (C := RX3) (T := TX3) (N := 15) rfl 3 (by decide) (hts (.fieldLink RX3 9 "TreadCranesModel" "weight" "[I") (List.mem_of_getElem? (i := 9) rfl)) (fun _ h9 => h9) rfl dX3_hoist_110 ?_
              refine lv_aload_n hx hb dX3_hoist_113 rfl (lv_at hl 2 rfl) ?_
              refine tc_get (v := .ref (E 14)) hx hb hts hinX3 hown hK (hW.1) (C := RX3) (T := TX3) (N := 15) rfl 14 (by decide) (hts (.fieldLink RX3 40 "TreadCranesModel" "load" "[I") (List.mem_of_getElem? (i := 8) rfl)) (fun _ h9 => h9) rfl dX3_hoist_114 ?_
              refine lv_iload_n hx hb dX3_hoist_117 rfl (lv_at hl 3 rfl) ?_
              refine tc_iald (f := x1 14) hx hb hK (hW.hi ⟨by decide, by decide⟩) 2 rfl g8 dX3_hoist_118 ?_
              obtain ⟨g28, hF⟩ := tc_ob hF
              refine tc_iald (f := x1 3) hx hb hK (hW.lo ⟨by decide, by decide⟩) 2 rfl g28 dX3_hoist_119 ?_
              refine lv_bipush (v := 20) hx hb dX3_hoist_120 (by decide) ?_
              refine lv_idiv hx hb dX3_hoist_122 (by decide) ?_
              refine lv_iconst (v := 1) hx hb dX3_hoist_123 (by decide) ?_
              refine lv_iadd hx hb dX3_hoist_124 ?_
              refine lv_imul hx hb dX3_hoist_125 ?_
              refine lv_topi (fun v29 ev29 => ?_)
              have hF := tc_lt hF ev29
              refine lv_istore (lv' := [(5, .int v29), (4, .int r20), (3, .int v9), (0, .ref (E 0)), (1, .int a1), (2, .int a2)]) hx hb dX3_hoist_126 hl (by decide) rfl (fun ls hl => ?_)
              refine lv_aload_n hx hb dX3_hoist_128 rfl (lv_at hl 3 rfl) ?_
              refine tc_get (v := .ref (E 11)) hx hb hts hinX3 hown hK (hW.1) (C := RX3) (T := TX3) (N := 15) rfl 11 (by decide) (hts (.fieldLink RX3 31 "TreadCranesModel" "worn" "[I") (List.mem_of_getElem? (i := 10) rfl)) (fun _ h9 => h9) rfl dX3_hoist_129 ?_
              refine lv_iload_n hx hb dX3_hoist_132 rfl (lv_at hl 4 rfl) ?_
              refine tc_iald (f := x1 11) hx hb hK (hW.hi ⟨by decide, by decide⟩) 2 rfl g8 dX3_hoist_133 ?_
              refine lv_iload hx hb dX3_hoist_134 (lv_at hl 0 rfl) ?_
              refine lv_iadd hx hb dX3_hoist_136 ?_
              refine lv_bipush (v := 99) hx hb dX3_hoist_137 (by decide) ?_
              refine lv_icmp_le (tgt := 148) hx hb dX3_hoist_139 (by decide) (fun c30 => ?_) (fun c30 => ?_)
              · have hF := tc_it hF c30
                refine lv_aload_n hx hb dX3_hoist_148 rfl (lv_at hl 3 rfl) ?_
                refine tc_get (v := .ref (E 11)) hx hb hts hinX3 hown hK (hW.1) (C := RX3) (T := TX3) (N := 15) rfl 11 (by decide) (hts (.fieldLink RX3 31 "TreadCranesModel" "worn" "[I") (List.mem_of_getElem? (i := 10) rfl)) (fun _ h9 => h9) rfl dX3_hoist_149 ?_
                refine lv_iload_n hx hb dX3_hoist_152 rfl (lv_at hl 4 rfl) ?_
                refine lv_dup2_11 hx hb dX3_hoist_153 rfl rfl ?_
                refine tc_iald (f := x1 11) hx hb hK (hW.hi ⟨by decide, by decide⟩) 2 rfl g8 dX3_hoist_154 ?_
                refine lv_iload hx hb dX3_hoist_155 (lv_at hl 0 rfl) ?_
                refine lv_iadd hx hb dX3_hoist_157 ?_
                refine tc_iast (f := x1 11) hx hb hK (hW.hi ⟨by decide, by decide⟩) hS (hW.own (Or.inr (Or.inr ⟨by decide, by decide⟩))) 2 rfl g8 dX3_hoist_158 (fun H locs e1 z1 o1 hS => ?_)
                obtain ⟨x31, ex31⟩ : ∃ z : tc_Y, z = tc_ym x1 11 a1.toNatClampNeg ((x1 11 a1.toNatClampNeg) + v29) := ⟨_, rfl⟩
                have hF := tc_lt hF ex31
                have hW : tc_WM D cI A E x31 H := by rw [ex31]; exact hW.sh ⟨by decide, by decide⟩ e1 o1
                refine lv_aload_n hx hb dX3_hoist_159 rfl (lv_at hl 3 rfl) ?_
                refine tc_get (v := .ref (E 13)) hx hb hts hinX3 hown hK (hW.1) (C := RX3) (T := TX3) (N := 15) rfl 13 (by decide) (hts (.fieldLink RX3 37 "TreadCranesModel" "height" "[I") (List.mem_of_getElem? (i := 2) rfl)) (fun _ h9 => h9) rfl dX3_hoist_160 ?_
                refine lv_iload_n hx hb dX3_hoist_163 rfl (lv_at hl 4 rfl) ?_
                refine lv_iload_n hx hb dX3_hoist_164 rfl (lv_at hl 5 rfl) ?_
                refine tc_iast (f := x31 13) hx hb hK (hW.hi ⟨by decide, by decide⟩) hS (hW.own (Or.inr (Or.inr ⟨by decide, by decide⟩))) 2 rfl g8 dX3_hoist_165 (fun H locs e1 z1 o1 hS => ?_)
                obtain ⟨x32, ex32⟩ : ∃ z : tc_Y, z = tc_ym x31 13 a1.toNatClampNeg a2 := ⟨_, rfl⟩
                have hF := tc_lt hF ex32
                have hW : tc_WM D cI A E x32 H := by rw [ex32]; exact hW.sh ⟨by decide, by decide⟩ e1 o1
                refine lv_aload_n hx hb dX3_hoist_166 rfl (lv_at hl 3 rfl) ?_
                refine lv_dup hx hb dX3_hoist_167 rfl ?_
                refine tc_get (v := .int (x32 1 0)) hx hb hts hinX3 hown hK (hW.1) (C := RX3) (T := TX3) (N := 15) rfl 1 (by decide) (hts (.fieldLink RX3 97 "TreadCranesModel" "ticks" "I") (List.mem_of_getElem? (i := 11) rfl)) (fun _ h9 => h9) rfl dX3_hoist_168 ?_
                refine lv_iload hx hb dX3_hoist_171 (lv_at hl 1 rfl) ?_
                refine lv_iadd hx hb dX3_hoist_173 ?_
                refine tc_put (v := .int ((x32 1 0) + r20)) (ty := .int) hx hb hts hinX3 tyX3 tyX3_ok nmX3 hown hK (hW.1) hS (hW.own (Or.inl rfl)) (C := RX3) (T := TX3) (N := 15) rfl 1 (by decide) (hts (.fieldLink RX3 97 "TreadCranesModel" "ticks" "I") (List.mem_of_getElem? (i := 11) rfl)) (fun _ h9 => h9) rfl (by decide +kernel) rfl rfl (Nat.le_of_ble_eq_true rfl) dX3_hoist_174 (fun H locs e1 z1 o1 hS => ?_)
                obtain ⟨x33, ex33⟩ : ∃ z : tc_Y, z = tc_ym x32 1 0 ((x32 1 0) + r20) := ⟨_, rfl⟩
                have hF := tc_lt hF ex33
                have hW : tc_WM D cI A E x33 H := by rw [ex33]; exact hW.sf (Or.inr (Or.inl rfl)) (by rw [tc_m1]; exact e1) o1
                refine lv_iload hx hb dX3_hoist_177 (lv_at hl 1 rfl) ?_
                obtain ⟨h91, h92⟩ := tc_pr2 (Option.some.inj hF)
                refine W.widen (k := 0) (n := 0) (Nat.le_of_ble_eq_true rfl) (Nat.le_of_ble_eq_true rfl) ?_
                exact W.iret hx hb hr (fun t ht hW9 => ⟨⟨by rw [← h91], by rw [← h92, ht]; exact hW⟩, tc_F hS ht⟩) hS.2.2 dX3_hoist_179
              · have hF := tc_if hF c30
                refine lv_aload_n hx hb dX3_hoist_142 rfl (lv_at hl 3 rfl) ?_
                refine lv_iload_n hx hb dX3_hoist_143 rfl (lv_at hl 4 rfl) ?_
                obtain ⟨r34, x35, h36, hF⟩ := tc_bi2 hF
                refine tc_cw (va_runV (As := [.int a1]) (rest := []) ⟨hx, hb, hml, hown, hts⟩ (mt_X3_fall l D cU cO cI A E x1 a1 r34 x35 h36) (cwV 1 hts gX3_hoist_X3_fall rfl rfl rfl (by decide +kernel) ⟨Nat.le_of_ble_eq_true rfl, Nat.le_of_ble_eq_true rfl⟩) ⟨fun a U g mk q => ⟨q.1, q.2.1, q.2.2.call⟩, tc_rcv (hW.1) hK rfl, fun U hU hW9 => ⟨rfl, by rw [hU]; exact hW, hKM.go hS hU hW9⟩⟩ rfl rfl hl.1 rfl (lv_room (Nat.le_of_ble_eq_true rfl)) dX3_hoist_144 ⟨Nat.le_of_ble_eq_true rfl, Nat.le_of_ble_eq_true rfl⟩) hS (fun _ _ h => h) (fun _ h => h) (fun H locs hW z1 o1 hS => ?_)
                obtain ⟨h91, h92⟩ := tc_pr2 (Option.some.inj hF)
                refine W.widen (k := 0) (n := 0) (Nat.le_of_ble_eq_true rfl) (Nat.le_of_ble_eq_true rfl) ?_
                exact W.iret hx hb hr (fun t ht hW9 => ⟨⟨by rw [← h91], by rw [← h92, ht]; exact hW⟩, tc_F hS ht⟩) hS.2.2 dX3_hoist_147
        · have hF := tc_if hF c18
          refine lv_aload_n hx hb dX3_hoist_68 rfl (lv_at hl 1 rfl) ?_
          refine lv_iload_n hx hb dX3_hoist_69 rfl (lv_at hl 2 rfl) ?_
          obtain ⟨r37, h38, hF⟩ := tc_bi hF
          refine tc_cr (W.runV (As := [.int a1]) (rest := []) ⟨hx, hb, hml, hown, hts⟩ (mt_X3_canLift l D cU cO cI A E x1 a1 r37 h38) (cwV 1 hts gX3_hoist_X3_canLift rfl rfl rfl (by decide +kernel) ⟨Nat.le_of_ble_eq_true rfl, Nat.le_of_ble_eq_true rfl⟩) ⟨fun a U g mk q => ⟨q.1, q.2.1, va_K.moved (Vm.Alike.refl U.vm) q.2.2⟩, tc_rcv (hW.1) hK rfl, fun U hU hW9 => ⟨rfl, by rw [hU]; exact hW, va_K.moved hW9.alike hK⟩⟩ rfl rfl hl.1 rfl (lv_room (Nat.le_of_ble_eq_true rfl)) dX3_hoist_70 ⟨Nat.le_of_ble_eq_true rfl, Nat.le_of_ble_eq_true rfl⟩) ?_
          refine lv_if_ne (tgt := 82) hx hb dX3_hoist_73 (by decide) (fun c39 => ?_) (fun c39 => ?_)
          · have hF := tc_if hF c39
            refine lv_aload_n hx hb dX3_hoist_82 rfl (lv_at hl 1 rfl) ?_
            refine lv_iload_n hx hb dX3_hoist_83 rfl (lv_at hl 2 rfl) ?_
            refine lv_iload_n hx hb dX3_hoist_84 rfl (lv_at hl 0 rfl) ?_
            refine va_mabs hx hb (by rw [hml]; exact hl.1.symm) hown (hts (.methodLink RX3 61 Lib.Math.abs.name) (List.mem_of_getElem? (i := 4) rfl)) (hts (.static Lib.Math.abs.name) (List.mem_of_getElem? (i := 5) rfl)) (hts (.initialized "java/lang/Math") (List.mem_of_getElem? (i := 6) rfl)) (hts (.code Lib.Math.abs.name Lib.Math.abs.code 1 (some .int)) (List.mem_of_getElem? (i := 7) rfl)) (Nat.le_of_ble_eq_true rfl) (Nat.le_of_ble_eq_true rfl) (Nat.le_of_ble_eq_true rfl) (Nat.le_of_ble_eq_true rfl) dX3_hoist_85 ?_
            refine lv_topi (fun v40 ev40 => ?_)
            have hF := tc_lt hF ev40
            obtain ⟨r41, h42, hF⟩ := tc_bi hF
            refine tc_cr (W.runV (As := [.int a1, .int v40]) (rest := []) ⟨hx, hb, hml, hown, hts⟩ (mt_X3_wound l D cU cO cI A E x1 a1 v40 r41 h42) (cwV 2 hts gX3_hoist_X3_wound rfl rfl rfl (by decide +kernel) ⟨Nat.le_of_ble_eq_true rfl, Nat.le_of_ble_eq_true rfl⟩) ⟨fun a U g mk q => ⟨q.1, q.2.1, va_K.moved (Vm.Alike.refl U.vm) q.2.2⟩, tc_rcv (hW.1) hK rfl, fun U hU hW9 => ⟨rfl, by rw [hU]; exact hW, va_K.moved hW9.alike hK⟩⟩ rfl rfl hl.1 rfl (lv_room (Nat.le_of_ble_eq_true rfl)) dX3_hoist_88 ⟨Nat.le_of_ble_eq_true rfl, Nat.le_of_ble_eq_true rfl⟩) ?_
            refine lv_istore (lv' := [(4, .int r41), (3, .int v9), (0, .ref (E 0)), (1, .int a1), (2, .int a2)]) hx hb dX3_hoist_91 hl (by decide) rfl (fun ls hl => ?_)
            refine lv_iload_n hx hb dX3_hoist_93 rfl (lv_at hl 1 rfl) ?_
            refine lv_if_ge (tgt := 159) hx hb dX3_hoist_94 (by decide) (fun c43 => ?_) (fun c43 => ?_)
            · have hF := tc_it hF c43
              refine lv_aload_n hx hb dX3_hoist_159 rfl (lv_at hl 2 rfl) ?_
              refine tc_get (v := .ref (E 13)) hx hb hts hinX3 hown hK (hW.1) (C := RX3) (T := TX3) (N := 15) rfl 13 (by decide) (hts (.fieldLink RX3 37 "TreadCranesModel" "height" "[I") (List.mem_of_getElem? (i := 2) rfl)) (fun _ h9 => h9) rfl dX3_hoist_160 ?_
              refine lv_iload_n hx hb dX3_hoist_163 rfl (lv_at hl 3 rfl) ?_
              refine lv_iload_n hx hb dX3_hoist_164 rfl (lv_at hl 4 rfl) ?_
              refine tc_iast (f := x1 13) hx hb hK (hW.hi ⟨by decide, by decide⟩) hS (hW.own (Or.inr (Or.inr ⟨by decide, by decide⟩))) 2 rfl g8 dX3_hoist_165 (fun H locs e1 z1 o1 hS => ?_)
              obtain ⟨x44, ex44⟩ : ∃ z : tc_Y, z = tc_ym x1 13 a1.toNatClampNeg a2 := ⟨_, rfl⟩
              have hF := tc_lt hF ex44
              have hW : tc_WM D cI A E x44 H := by rw [ex44]; exact hW.sh ⟨by decide, by decide⟩ e1 o1
              refine lv_aload_n hx hb dX3_hoist_166 rfl (lv_at hl 2 rfl) ?_
              refine lv_dup hx hb dX3_hoist_167 rfl ?_
              refine tc_get (v := .int (x44 1 0)) hx hb hts hinX3 hown hK (hW.1) (C := RX3) (T := TX3) (N := 15) rfl 1 (by decide) (hts (.fieldLink RX3 97 "TreadCranesModel" "ticks" "I") (List.mem_of_getElem? (i := 11) rfl)) (fun _ h9 => h9) rfl dX3_hoist_168 ?_
              refine lv_iload hx hb dX3_hoist_171 (lv_at hl 0 rfl) ?_
              refine lv_iadd hx hb dX3_hoist_173 ?_
              refine tc_put (v := .int ((x44 1 0) + r41)) (ty := .int) hx hb hts hinX3 tyX3 tyX3_ok nmX3 hown hK (hW.1) hS (hW.own (Or.inl rfl)) (C := RX3) (T := TX3) (N := 15) rfl 1 (by decide) (hts (.fieldLink RX3 97 "TreadCranesModel" "ticks" "I") (List.mem_of_getElem? (i := 11) rfl)) (fun _ h9 => h9) rfl (by decide +kernel) rfl rfl (Nat.le_of_ble_eq_true rfl) dX3_hoist_174 (fun H locs e1 z1 o1 hS => ?_)
              obtain ⟨x45, ex45⟩ : ∃ z : tc_Y, z = tc_ym x44 1 0 ((x44 1 0) + r41) := ⟨_, rfl⟩
              have hF := tc_lt hF ex45
              have hW : tc_WM D cI A E x45 H := by rw [ex45]; exact hW.sf (Or.inr (Or.inl rfl)) (by rw [tc_m1]; exact e1) o1
              refine lv_iload hx hb dX3_hoist_177 (lv_at hl 0 rfl) ?_
              obtain ⟨h91, h92⟩ := tc_pr2 (Option.some.inj hF)
              refine W.widen (k := 0) (n := 0) (Nat.le_of_ble_eq_true rfl) (Nat.le_of_ble_eq_true rfl) ?_
              exact W.iret hx hb hr (fun t ht hW9 => ⟨⟨by rw [← h91], by rw [← h92, ht]; exact hW⟩, tc_F hS ht⟩) hS.2.2 dX3_hoist_179
            · have hF := tc_if hF c43
              refine lv_aload_n hx hb dX3_hoist_97 rfl (lv_at hl 2 rfl) ?_
              refine tc_get (v := .ref (E 14)) hx hb hts hinX3 hown hK (hW.1) (C := RX3) (T := TX3) (N := 15) rfl 14 (by decide) (hts (.fieldLink RX3 40 "TreadCranesModel" "load" "[I") (List.mem_of_getElem? (i := 8) rfl)) (fun _ h9 => h9) rfl dX3_hoist_98 ?_
              refine lv_iload_n hx hb dX3_hoist_101 rfl (lv_at hl 3 rfl) ?_
              refine tc_iald (f := x1 14) hx hb hK (hW.hi ⟨by decide, by decide⟩) 2 rfl g8 dX3_hoist_102 ?_
              refine lv_iconst (v := (-1)) hx hb dX3_hoist_103 (by decide) ?_
              refine lv_icmp_eq (tgt := 159) hx hb dX3_hoist_104 (by decide) (fun c46 => ?_) (fun c46 => ?_)
              · have hF := tc_it hF c46
                refine lv_aload_n hx hb dX3_hoist_159 rfl (lv_at hl 2 rfl) ?_
                refine tc_get (v := .ref (E 13)) hx hb hts hinX3 hown hK (hW.1) (C := RX3) (T := TX3) (N := 15) rfl 13 (by decide) (hts (.fieldLink RX3 37 "TreadCranesModel" "height" "[I") (List.mem_of_getElem? (i := 2) rfl)) (fun _ h9 => h9) rfl dX3_hoist_160 ?_
                refine lv_iload_n hx hb dX3_hoist_163 rfl (lv_at hl 3 rfl) ?_
                refine lv_iload_n hx hb dX3_hoist_164 rfl (lv_at hl 4 rfl) ?_
                refine tc_iast (f := x1 13) hx hb hK (hW.hi ⟨by decide, by decide⟩) hS (hW.own (Or.inr (Or.inr ⟨by decide, by decide⟩))) 2 rfl g8 dX3_hoist_165 (fun H locs e1 z1 o1 hS => ?_)
                obtain ⟨x47, ex47⟩ : ∃ z : tc_Y, z = tc_ym x1 13 a1.toNatClampNeg a2 := ⟨_, rfl⟩
                have hF := tc_lt hF ex47
                have hW : tc_WM D cI A E x47 H := by rw [ex47]; exact hW.sh ⟨by decide, by decide⟩ e1 o1
                refine lv_aload_n hx hb dX3_hoist_166 rfl (lv_at hl 2 rfl) ?_
                refine lv_dup hx hb dX3_hoist_167 rfl ?_
                refine tc_get (v := .int (x47 1 0)) hx hb hts hinX3 hown hK (hW.1) (C := RX3) (T := TX3) (N := 15) rfl 1 (by decide) (hts (.fieldLink RX3 97 "TreadCranesModel" "ticks" "I") (List.mem_of_getElem? (i := 11) rfl)) (fun _ h9 => h9) rfl dX3_hoist_168 ?_
                refine lv_iload hx hb dX3_hoist_171 (lv_at hl 0 rfl) ?_
                refine lv_iadd hx hb dX3_hoist_173 ?_
                refine tc_put (v := .int ((x47 1 0) + r41)) (ty := .int) hx hb hts hinX3 tyX3 tyX3_ok nmX3 hown hK (hW.1) hS (hW.own (Or.inl rfl)) (C := RX3) (T := TX3) (N := 15) rfl 1 (by decide) (hts (.fieldLink RX3 97 "TreadCranesModel" "ticks" "I") (List.mem_of_getElem? (i := 11) rfl)) (fun _ h9 => h9) rfl (by decide +kernel) rfl rfl (Nat.le_of_ble_eq_true rfl) dX3_hoist_174 (fun H locs e1 z1 o1 hS => ?_)
                obtain ⟨x48, ex48⟩ : ∃ z : tc_Y, z = tc_ym x47 1 0 ((x47 1 0) + r41) := ⟨_, rfl⟩
                have hF := tc_lt hF ex48
                have hW : tc_WM D cI A E x48 H := by rw [ex48]; exact hW.sf (Or.inr (Or.inl rfl)) (by rw [tc_m1]; exact e1) o1
                refine lv_iload hx hb dX3_hoist_177 (lv_at hl 0 rfl) ?_
                obtain ⟨h91, h92⟩ := tc_pr2 (Option.some.inj hF)
                refine W.widen (k := 0) (n := 0) (Nat.le_of_ble_eq_true rfl) (Nat.le_of_ble_eq_true rfl) ?_
                exact W.iret hx hb hr (fun t ht hW9 => ⟨⟨by rw [← h91], by rw [← h92, ht]; exact hW⟩, tc_F hS ht⟩) hS.2.2 dX3_hoist_179
              · have hF := tc_if hF c46
                refine lv_iload hx hb dX3_hoist_107 (lv_at hl 0 rfl) ?_
                refine lv_aload_n hx hb dX3_hoist_109 rfl (lv_at hl 2 rfl) ?_
                refine tc_get (v := .ref (E 3)) hx hb hts hinX3 hown hK (hW.1) (C := RX3) (T := TX3) (N := 15) rfl 3 (by decide) (hts (.fieldLink RX3 9 "TreadCranesModel" "weight" "[I") (List.mem_of_getElem? (i := 9) rfl)) (fun _ h9 => h9) rfl dX3_hoist_110 ?_
                refine lv_aload_n hx hb dX3_hoist_113 rfl (lv_at hl 2 rfl) ?_
                refine tc_get (v := .ref (E 14)) hx hb hts hinX3 hown hK (hW.1) (C := RX3) (T := TX3) (N := 15) rfl 14 (by decide) (hts (.fieldLink RX3 40 "TreadCranesModel" "load" "[I") (List.mem_of_getElem? (i := 8) rfl)) (fun _ h9 => h9) rfl dX3_hoist_114 ?_
                refine lv_iload_n hx hb dX3_hoist_117 rfl (lv_at hl 3 rfl) ?_
                refine tc_iald (f := x1 14) hx hb hK (hW.hi ⟨by decide, by decide⟩) 2 rfl g8 dX3_hoist_118 ?_
                obtain ⟨g49, hF⟩ := tc_ob hF
                refine tc_iald (f := x1 3) hx hb hK (hW.lo ⟨by decide, by decide⟩) 2 rfl g49 dX3_hoist_119 ?_
                refine lv_bipush (v := 20) hx hb dX3_hoist_120 (by decide) ?_
                refine lv_idiv hx hb dX3_hoist_122 (by decide) ?_
                refine lv_iconst (v := 1) hx hb dX3_hoist_123 (by decide) ?_
                refine lv_iadd hx hb dX3_hoist_124 ?_
                refine lv_imul hx hb dX3_hoist_125 ?_
                refine lv_topi (fun v50 ev50 => ?_)
                have hF := tc_lt hF ev50
                refine lv_istore (lv' := [(5, .int v50), (4, .int r41), (3, .int v9), (0, .ref (E 0)), (1, .int a1), (2, .int a2)]) hx hb dX3_hoist_126 hl (by decide) rfl (fun ls hl => ?_)
                refine lv_aload_n hx hb dX3_hoist_128 rfl (lv_at hl 3 rfl) ?_
                refine tc_get (v := .ref (E 11)) hx hb hts hinX3 hown hK (hW.1) (C := RX3) (T := TX3) (N := 15) rfl 11 (by decide) (hts (.fieldLink RX3 31 "TreadCranesModel" "worn" "[I") (List.mem_of_getElem? (i := 10) rfl)) (fun _ h9 => h9) rfl dX3_hoist_129 ?_
                refine lv_iload_n hx hb dX3_hoist_132 rfl (lv_at hl 4 rfl) ?_
                refine tc_iald (f := x1 11) hx hb hK (hW.hi ⟨by decide, by decide⟩) 2 rfl g8 dX3_hoist_133 ?_
                refine lv_iload hx hb dX3_hoist_134 (lv_at hl 0 rfl) ?_
                refine lv_iadd hx hb dX3_hoist_136 ?_
                refine lv_bipush (v := 99) hx hb dX3_hoist_137 (by decide) ?_
                refine lv_icmp_le (tgt := 148) hx hb dX3_hoist_139 (by decide) (fun c51 => ?_) (fun c51 => ?_)
                · have hF := tc_it hF c51
                  refine lv_aload_n hx hb dX3_hoist_148 rfl (lv_at hl 3 rfl) ?_
                  refine tc_get (v := .ref (E 11)) hx hb hts hinX3 hown hK (hW.1) (C := RX3) (T := TX3) (N := 15) rfl 11 (by decide) (hts (.fieldLink RX3 31 "TreadCranesModel" "worn" "[I") (List.mem_of_getElem? (i := 10) rfl)) (fun _ h9 => h9) rfl dX3_hoist_149 ?_
                  refine lv_iload_n hx hb dX3_hoist_152 rfl (lv_at hl 4 rfl) ?_
                  refine lv_dup2_11 hx hb dX3_hoist_153 rfl rfl ?_
                  refine tc_iald (f := x1 11) hx hb hK (hW.hi ⟨by decide, by decide⟩) 2 rfl g8 dX3_hoist_154 ?_
                  refine lv_iload hx hb dX3_hoist_155 (lv_at hl 0 rfl) ?_
                  refine lv_iadd hx hb dX3_hoist_157 ?_
                  refine tc_iast (f := x1 11) hx hb hK (hW.hi ⟨by decide, by decide⟩) hS (hW.own (Or.inr (Or.inr ⟨by decide, by decide⟩))) 2 rfl g8 dX3_hoist_158 (fun H locs e1 z1 o1 hS => ?_)
                  obtain ⟨x52, ex52⟩ : ∃ z : tc_Y, z = tc_ym x1 11 a1.toNatClampNeg ((x1 11 a1.toNatClampNeg) + v50) := ⟨_, rfl⟩
                  have hF := tc_lt hF ex52
                  have hW : tc_WM D cI A E x52 H := by rw [ex52]; exact hW.sh ⟨by decide, by decide⟩ e1 o1
                  refine lv_aload_n hx hb dX3_hoist_159 rfl (lv_at hl 3 rfl) ?_
                  refine tc_get (v := .ref (E 13)) hx hb hts hinX3 hown hK (hW.1) (C := RX3) (T := TX3) (N := 15) rfl 13 (by decide) (hts (.fieldLink RX3 37 "TreadCranesModel" "height" "[I") (List.mem_of_getElem? (i := 2) rfl)) (fun _ h9 => h9) rfl dX3_hoist_160 ?_
                  refine lv_iload_n hx hb dX3_hoist_163 rfl (lv_at hl 4 rfl) ?_
                  refine lv_iload_n hx hb dX3_hoist_164 rfl (lv_at hl 5 rfl) ?_
                  refine tc_iast (f := x52 13) hx hb hK (hW.hi ⟨by decide, by decide⟩) hS (hW.own (Or.inr (Or.inr ⟨by decide, by decide⟩))) 2 rfl g8 dX3_hoist_165 (fun H locs e1 z1 o1 hS => ?_)
                  obtain ⟨x53, ex53⟩ : ∃ z : tc_Y, z = tc_ym x52 13 a1.toNatClampNeg a2 := ⟨_, rfl⟩
                  have hF := tc_lt hF ex53
                  have hW : tc_WM D cI A E x53 H := by rw [ex53]; exact hW.sh ⟨by decide, by decide⟩ e1 o1
                  refine lv_aload_n hx hb dX3_hoist_166 rfl (lv_at hl 3 rfl) ?_
                  refine lv_dup hx hb dX3_hoist_167 rfl ?_
                  refine tc_get (v := .int (x53 1 0)) hx hb hts hinX3 hown hK (hW.1) (C := RX3) (T := TX3) (N := 15) rfl 1 (by decide) (hts (.fieldLink RX3 97 "TreadCranesModel" "ticks" "I") (List.mem_of_getElem? (i := 11) rfl)) (fun _ h9 => h9) rfl dX3_hoist_168 ?_
                  refine lv_iload hx hb dX3_hoist_171 (lv_at hl 1 rfl) ?_
                  refine lv_iadd hx hb dX3_hoist_173 ?_
                  refine tc_put (v := .int ((x53 1 0) + r41)) (ty := .int) hx hb hts hinX3 tyX3 tyX3_ok nmX3 hown hK (hW.1) hS (hW.own (Or.inl rfl)) (C := RX3) (T := TX3) (N := 15) rfl 1 (by decide) (hts (.fieldLink RX3 97 "TreadCranesModel" "ticks" "I") (List.mem_of_getElem? (i := 11) rfl)) (fun _ h9 => h9) rfl (by decide +kernel) rfl rfl (Nat.le_of_ble_eq_true rfl) dX3_hoist_174 (fun H locs e1 z1 o1 hS => ?_)
                  obtain ⟨x54, ex54⟩ : ∃ z : tc_Y, z = tc_ym x53 1 0 ((x53 1 0) + r41) := ⟨_, rfl⟩
                  have hF := tc_lt hF ex54
                  have hW : tc_WM D cI A E x54 H := by rw [ex54]; exact hW.sf (Or.inr (Or.inl rfl)) (by rw [tc_m1]; exact e1) o1
                  refine lv_iload hx hb dX3_hoist_177 (lv_at hl 1 rfl) ?_
                  obtain ⟨h91, h92⟩ := tc_pr2 (Option.some.inj hF)
                  refine W.widen (k := 0) (n := 0) (Nat.le_of_ble_eq_true rfl) (Nat.le_of_ble_eq_true rfl) ?_
                  exact W.iret hx hb hr (fun t ht hW9 => ⟨⟨by rw [← h91], by rw [← h92, ht]; exact hW⟩, tc_F hS ht⟩) hS.2.2 dX3_hoist_179
                · have hF := tc_if hF c51
                  refine lv_aload_n hx hb dX3_hoist_142 rfl (lv_at hl 3 rfl) ?_
                  refine lv_iload_n hx hb dX3_hoist_143 rfl (lv_at hl 4 rfl) ?_
                  obtain ⟨r55, x56, h57, hF⟩ := tc_bi2 hF
                  refine tc_cw (va_runV (As := [.int a1]) (rest := []) ⟨hx, hb, hml, hown, hts⟩ (mt_X3_fall l D cU cO cI A E x1 a1 r55 x56 h57) (cwV 1 hts gX3_hoist_X3_fall rfl rfl rfl (by decide +kernel) ⟨Nat.le_of_ble_eq_true rfl, Nat.le_of_ble_eq_true rfl⟩) ⟨fun a U g mk q => ⟨q.1, q.2.1, q.2.2.call⟩, tc_rcv (hW.1) hK rfl, fun U hU hW9 => ⟨rfl, by rw [hU]; exact hW, hKM.go hS hU hW9⟩⟩ rfl rfl hl.1 rfl (lv_room (Nat.le_of_ble_eq_true rfl)) dX3_hoist_144 ⟨Nat.le_of_ble_eq_true rfl, Nat.le_of_ble_eq_true rfl⟩) hS (fun _ _ h => h) (fun _ h => h) (fun H locs hW z1 o1 hS => ?_)
                  obtain ⟨h91, h92⟩ := tc_pr2 (Option.some.inj hF)
                  refine W.widen (k := 0) (n := 0) (Nat.le_of_ble_eq_true rfl) (Nat.le_of_ble_eq_true rfl) ?_
                  exact W.iret hx hb hr (fun t ht hW9 => ⟨⟨by rw [← h91], by rw [← h92, ht]; exact hW⟩, tc_F hS ht⟩) hS.2.2 dX3_hoist_147
          · have hF := tc_it hF c39
            refine lv_aload_n hx hb dX3_hoist_76 rfl (lv_at hl 1 rfl) ?_
            refine lv_iconst (v := 3) hx hb dX3_hoist_77 (by decide) ?_
            obtain ⟨r58, x59, h60, hF⟩ := tc_bi2 hF
            refine tc_cw (va_runV (As := [.int 3]) (rest := []) ⟨hx, hb, hml, hown, hts⟩ (mt_X3_no l D cU cO cI A E x1 3 r58 x59 h60) (cwV 1 hts gX3_hoist_X3_no rfl rfl rfl (by decide +kernel) ⟨Nat.le_of_ble_eq_true rfl, Nat.le_of_ble_eq_true rfl⟩) ⟨fun a U g mk q => ⟨q.1, q.2.1, q.2.2.call⟩, tc_rcv (hW.1) hK rfl, fun U hU hW9 => ⟨rfl, by rw [hU]; exact hW, hKM.go hS hU hW9⟩⟩ rfl rfl hl.1 rfl (lv_room (Nat.le_of_ble_eq_true rfl)) dX3_hoist_78 ⟨Nat.le_of_ble_eq_true rfl, Nat.le_of_ble_eq_true rfl⟩) hS (fun _ _ h => h) (fun _ h => h) (fun H locs hW z1 o1 hS => ?_)
            obtain ⟨h91, h92⟩ := tc_pr2 (Option.some.inj hF)
            refine W.widen (k := 0) (n := 0) (Nat.le_of_ble_eq_true rfl) (Nat.le_of_ble_eq_true rfl) ?_
            exact W.iret hx hb hr (fun t ht hW9 => ⟨⟨by rw [← h91], by rw [← h92, ht]; exact hW⟩, tc_F hS ht⟩) hS.2.2 dX3_hoist_81
    · have hF := tc_it hF c7
      refine lv_aload_n hx hb dX3_hoist_29 rfl (lv_at hl 0 rfl) ?_
      refine lv_iconst (v := 2) hx hb dX3_hoist_30 (by decide) ?_
      obtain ⟨r61, x62, h63, hF⟩ := tc_bi2 hF
      refine tc_cw (va_runV (As := [.int 2]) (rest := []) ⟨hx, hb, hml, hown, hts⟩ (mt_X3_no l D cU cO cI A E x1 2 r61 x62 h63) (cwV 1 hts gX3_hoist_X3_no rfl rfl rfl (by decide +kernel) ⟨Nat.le_of_ble_eq_true rfl, Nat.le_of_ble_eq_true rfl⟩) ⟨fun a U g mk q => ⟨q.1, q.2.1, q.2.2.call⟩, tc_rcv (hW.1) hK rfl, fun U hU hW9 => ⟨rfl, by rw [hU]; exact hW, hKM.go hS hU hW9⟩⟩ rfl rfl hl.1 rfl (lv_room (Nat.le_of_ble_eq_true rfl)) dX3_hoist_31 ⟨Nat.le_of_ble_eq_true rfl, Nat.le_of_ble_eq_true rfl⟩) hS (fun _ _ h => h) (fun _ h => h) (fun H locs hW z1 o1 hS => ?_)
      obtain ⟨h91, h92⟩ := tc_pr2 (Option.some.inj hF)
      refine W.widen (k := 0) (n := 0) (Nat.le_of_ble_eq_true rfl) (Nat.le_of_ble_eq_true rfl) ?_
      exact W.iret hx hb hr (fun t ht hW9 => ⟨⟨by rw [← h91], by rw [← h92, ht]; exact hW⟩, tc_F hS ht⟩) hS.2.2 dX3_hoist_34
  · have hF := tc_it hF c4
    refine lv_aload_n hx hb dX3_hoist_13 rfl (lv_at hl 0 rfl) ?_
    refine lv_iconst (v := 1) hx hb dX3_hoist_14 (by decide) ?_
    obtain ⟨r64, x65, h66, hF⟩ := tc_bi2 hF
    refine tc_cw (va_runV (As := [.int 1]) (rest := []) ⟨hx, hb, hml, hown, hts⟩ (mt_X3_no l D cU cO cI A E x1 1 r64 x65 h66) (cwV 1 hts gX3_hoist_X3_no rfl rfl rfl (by decide +kernel) ⟨Nat.le_of_ble_eq_true rfl, Nat.le_of_ble_eq_true rfl⟩) ⟨fun a U g mk q => ⟨q.1, q.2.1, q.2.2.call⟩, tc_rcv (hW.1) hK rfl, fun U hU hW9 => ⟨rfl, by rw [hU]; exact hW, hKM.go hS hU hW9⟩⟩ rfl rfl hl.1 rfl (lv_room (Nat.le_of_ble_eq_true rfl)) dX3_hoist_15 ⟨Nat.le_of_ble_eq_true rfl, Nat.le_of_ble_eq_true rfl⟩) hS (fun _ _ h => h) (fun _ h => h) (fun H locs hW z1 o1 hS => ?_)
    obtain ⟨h91, h92⟩ := tc_pr2 (Option.some.inj hF)
    refine W.widen (k := 0) (n := 0) (Nat.le_of_ble_eq_true rfl) (Nat.le_of_ble_eq_true rfl) ?_
    exact W.iret hx hb hr (fun t ht hW9 => ⟨⟨by rw [← h91], by rw [← h92, ht]; exact hW⟩, tc_F hS ht⟩) hS.2.2 dX3_hoist_18

def f_X3_take (x : tc_Y) (a1 : Int32) : Option (Int32 × tc_Y) := tc_let (tc_ym x 0 0 0) (fun x1 => Option.bind (f_X3_isCrane x1 a1) (fun r2 => (if r2 = 0 then tc_b2 (f_X3_no x1 1) (fun r25 x26 => some (r25, x26)) else (if ¬ a1 < 0 ∧ a1.toNatClampNeg < 5 then Option.bind (f_X3_high x1 (x1 12 a1.toNatClampNeg)) (fun r6 => (if (x1 14 a1.toNatClampNeg) = (-1) then (if r6 = 0 then tc_b2 (f_X3_no x1 2) (fun r13 x14 => some (r13, x14)) else (if (x1 13 a1.toNatClampNeg) = r6 then Option.bind (f_X3_top x1 (x1 12 a1.toNatClampNeg)) (fun r17 => tc_let (tc_ym x1 14 a1.toNatClampNeg r17) (fun x19 => (if ¬ (x19 14 a1.toNatClampNeg) < 0 ∧ (x19 14 a1.toNatClampNeg).toNatClampNeg < 40 then tc_let (tc_ym x19 4 (x19 14 a1.toNatClampNeg).toNatClampNeg (-1)) (fun x21 => some ((x21 14 a1.toNatClampNeg), x21)) else none))) else tc_b2 (f_X3_no x1 2) (fun r22 x23 => some (r22, x23)))) else tc_b2 (f_X3_no x1 2) (fun r9 x10 => some (r9, x10)))) else none))))
set_option maxHeartbeats 4000000 in
set_option maxRecDepth 100000 in
theorem mt_X3_take (l : Launch) (D : va_G) (cU cO cI : ClassId) (A : Nat → Prop) (E : Nat → Nat) (x : tc_Y) (a1 : Int32) (r : Int32) (z : tc_Y) (hF : f_X3_take x a1 = some (r, z)) : Met l yX3_take wsX3_take ({ frames := 2, cells := 0, slots := 0, locals := 45 } : Room) (va_Pc [.ref (E 0), .int a1] (fun U => tc_WM D cI A E x U.heap ∧ tc_KM D cU cO cI A U)) (tc_Qw (some (.int r)) (tc_WM D cI A E z) A) 0 0 A := by
  refine Met.ofW (cc := cX3_take) (maxL := 3) (ret := (some .int)) (by decide) rfl ?_
  intro p e s m args below meth c s₁ B hml hv
  obtain ⟨rfl, hW, hKM⟩ := hv
  have hx := B.exec
  have hb := B.bytes
  have hr := B.returns
  have hts := atoms_spec (ws := wsX3_take) B.pre
  have hown : s.vm.findClass RX3 = some m.cls := findClass_of_methodNamed B.named
  have hlocks := B.notSynchronized
  have hK := hKM.1
  have hA := hKM.2
  have hinX3 : ∀ w ∈ wsX30, w ∈ wsX3_take := fun w9 h9 => List.mem_cons_of_mem _ (List.mem_append_right _ h9)
  have hS : va_S A s.heap s.heap [] := va_S.rf
  have hl := lv_entry ([.ref (E 0), .int a1]) (n := 3) (Nat.le_of_ble_eq_true rfl)
  rw [lg_entry_eq]
  generalize (lg_sl ([.ref (E 0), .int a1]) ++ List.replicate (3 - (lg_sl ([.ref (E 0), .int a1])).length) Slot.unset).toArray = ls at hl ⊢
  have hl : lv_has ls 3 [(0, .ref (E 0)), (1, .int a1)] := hl
  refine lv_aload_n hx hb dX3_take_0 rfl (lv_at hl 0 rfl) ?_
  refine lv_iconst (v := 0) hx hb dX3_take_1 (by decide) ?_
  refine tc_put (v := .int 0) (ty := .int) hx hb hts hinX3 tyX3 tyX3_ok nmX3 hown hK (hW.1) hS (hW.own (Or.inl rfl)) (C := RX3) (T := TX3) (N := 15) rfl 0 (by decide) (hts (.fieldLink RX3 43 "TreadCranesModel" "thrown" "I") (List.mem_of_getElem? (i := 1) rfl)) (fun _ h9 => h9) rfl (by decide +kernel) rfl rfl (Nat.le_of_ble_eq_true rfl) dX3_take_2 (fun H locs e1 z1 o1 hS => ?_)
  obtain ⟨x1, ex1⟩ : ∃ z : tc_Y, z = tc_ym x 0 0 0 := ⟨_, rfl⟩
  have hF := tc_lt hF ex1
  have hW : tc_WM D cI A E x1 H := by rw [ex1]; exact hW.sf (Or.inl rfl) (by rw [tc_m0]; exact e1) o1
  refine lv_aload_n hx hb dX3_take_5 rfl (lv_at hl 0 rfl) ?_
  refine lv_iload_n hx hb dX3_take_6 rfl (lv_at hl 1 rfl) ?_
  obtain ⟨r2, h3, hF⟩ := tc_bi hF
  refine tc_cr (W.runV (As := [.int a1]) (rest := []) ⟨hx, hb, hml, hown, hts⟩ (mt_X3_isCrane l D cU cO cI A E x1 a1 r2 h3) (cwV 1 hts gX3_take_X3_isCrane rfl rfl rfl (by decide +kernel) ⟨Nat.le_of_ble_eq_true rfl, Nat.le_of_ble_eq_true rfl⟩) ⟨fun a U g mk q => ⟨q.1, q.2.1, va_K.moved (Vm.Alike.refl U.vm) q.2.2⟩, tc_rcv (hW.1) hK rfl, fun U hU hW9 => ⟨rfl, by rw [hU]; exact hW, va_K.moved hW9.alike hK⟩⟩ rfl rfl hl.1 rfl (lv_room (Nat.le_of_ble_eq_true rfl)) dX3_take_7 ⟨Nat.le_of_ble_eq_true rfl, Nat.le_of_ble_eq_true rfl⟩) ?_
  refine lv_if_ne (tgt := 19) hx hb dX3_take_10 (by decide) (fun c4 => ?_) (fun c4 => ?_)
  · have hF := tc_if hF c4
    refine lv_aload_n hx hb dX3_take_19 rfl (lv_at hl 0 rfl) ?_
    refine lv_aload_n hx hb dX3_take_20 rfl (lv_at hl 0 rfl) ?_
    refine tc_get (v := .ref (E 12)) hx hb hts hinX3 hown hK (hW.1) (C := RX3) (T := TX3) (N := 15) rfl 12 (by decide) (hts (.fieldLink RX3 34 "TreadCranesModel" "hook" "[I") (List.mem_of_getElem? (i := 2) rfl)) (fun _ h9 => h9) rfl dX3_take_21 ?_
    refine lv_iload_n hx hb dX3_take_24 rfl (lv_at hl 1 rfl) ?_
    obtain ⟨g5, hF⟩ := tc_ob hF
    refine tc_iald (f := x1 12) hx hb hK (hW.hi ⟨by decide, by decide⟩) 2 rfl g5 dX3_take_25 ?_
    obtain ⟨r6, h7, hF⟩ := tc_bi hF
    refine tc_cr (W.runV (As := [.int (x1 12 a1.toNatClampNeg)]) (rest := []) ⟨hx, hb, hml, hown, hts⟩ (mt_X3_high l D cU cO cI A E x1 (x1 12 a1.toNatClampNeg) r6 h7) (cwV 1 hts gX3_take_X3_high rfl rfl rfl (by decide +kernel) ⟨Nat.le_of_ble_eq_true rfl, Nat.le_of_ble_eq_true rfl⟩) ⟨fun a U g mk q => ⟨q.1, q.2.1, va_K.moved (Vm.Alike.refl U.vm) q.2.2⟩, tc_rcv (hW.1) hK rfl, fun U hU hW9 => ⟨rfl, by rw [hU]; exact hW, va_K.moved hW9.alike hK⟩⟩ rfl rfl hl.1 rfl (lv_room (Nat.le_of_ble_eq_true rfl)) dX3_take_26 ⟨Nat.le_of_ble_eq_true rfl, Nat.le_of_ble_eq_true rfl⟩) ?_
    refine lv_istore_n (lv' := [(2, .int r6), (0, .ref (E 0)), (1, .int a1)]) hx hb dX3_take_29 rfl hl (by decide) rfl (fun ls hl => ?_)
    refine lv_aload_n hx hb dX3_take_30 rfl (lv_at hl 1 rfl) ?_
    refine tc_get (v := .ref (E 14)) hx hb hts hinX3 hown hK (hW.1) (C := RX3) (T := TX3) (N := 15) rfl 14 (by decide) (hts (.fieldLink RX3 40 "TreadCranesModel" "load" "[I") (List.mem_of_getElem? (i := 3) rfl)) (fun _ h9 => h9) rfl dX3_take_31 ?_
    refine lv_iload_n hx hb dX3_take_34 rfl (lv_at hl 2 rfl) ?_
    refine tc_iald (f := x1 14) hx hb hK (hW.hi ⟨by decide, by decide⟩) 2 rfl g5 dX3_take_35 ?_
    refine lv_iconst (v := (-1)) hx hb dX3_take_36 (by decide) ?_
    refine lv_icmp_ne (tgt := 54) hx hb dX3_take_37 (by decide) (fun c8 => ?_) (fun c8 => ?_)
    · have hF := tc_if hF c8
      refine lv_aload_n hx hb dX3_take_54 rfl (lv_at hl 1 rfl) ?_
      refine lv_iconst (v := 2) hx hb dX3_take_55 (by decide) ?_
      obtain ⟨r9, x10, h11, hF⟩ := tc_bi2 hF
      refine tc_cw (va_runV (As := [.int 2]) (rest := []) ⟨hx, hb, hml, hown, hts⟩ (mt_X3_no l D cU cO cI A E x1 2 r9 x10 h11) (cwV 1 hts gX3_take_X3_no rfl rfl rfl (by decide +kernel) ⟨Nat.le_of_ble_eq_true rfl, Nat.le_of_ble_eq_true rfl⟩) ⟨fun a U g mk q => ⟨q.1, q.2.1, q.2.2.call⟩, tc_rcv (hW.1) hK rfl, fun U hU hW9 => ⟨rfl, by rw [hU]; exact hW, hKM.go hS hU hW9⟩⟩ rfl rfl hl.1 rfl (lv_room (Nat.le_of_ble_eq_true rfl)) dX3_take_56 ⟨Nat.le_of_ble_eq_true rfl, Nat.le_of_ble_eq_true rfl⟩) hS (fun _ _ h => h) (fun _ h => h) (fun H locs hW z1 o1 hS => ?_)
      obtain ⟨h91, h92⟩ := tc_pr2 (Option.some.inj hF)
      refine W.widen (k := 0) (n := 0) (Nat.le_of_ble_eq_true rfl) (Nat.le_of_ble_eq_true rfl) ?_
      exact W.iret hx hb hr (fun t ht hW9 => ⟨⟨by rw [← h91], by rw [← h92, ht]; exact hW⟩, tc_F hS ht⟩) hS.2.2 dX3_take_59
    · have hF := tc_it hF c8
      refine lv_iload_n hx hb dX3_take_40 rfl (lv_at hl 0 rfl) ?_
      refine lv_if_eq (tgt := 54) hx hb dX3_take_41 (by decide) (fun c12 => ?_) (fun c12 => ?_)
      · have hF := tc_it hF c12
        refine lv_aload_n hx hb dX3_take_54 rfl (lv_at hl 1 rfl) ?_
        refine lv_iconst (v := 2) hx hb dX3_take_55 (by decide) ?_
        obtain ⟨r13, x14, h15, hF⟩ := tc_bi2 hF
        refine tc_cw (va_runV (As := [.int 2]) (rest := []) ⟨hx, hb, hml, hown, hts⟩ (mt_X3_no l D cU cO cI A E x1 2 r13 x14 h15) (cwV 1 hts gX3_take_X3_no rfl rfl rfl (by decide +kernel) ⟨Nat.le_of_ble_eq_true rfl, Nat.le_of_ble_eq_true rfl⟩) ⟨fun a U g mk q => ⟨q.1, q.2.1, q.2.2.call⟩, tc_rcv (hW.1) hK rfl, fun U hU hW9 => ⟨rfl, by rw [hU]; exact hW, hKM.go hS hU hW9⟩⟩ rfl rfl hl.1 rfl (lv_room (Nat.le_of_ble_eq_true rfl)) dX3_take_56 ⟨Nat.le_of_ble_eq_true rfl, Nat.le_of_ble_eq_true rfl⟩) hS (fun _ _ h => h) (fun _ h => h) (fun H locs hW z1 o1 hS => ?_)
        obtain ⟨h91, h92⟩ := tc_pr2 (Option.some.inj hF)
        refine W.widen (k := 0) (n := 0) (Nat.le_of_ble_eq_true rfl) (Nat.le_of_ble_eq_true rfl) ?_
        exact W.iret hx hb hr (fun t ht hW9 => ⟨⟨by rw [← h91], by rw [← h92, ht]; exact hW⟩, tc_F hS ht⟩) hS.2.2 dX3_take_59
      · have hF := tc_if hF c12
        refine lv_aload_n hx hb dX3_take_44 rfl (lv_at hl 1 rfl) ?_
        refine tc_get (v := .ref (E 13)) hx hb hts hinX3 hown hK (hW.1) (C := RX3) (T := TX3) (N := 15) rfl 13 (by decide) (hts (.fieldLink RX3 37 "TreadCranesModel" "height" "[I") (List.mem_of_getElem? (i := 4) rfl)) (fun _ h9 => h9) rfl dX3_take_45 ?_
        refine lv_iload_n hx hb dX3_take_48 rfl (lv_at hl 2 rfl) ?_
        refine tc_iald (f := x1 13) hx hb hK (hW.hi ⟨by decide, by decide⟩) 2 rfl g5 dX3_take_49 ?_
        refine lv_iload_n hx hb dX3_take_50 rfl (lv_at hl 0 rfl) ?_
        refine lv_icmp_eq (tgt := 60) hx hb dX3_take_51 (by decide) (fun c16 => ?_) (fun c16 => ?_)
        · have hF := tc_it hF c16
          refine lv_aload_n hx hb dX3_take_60 rfl (lv_at hl 1 rfl) ?_
          refine tc_get (v := .ref (E 14)) hx hb hts hinX3 hown hK (hW.1) (C := RX3) (T := TX3) (N := 15) rfl 14 (by decide) (hts (.fieldLink RX3 40 "TreadCranesModel" "load" "[I") (List.mem_of_getElem? (i := 3) rfl)) (fun _ h9 => h9) rfl dX3_take_61 ?_
          refine lv_iload_n hx hb dX3_take_64 rfl (lv_at hl 2 rfl) ?_
          refine lv_aload_n hx hb dX3_take_65 rfl (lv_at hl 1 rfl) ?_
          refine lv_aload_n hx hb dX3_take_66 rfl (lv_at hl 1 rfl) ?_
          refine tc_get (v := .ref (E 12)) hx hb hts hinX3 hown hK (hW.1) (C := RX3) (T := TX3) (N := 15) rfl 12 (by decide) (hts (.fieldLink RX3 34 "TreadCranesModel" "hook" "[I") (List.mem_of_getElem? (i := 2) rfl)) (fun _ h9 => h9) rfl dX3_take_67 ?_
          refine lv_iload_n hx hb dX3_take_70 rfl (lv_at hl 2 rfl) ?_
          refine tc_iald (f := x1 12) hx hb hK (hW.hi ⟨by decide, by decide⟩) 2 rfl g5 dX3_take_71 ?_
          obtain ⟨r17, h18, hF⟩ := tc_bi hF
          refine tc_cr (W.runV (As := [.int (x1 12 a1.toNatClampNeg)]) (rest := [.int a1, .ref (E 14)]) ⟨hx, hb, hml, hown, hts⟩ (mt_X3_top l D cU cO cI A E x1 (x1 12 a1.toNatClampNeg) r17 h18) (cwV 1 hts gX3_take_X3_top rfl rfl rfl (by decide +kernel) ⟨Nat.le_of_ble_eq_true rfl, Nat.le_of_ble_eq_true rfl⟩) ⟨fun a U g mk q => ⟨q.1, q.2.1, va_K.moved (Vm.Alike.refl U.vm) q.2.2⟩, tc_rcv (hW.1) hK rfl, fun U hU hW9 => ⟨rfl, by rw [hU]; exact hW, va_K.moved hW9.alike hK⟩⟩ rfl rfl hl.1 rfl (lv_room (Nat.le_of_ble_eq_true rfl)) dX3_take_72 ⟨Nat.le_of_ble_eq_true rfl, Nat.le_of_ble_eq_true rfl⟩) ?_
          refine tc_iast (f := x1 14) hx hb hK (hW.hi ⟨by decide, by decide⟩) hS (hW.own (Or.inr (Or.inr ⟨by decide, by decide⟩))) 2 rfl g5 dX3_take_75 (fun H locs e1 z1 o1 hS => ?_)
          obtain ⟨x19, ex19⟩ : ∃ z : tc_Y, z = tc_ym x1 14 a1.toNatClampNeg r17 := ⟨_, rfl⟩
          have hF := tc_lt hF ex19
          have hW : tc_WM D cI A E x19 H := by rw [ex19]; exact hW.sh ⟨by decide, by decide⟩ e1 o1
          refine lv_aload_n hx hb dX3_take_76 rfl (lv_at hl 1 rfl) ?_
          refine tc_get (v := .ref (E 4)) hx hb hts hinX3 hown hK (hW.1) (C := RX3) (T := TX3) (N := 15) rfl 4 (by decide) (hts (.fieldLink RX3 13 "TreadCranesModel" "at" "[I") (List.mem_of_getElem? (i := 5) rfl)) (fun _ h9 => h9) rfl dX3_take_77 ?_
          refine lv_aload_n hx hb dX3_take_80 rfl (lv_at hl 1 rfl) ?_
          refine tc_get (v := .ref (E 14)) hx hb hts hinX3 hown hK (hW.1) (C := RX3) (T := TX3) (N := 15) rfl 14 (by decide) (hts (.fieldLink RX3 40 "TreadCranesModel" "load" "[I") (List.mem_of_getElem? (i := 3) rfl)) (fun _ h9 => h9) rfl dX3_take_81 ?_
          refine lv_iload_n hx hb dX3_take_84 rfl (lv_at hl 2 rfl) ?_
          refine tc_iald (f := x19 14) hx hb hK (hW.hi ⟨by decide, by decide⟩) 2 rfl g5 dX3_take_85 ?_
          refine lv_iconst (v := (-1)) hx hb dX3_take_86 (by decide) ?_
          obtain ⟨g20, hF⟩ := tc_ob hF
          refine tc_iast (f := x19 4) hx hb hK (hW.lo ⟨by decide, by decide⟩) hS (hW.own (Or.inr (Or.inl ⟨by decide, by decide⟩))) 2 rfl g20 dX3_take_87 (fun H locs e1 z1 o1 hS => ?_)
          obtain ⟨x21, ex21⟩ : ∃ z : tc_Y, z = tc_ym x19 4 (x19 14 a1.toNatClampNeg).toNatClampNeg (-1) := ⟨_, rfl⟩
          have hF := tc_lt hF ex21
          have hW : tc_WM D cI A E x21 H := by rw [ex21]; exact hW.sl ⟨by decide, by decide⟩ e1 o1
          refine lv_aload_n hx hb dX3_take_88 rfl (lv_at hl 1 rfl) ?_
          refine tc_get (v := .ref (E 14)) hx hb hts hinX3 hown hK (hW.1) (C := RX3) (T := TX3) (N := 15) rfl 14 (by decide) (hts (.fieldLink RX3 40 "TreadCranesModel" "load" "[I") (List.mem_of_getElem? (i := 3) rfl)) (fun _ h9 => h9) rfl dX3_take_89 ?_
          refine lv_iload_n hx hb dX3_take_92 rfl (lv_at hl 2 rfl) ?_
          refine tc_iald (f := x21 14) hx hb hK (hW.hi ⟨by decide, by decide⟩) 2 rfl g5 dX3_take_93 ?_
          obtain ⟨h91, h92⟩ := tc_pr2 (Option.some.inj hF)
          refine W.widen (k := 0) (n := 0) (Nat.le_of_ble_eq_true rfl) (Nat.le_of_ble_eq_true rfl) ?_
          exact W.iret hx hb hr (fun t ht hW9 => ⟨⟨by rw [← h91], by rw [← h92, ht]; exact hW⟩, tc_F hS ht⟩) hS.2.2 dX3_take_94
        · have hF := tc_if hF c16
          refine lv_aload_n hx hb dX3_take_54 rfl (lv_at hl 1 rfl) ?_
          refine lv_iconst (v := 2) hx hb dX3_take_55 (by decide) ?_
          obtain ⟨r22, x23, h24, hF⟩ := tc_bi2 hF
          refine tc_cw (va_runV (As := [.int 2]) (rest := []) ⟨hx, hb, hml, hown, hts⟩ (mt_X3_no l D cU cO cI A E x1 2 r22 x23 h24) (cwV 1 hts gX3_take_X3_no rfl rfl rfl (by decide +kernel) ⟨Nat.le_of_ble_eq_true rfl, Nat.le_of_ble_eq_true rfl⟩) ⟨fun a U g mk q => ⟨q.1, q.2.1, q.2.2.call⟩, tc_rcv (hW.1) hK rfl, fun U hU hW9 => ⟨rfl, by rw [hU]; exact hW, hKM.go hS hU hW9⟩⟩ rfl rfl hl.1 rfl (lv_room (Nat.le_of_ble_eq_true rfl)) dX3_take_56 ⟨Nat.le_of_ble_eq_true rfl, Nat.le_of_ble_eq_true rfl⟩) hS (fun _ _ h => h) (fun _ h => h) (fun H locs hW z1 o1 hS => ?_)
          obtain ⟨h91, h92⟩ := tc_pr2 (Option.some.inj hF)
          refine W.widen (k := 0) (n := 0) (Nat.le_of_ble_eq_true rfl) (Nat.le_of_ble_eq_true rfl) ?_
          exact W.iret hx hb hr (fun t ht hW9 => ⟨⟨by rw [← h91], by rw [← h92, ht]; exact hW⟩, tc_F hS ht⟩) hS.2.2 dX3_take_59
  · have hF := tc_it hF c4
    refine lv_aload_n hx hb dX3_take_13 rfl (lv_at hl 0 rfl) ?_
    refine lv_iconst (v := 1) hx hb dX3_take_14 (by decide) ?_
    obtain ⟨r25, x26, h27, hF⟩ := tc_bi2 hF
    refine tc_cw (va_runV (As := [.int 1]) (rest := []) ⟨hx, hb, hml, hown, hts⟩ (mt_X3_no l D cU cO cI A E x1 1 r25 x26 h27) (cwV 1 hts gX3_take_X3_no rfl rfl rfl (by decide +kernel) ⟨Nat.le_of_ble_eq_true rfl, Nat.le_of_ble_eq_true rfl⟩) ⟨fun a U g mk q => ⟨q.1, q.2.1, q.2.2.call⟩, tc_rcv (hW.1) hK rfl, fun U hU hW9 => ⟨rfl, by rw [hU]; exact hW, hKM.go hS hU hW9⟩⟩ rfl rfl hl.1 rfl (lv_room (Nat.le_of_ble_eq_true rfl)) dX3_take_15 ⟨Nat.le_of_ble_eq_true rfl, Nat.le_of_ble_eq_true rfl⟩) hS (fun _ _ h => h) (fun _ h => h) (fun H locs hW z1 o1 hS => ?_)
    obtain ⟨h91, h92⟩ := tc_pr2 (Option.some.inj hF)
    refine W.widen (k := 0) (n := 0) (Nat.le_of_ble_eq_true rfl) (Nat.le_of_ble_eq_true rfl) ?_
    exact W.iret hx hb hr (fun t ht hW9 => ⟨⟨by rw [← h91], by rw [← h92, ht]; exact hW⟩, tc_F hS ht⟩) hS.2.2 dX3_take_18

def f_X3_lay (x : tc_Y) (a1 : Int32) : Option (Int32 × tc_Y) := tc_let (tc_ym x 0 0 0) (fun x1 => Option.bind (f_X3_isCrane x1 a1) (fun r2 => (if r2 = 0 then tc_b2 (f_X3_no x1 1) (fun r31 x32 => some (r31, x32)) else (if ¬ a1 < 0 ∧ a1.toNatClampNeg < 5 then Option.bind (f_X3_high x1 (x1 12 a1.toNatClampNeg)) (fun r6 => (if (x1 14 a1.toNatClampNeg) = (-1) then tc_b2 (f_X3_no x1 2) (fun r9 x10 => some (r9, x10)) else (if (x1 13 a1.toNatClampNeg) = (r6 + 1) then (if r6 = 8 then tc_b2 (f_X3_no x1 2) (fun r17 x18 => some (r17, x18)) else Option.bind (f_X3_isTooLow x1 (x1 12 a1.toNatClampNeg) (r6 + 1) a1) (fun r20 => (if r20 = 0 then (if ¬ (x1 14 a1.toNatClampNeg) < 0 ∧ (x1 14 a1.toNatClampNeg).toNatClampNeg < 40 then tc_let (tc_ym x1 4 (x1 14 a1.toNatClampNeg).toNatClampNeg (x1 12 a1.toNatClampNeg)) (fun x24 => (if ¬ (x24 14 a1.toNatClampNeg) < 0 ∧ (x24 14 a1.toNatClampNeg).toNatClampNeg < 40 then tc_let (tc_ym x24 5 (x24 14 a1.toNatClampNeg).toNatClampNeg r6) (fun x26 => tc_let (tc_ym x26 14 a1.toNatClampNeg (-1)) (fun x27 => some ((r6 + 1), x27))) else none)) else none) else tc_b2 (f_X3_no x1 2) (fun r28 x29 => some (r28, x29))))) else tc_b2 (f_X3_no x1 2) (fun r13 x14 => some (r13, x14))))) else none))))
set_option maxHeartbeats 4000000 in
set_option maxRecDepth 100000 in
theorem mt_X3_lay (l : Launch) (D : va_G) (cU cO cI : ClassId) (A : Nat → Prop) (E : Nat → Nat) (x : tc_Y) (a1 : Int32) (r : Int32) (z : tc_Y) (hF : f_X3_lay x a1 = some (r, z)) : Met l yX3_lay wsX3_lay ({ frames := 2, cells := 0, slots := 0, locals := 45 } : Room) (va_Pc [.ref (E 0), .int a1] (fun U => tc_WM D cI A E x U.heap ∧ tc_KM D cU cO cI A U)) (tc_Qw (some (.int r)) (tc_WM D cI A E z) A) 0 0 A := by
  refine Met.ofW (cc := cX3_lay) (maxL := 3) (ret := (some .int)) (by decide) rfl ?_
  intro p e s m args below meth c s₁ B hml hv
  obtain ⟨rfl, hW, hKM⟩ := hv
  have hx := B.exec
  have hb := B.bytes
  have hr := B.returns
  have hts := atoms_spec (ws := wsX3_lay) B.pre
  have hown : s.vm.findClass RX3 = some m.cls := findClass_of_methodNamed B.named
  have hlocks := B.notSynchronized
  have hK := hKM.1
  have hA := hKM.2
  have hinX3 : ∀ w ∈ wsX30, w ∈ wsX3_lay := fun w9 h9 => List.mem_cons_of_mem _ (List.mem_append_right _ h9)
  have hS : va_S A s.heap s.heap [] := va_S.rf
  have hl := lv_entry ([.ref (E 0), .int a1]) (n := 3) (Nat.le_of_ble_eq_true rfl)
  rw [lg_entry_eq]
  generalize (lg_sl ([.ref (E 0), .int a1]) ++ List.replicate (3 - (lg_sl ([.ref (E 0), .int a1])).length) Slot.unset).toArray = ls at hl ⊢
  have hl : lv_has ls 3 [(0, .ref (E 0)), (1, .int a1)] := hl
  refine lv_aload_n hx hb dX3_lay_0 rfl (lv_at hl 0 rfl) ?_
  refine lv_iconst (v := 0) hx hb dX3_lay_1 (by decide) ?_
  refine tc_put (v := .int 0) (ty := .int) hx hb hts hinX3 tyX3 tyX3_ok nmX3 hown hK (hW.1) hS (hW.own (Or.inl rfl)) (C := RX3) (T := TX3) (N := 15) rfl 0 (by decide) (hts (.fieldLink RX3 43 "TreadCranesModel" "thrown" "I") (List.mem_of_getElem? (i := 1) rfl)) (fun _ h9 => h9) rfl (by decide +kernel) rfl rfl (Nat.le_of_ble_eq_true rfl) dX3_lay_2 (fun H locs e1 z1 o1 hS => ?_)
  obtain ⟨x1, ex1⟩ : ∃ z : tc_Y, z = tc_ym x 0 0 0 := ⟨_, rfl⟩
  have hF := tc_lt hF ex1
  have hW : tc_WM D cI A E x1 H := by rw [ex1]; exact hW.sf (Or.inl rfl) (by rw [tc_m0]; exact e1) o1
  refine lv_aload_n hx hb dX3_lay_5 rfl (lv_at hl 0 rfl) ?_
  refine lv_iload_n hx hb dX3_lay_6 rfl (lv_at hl 1 rfl) ?_
  obtain ⟨r2, h3, hF⟩ := tc_bi hF
  refine tc_cr (W.runV (As := [.int a1]) (rest := []) ⟨hx, hb, hml, hown, hts⟩ (mt_X3_isCrane l D cU cO cI A E x1 a1 r2 h3) (cwV 1 hts gX3_lay_X3_isCrane rfl rfl rfl (by decide +kernel) ⟨Nat.le_of_ble_eq_true rfl, Nat.le_of_ble_eq_true rfl⟩) ⟨fun a U g mk q => ⟨q.1, q.2.1, va_K.moved (Vm.Alike.refl U.vm) q.2.2⟩, tc_rcv (hW.1) hK rfl, fun U hU hW9 => ⟨rfl, by rw [hU]; exact hW, va_K.moved hW9.alike hK⟩⟩ rfl rfl hl.1 rfl (lv_room (Nat.le_of_ble_eq_true rfl)) dX3_lay_7 ⟨Nat.le_of_ble_eq_true rfl, Nat.le_of_ble_eq_true rfl⟩) ?_
  refine lv_if_ne (tgt := 19) hx hb dX3_lay_10 (by decide) (fun c4 => ?_) (fun c4 => ?_)
  · have hF := tc_if hF c4
    refine lv_aload_n hx hb dX3_lay_19 rfl (lv_at hl 0 rfl) ?_
    refine lv_aload_n hx hb dX3_lay_20 rfl (lv_at hl 0 rfl) ?_
    refine tc_get (v := .ref (E 12)) hx hb hts hinX3 hown hK (hW.1) (C := RX3) (T := TX3) (N := 15) rfl 12 (by decide) (hts (.fieldLink RX3 34 "TreadCranesModel" "hook" "[I") (List.mem_of_getElem? (i := 2) rfl)) (fun _ h9 => h9) rfl dX3_lay_21 ?_
    refine lv_iload_n hx hb dX3_lay_24 rfl (lv_at hl 1 rfl) ?_
    obtain ⟨g5, hF⟩ := tc_ob hF
    refine tc_iald (f := x1 12) hx hb hK (hW.hi ⟨by decide, by decide⟩) 2 rfl g5 dX3_lay_25 ?_
    obtain ⟨r6, h7, hF⟩ := tc_bi hF
    refine tc_cr (W.runV (As := [.int (x1 12 a1.toNatClampNeg)]) (rest := []) ⟨hx, hb, hml, hown, hts⟩ (mt_X3_high l D cU cO cI A E x1 (x1 12 a1.toNatClampNeg) r6 h7) (cwV 1 hts gX3_lay_X3_high rfl rfl rfl (by decide +kernel) ⟨Nat.le_of_ble_eq_true rfl, Nat.le_of_ble_eq_true rfl⟩) ⟨fun a U g mk q => ⟨q.1, q.2.1, va_K.moved (Vm.Alike.refl U.vm) q.2.2⟩, tc_rcv (hW.1) hK rfl, fun U hU hW9 => ⟨rfl, by rw [hU]; exact hW, va_K.moved hW9.alike hK⟩⟩ rfl rfl hl.1 rfl (lv_room (Nat.le_of_ble_eq_true rfl)) dX3_lay_26 ⟨Nat.le_of_ble_eq_true rfl, Nat.le_of_ble_eq_true rfl⟩) ?_
    refine lv_istore_n (lv' := [(2, .int r6), (0, .ref (E 0)), (1, .int a1)]) hx hb dX3_lay_29 rfl hl (by decide) rfl (fun ls hl => ?_)
    refine lv_aload_n hx hb dX3_lay_30 rfl (lv_at hl 1 rfl) ?_
    refine tc_get (v := .ref (E 14)) hx hb hts hinX3 hown hK (hW.1) (C := RX3) (T := TX3) (N := 15) rfl 14 (by decide) (hts (.fieldLink RX3 40 "TreadCranesModel" "load" "[I") (List.mem_of_getElem? (i := 3) rfl)) (fun _ h9 => h9) rfl dX3_lay_31 ?_
    refine lv_iload_n hx hb dX3_lay_34 rfl (lv_at hl 2 rfl) ?_
    refine tc_iald (f := x1 14) hx hb hK (hW.hi ⟨by decide, by decide⟩) 2 rfl g5 dX3_lay_35 ?_
    refine lv_iconst (v := (-1)) hx hb dX3_lay_36 (by decide) ?_
    refine lv_icmp_eq (tgt := 75) hx hb dX3_lay_37 (by decide) (fun c8 => ?_) (fun c8 => ?_)
    · have hF := tc_it hF c8
      refine lv_aload_n hx hb dX3_lay_75 rfl (lv_at hl 1 rfl) ?_
      refine lv_iconst (v := 2) hx hb dX3_lay_76 (by decide) ?_
      obtain ⟨r9, x10, h11, hF⟩ := tc_bi2 hF
      refine tc_cw (va_runV (As := [.int 2]) (rest := []) ⟨hx, hb, hml, hown, hts⟩ (mt_X3_no l D cU cO cI A E x1 2 r9 x10 h11) (cwV 1 hts gX3_lay_X3_no rfl rfl rfl (by decide +kernel) ⟨Nat.le_of_ble_eq_true rfl, Nat.le_of_ble_eq_true rfl⟩) ⟨fun a U g mk q => ⟨q.1, q.2.1, q.2.2.call⟩, tc_rcv (hW.1) hK rfl, fun U hU hW9 => ⟨rfl, by rw [hU]; exact hW, hKM.go hS hU hW9⟩⟩ rfl rfl hl.1 rfl (lv_room (Nat.le_of_ble_eq_true rfl)) dX3_lay_77 ⟨Nat.le_of_ble_eq_true rfl, Nat.le_of_ble_eq_true rfl⟩) hS (fun _ _ h => h) (fun _ h => h) (fun H locs hW z1 o1 hS => ?_)
      obtain ⟨h91, h92⟩ := tc_pr2 (Option.some.inj hF)
      refine W.widen (k := 0) (n := 0) (Nat.le_of_ble_eq_true rfl) (Nat.le_of_ble_eq_true rfl) ?_
      exact W.iret hx hb hr (fun t ht hW9 => ⟨⟨by rw [← h91], by rw [← h92, ht]; exact hW⟩, tc_F hS ht⟩) hS.2.2 dX3_lay_80
    · have hF := tc_if hF c8
      refine lv_aload_n hx hb dX3_lay_40 rfl (lv_at hl 1 rfl) ?_
      refine tc_get (v := .ref (E 13)) hx hb hts hinX3 hown hK (hW.1) (C := RX3) (T := TX3) (N := 15) rfl 13 (by decide) (hts (.fieldLink RX3 37 "TreadCranesModel" "height" "[I") (List.mem_of_getElem? (i := 4) rfl)) (fun _ h9 => h9) rfl dX3_lay_41 ?_
      refine lv_iload_n hx hb dX3_lay_44 rfl (lv_at hl 2 rfl) ?_
      refine tc_iald (f := x1 13) hx hb hK (hW.hi ⟨by decide, by decide⟩) 2 rfl g5 dX3_lay_45 ?_
      refine lv_iload_n hx hb dX3_lay_46 rfl (lv_at hl 0 rfl) ?_
      refine lv_iconst (v := 1) hx hb dX3_lay_47 (by decide) ?_
      refine lv_iadd hx hb dX3_lay_48 ?_
      refine lv_icmp_ne (tgt := 75) hx hb dX3_lay_49 (by decide) (fun c12 => ?_) (fun c12 => ?_)
      · have hF := tc_if hF c12
        refine lv_aload_n hx hb dX3_lay_75 rfl (lv_at hl 1 rfl) ?_
        refine lv_iconst (v := 2) hx hb dX3_lay_76 (by decide) ?_
        obtain ⟨r13, x14, h15, hF⟩ := tc_bi2 hF
        refine tc_cw (va_runV (As := [.int 2]) (rest := []) ⟨hx, hb, hml, hown, hts⟩ (mt_X3_no l D cU cO cI A E x1 2 r13 x14 h15) (cwV 1 hts gX3_lay_X3_no rfl rfl rfl (by decide +kernel) ⟨Nat.le_of_ble_eq_true rfl, Nat.le_of_ble_eq_true rfl⟩) ⟨fun a U g mk q => ⟨q.1, q.2.1, q.2.2.call⟩, tc_rcv (hW.1) hK rfl, fun U hU hW9 => ⟨rfl, by rw [hU]; exact hW, hKM.go hS hU hW9⟩⟩ rfl rfl hl.1 rfl (lv_room (Nat.le_of_ble_eq_true rfl)) dX3_lay_77 ⟨Nat.le_of_ble_eq_true rfl, Nat.le_of_ble_eq_true rfl⟩) hS (fun _ _ h => h) (fun _ h => h) (fun H locs hW z1 o1 hS => ?_)
        obtain ⟨h91, h92⟩ := tc_pr2 (Option.some.inj hF)
        refine W.widen (k := 0) (n := 0) (Nat.le_of_ble_eq_true rfl) (Nat.le_of_ble_eq_true rfl) ?_
        exact W.iret hx hb hr (fun t ht hW9 => ⟨⟨by rw [← h91], by rw [← h92, ht]; exact hW⟩, tc_F hS ht⟩) hS.2.2 dX3_lay_80
      · have hF := tc_it hF c12
        refine lv_iload_n hx hb dX3_lay_52 rfl (lv_at hl 0 rfl) ?_
        refine lv_bipush (v := 8) hx hb dX3_lay_53 (by decide) ?_
        refine lv_icmp_eq (tgt := 75) hx hb dX3_lay_55 (by decide) (fun c16 => ?_) (fun c16 => ?_)
        · have hF := tc_it hF c16
          refine lv_aload_n hx hb dX3_lay_75 rfl (lv_at hl 1 rfl) ?_
          refine lv_iconst (v := 2) hx hb dX3_lay_76 (by decide) ?_
          obtain ⟨r17, x18, h19, hF⟩ := tc_bi2 hF
          refine tc_cw (va_runV (As := [.int 2]) (rest := []) ⟨hx, hb, hml, hown, hts⟩ (mt_X3_no l D cU cO cI A E x1 2 r17 x18 h19) (cwV 1 hts gX3_lay_X3_no rfl rfl rfl (by decide +kernel) ⟨Nat.le_of_ble_eq_true rfl, Nat.le_of_ble_eq_true rfl⟩) ⟨fun a U g mk q => ⟨q.1, q.2.1, q.2.2.call⟩, tc_rcv (hW.1) hK rfl, fun U hU hW9 => ⟨rfl, by rw [hU]; exact hW, hKM.go hS hU hW9⟩⟩ rfl rfl hl.1 rfl (lv_room (Nat.le_of_ble_eq_true rfl)) dX3_lay_77 ⟨Nat.le_of_ble_eq_true rfl, Nat.le_of_ble_eq_true rfl⟩) hS (fun _ _ h => h) (fun _ h => h) (fun H locs hW z1 o1 hS => ?_)
          obtain ⟨h91, h92⟩ := tc_pr2 (Option.some.inj hF)
          refine W.widen (k := 0) (n := 0) (Nat.le_of_ble_eq_true rfl) (Nat.le_of_ble_eq_true rfl) ?_
          exact W.iret hx hb hr (fun t ht hW9 => ⟨⟨by rw [← h91], by rw [← h92, ht]; exact hW⟩, tc_F hS ht⟩) hS.2.2 dX3_lay_80
        · have hF := tc_if hF c16
          refine lv_aload_n hx hb dX3_lay_58 rfl (lv_at hl 1 rfl) ?_
          refine lv_aload_n hx hb dX3_lay_59 rfl (lv_at hl 1 rfl) ?_
          refine tc_get (v := .ref (E 12)) hx hb hts hinX3 hown hK (hW.1) (C := RX3) (T := TX3) (N := 15) rfl 12 (by decide) (hts (.fieldLink RX3 34 "TreadCranesModel" "hook" "[I") (List.mem_of_getElem? (i := 2) rfl)) (fun _ h9 => h9) rfl dX3_lay_60 ?_
          refine lv_iload_n hx hb dX3_lay_63 rfl (lv_at hl 2 rfl) ?_
          refine tc_iald (f := x1 12) hx hb hK (hW.hi ⟨by decide, by decide⟩) 2 rfl g5 dX3_lay_64 ?_
          refine lv_iload_n hx hb dX3_lay_65 rfl (lv_at hl 0 rfl) ?_
          refine lv_iconst (v := 1) hx hb dX3_lay_66 (by decide) ?_
          refine lv_iadd hx hb dX3_lay_67 ?_
          refine lv_iload_n hx hb dX3_lay_68 rfl (lv_at hl 2 rfl) ?_
          obtain ⟨r20, h21, hF⟩ := tc_bi hF
          refine tc_cr (W.runV (As := [.int (x1 12 a1.toNatClampNeg), .int (r6 + 1), .int a1]) (rest := []) ⟨hx, hb, hml, hown, hts⟩ (mt_X3_isTooLow l D cU cO cI A E x1 (x1 12 a1.toNatClampNeg) (r6 + 1) a1 r20 h21) (cwV 3 hts gX3_lay_X3_isTooLow rfl rfl rfl (by decide +kernel) ⟨Nat.le_of_ble_eq_true rfl, Nat.le_of_ble_eq_true rfl⟩) ⟨fun a U g mk q => ⟨q.1, q.2.1, va_K.moved (Vm.Alike.refl U.vm) q.2.2⟩, tc_rcv (hW.1) hK rfl, fun U hU hW9 => ⟨rfl, by rw [hU]; exact hW, va_K.moved hW9.alike hK⟩⟩ rfl rfl hl.1 rfl (lv_room (Nat.le_of_ble_eq_true rfl)) dX3_lay_69 ⟨Nat.le_of_ble_eq_true rfl, Nat.le_of_ble_eq_true rfl⟩) ?_
          refine lv_if_eq (tgt := 81) hx hb dX3_lay_72 (by decide) (fun c22 => ?_) (fun c22 => ?_)
          · have hF := tc_it hF c22
            refine lv_aload_n hx hb dX3_lay_81 rfl (lv_at hl 1 rfl) ?_
            refine tc_get (v := .ref (E 4)) hx hb hts hinX3 hown hK (hW.1) (C := RX3) (T := TX3) (N := 15) rfl 4 (by decide) (hts (.fieldLink RX3 13 "TreadCranesModel" "at" "[I") (List.mem_of_getElem? (i := 5) rfl)) (fun _ h9 => h9) rfl dX3_lay_82 ?_
            refine lv_aload_n hx hb dX3_lay_85 rfl (lv_at hl 1 rfl) ?_
            refine tc_get (v := .ref (E 14)) hx hb hts hinX3 hown hK (hW.1) (C := RX3) (T := TX3) (N := 15) rfl 14 (by decide) (hts (.fieldLink RX3 40 "TreadCranesModel" "load" "[I") (List.mem_of_getElem? (i := 3) rfl)) (fun _ h9 => h9) rfl dX3_lay_86 ?_
            refine lv_iload_n hx hb dX3_lay_89 rfl (lv_at hl 2 rfl) ?_
            refine tc_iald (f := x1 14) hx hb hK (hW.hi ⟨by decide, by decide⟩) 2 rfl g5 dX3_lay_90 ?_
            refine lv_aload_n hx hb dX3_lay_91 rfl (lv_at hl 1 rfl) ?_
            refine tc_get (v := .ref (E 12)) hx hb hts hinX3 hown hK (hW.1) (C := RX3) (T := TX3) (N := 15) rfl 12 (by decide) (hts (.fieldLink RX3 34 "TreadCranesModel" "hook" "[I") (List.mem_of_getElem? (i := 2) rfl)) (fun _ h9 => h9) rfl dX3_lay_92 ?_
            refine lv_iload_n hx hb dX3_lay_95 rfl (lv_at hl 2 rfl) ?_
            refine tc_iald (f := x1 12) hx hb hK (hW.hi ⟨by decide, by decide⟩) 2 rfl g5 dX3_lay_96 ?_
            obtain ⟨g23, hF⟩ := tc_ob hF
            refine tc_iast (f := x1 4) hx hb hK (hW.lo ⟨by decide, by decide⟩) hS (hW.own (Or.inr (Or.inl ⟨by decide, by decide⟩))) 2 rfl g23 dX3_lay_97 (fun H locs e1 z1 o1 hS => ?_)
            obtain ⟨x24, ex24⟩ : ∃ z : tc_Y, z = tc_ym x1 4 (x1 14 a1.toNatClampNeg).toNatClampNeg (x1 12 a1.toNatClampNeg) := ⟨_, rfl⟩
            have hF := tc_lt hF ex24
            have hW : tc_WM D cI A E x24 H := by rw [ex24]; exact hW.sl ⟨by decide, by decide⟩ e1 o1
            refine lv_aload_n hx hb dX3_lay_98 rfl (lv_at hl 1 rfl) ?_
            refine tc_get (v := .ref (E 5)) hx hb hts hinX3 hown hK (hW.1) (C := RX3) (T := TX3) (N := 15) rfl 5 (by decide) (hts (.fieldLink RX3 16 "TreadCranesModel" "below" "[I") (List.mem_of_getElem? (i := 6) rfl)) (fun _ h9 => h9) rfl dX3_lay_99 ?_
            refine lv_aload_n hx hb dX3_lay_102 rfl (lv_at hl 1 rfl) ?_
            refine tc_get (v := .ref (E 14)) hx hb hts hinX3 hown hK (hW.1) (C := RX3) (T := TX3) (N := 15) rfl 14 (by decide) (hts (.fieldLink RX3 40 "TreadCranesModel" "load" "[I") (List.mem_of_getElem? (i := 3) rfl)) (fun _ h9 => h9) rfl dX3_lay_103 ?_
            refine lv_iload_n hx hb dX3_lay_106 rfl (lv_at hl 2 rfl) ?_
            refine tc_iald (f := x24 14) hx hb hK (hW.hi ⟨by decide, by decide⟩) 2 rfl g5 dX3_lay_107 ?_
            refine lv_iload_n hx hb dX3_lay_108 rfl (lv_at hl 0 rfl) ?_
            obtain ⟨g25, hF⟩ := tc_ob hF
            refine tc_iast (f := x24 5) hx hb hK (hW.lo ⟨by decide, by decide⟩) hS (hW.own (Or.inr (Or.inl ⟨by decide, by decide⟩))) 2 rfl g25 dX3_lay_109 (fun H locs e1 z1 o1 hS => ?_)
            obtain ⟨x26, ex26⟩ : ∃ z : tc_Y, z = tc_ym x24 5 (x24 14 a1.toNatClampNeg).toNatClampNeg r6 := ⟨_, rfl⟩
            have hF := tc_lt hF ex26
            have hW : tc_WM D cI A E x26 H := by rw [ex26]; exact hW.sl ⟨by decide, by decide⟩ e1 o1
            refine lv_aload_n hx hb dX3_lay_110 rfl (lv_at hl 1 rfl) ?_
            refine tc_get (v := .ref (E 14)) hx hb hts hinX3 hown hK (hW.1) (C := RX3) (T := TX3) (N := 15) rfl 14 (by decide) (hts (.fieldLink RX3 40 "TreadCranesModel" "load" "[I") (List.mem_of_getElem? (i := 3) rfl)) (fun _ h9 => h9) rfl dX3_lay_111 ?_
            refine lv_iload_n hx hb dX3_lay_114 rfl (lv_at hl 2 rfl) ?_
            refine lv_iconst (v := (-1)) hx hb dX3_lay_115 (by decide) ?_
            refine tc_iast (f := x26 14) hx hb hK (hW.hi ⟨by decide, by decide⟩) hS (hW.own (Or.inr (Or.inr ⟨by decide, by decide⟩))) 2 rfl g5 dX3_lay_116 (fun H locs e1 z1 o1 hS => ?_)
            obtain ⟨x27, ex27⟩ : ∃ z : tc_Y, z = tc_ym x26 14 a1.toNatClampNeg (-1) := ⟨_, rfl⟩
            have hF := tc_lt hF ex27
            have hW : tc_WM D cI A E x27 H := by rw [ex27]; exact hW.sh ⟨by decide, by decide⟩ e1 o1
            refine lv_iload_n hx hb dX3_lay_117 rfl (lv_at hl 0 rfl) ?_
            refine lv_iconst (v := 1) hx hb dX3_lay_118 (by decide) ?_
            refine lv_iadd hx hb dX3_lay_119 ?_
            obtain ⟨h91, h92⟩ := tc_pr2 (Option.some.inj hF)
            refine W.widen (k := 0) (n := 0) (Nat.le_of_ble_eq_true rfl) (Nat.le_of_ble_eq_true rfl) ?_
            exact W.iret hx hb hr (fun t ht hW9 => ⟨⟨by rw [← h91], by rw [← h92, ht]; exact hW⟩, tc_F hS ht⟩) hS.2.2 dX3_lay_120
          · have hF := tc_if hF c22
            refine lv_aload_n hx hb dX3_lay_75 rfl (lv_at hl 1 rfl) ?_
            refine lv_iconst (v := 2) hx hb dX3_lay_76 (by decide) ?_
            obtain ⟨r28, x29, h30, hF⟩ := tc_bi2 hF
            refine tc_cw (va_runV (As := [.int 2]) (rest := []) ⟨hx, hb, hml, hown, hts⟩ (mt_X3_no l D cU cO cI A E x1 2 r28 x29 h30) (cwV 1 hts gX3_lay_X3_no rfl rfl rfl (by decide +kernel) ⟨Nat.le_of_ble_eq_true rfl, Nat.le_of_ble_eq_true rfl⟩) ⟨fun a U g mk q => ⟨q.1, q.2.1, q.2.2.call⟩, tc_rcv (hW.1) hK rfl, fun U hU hW9 => ⟨rfl, by rw [hU]; exact hW, hKM.go hS hU hW9⟩⟩ rfl rfl hl.1 rfl (lv_room (Nat.le_of_ble_eq_true rfl)) dX3_lay_77 ⟨Nat.le_of_ble_eq_true rfl, Nat.le_of_ble_eq_true rfl⟩) hS (fun _ _ h => h) (fun _ h => h) (fun H locs hW z1 o1 hS => ?_)
            obtain ⟨h91, h92⟩ := tc_pr2 (Option.some.inj hF)
            refine W.widen (k := 0) (n := 0) (Nat.le_of_ble_eq_true rfl) (Nat.le_of_ble_eq_true rfl) ?_
            exact W.iret hx hb hr (fun t ht hW9 => ⟨⟨by rw [← h91], by rw [← h92, ht]; exact hW⟩, tc_F hS ht⟩) hS.2.2 dX3_lay_80
  · have hF := tc_it hF c4
    refine lv_aload_n hx hb dX3_lay_13 rfl (lv_at hl 0 rfl) ?_
    refine lv_iconst (v := 1) hx hb dX3_lay_14 (by decide) ?_
    obtain ⟨r31, x32, h33, hF⟩ := tc_bi2 hF
    refine tc_cw (va_runV (As := [.int 1]) (rest := []) ⟨hx, hb, hml, hown, hts⟩ (mt_X3_no l D cU cO cI A E x1 1 r31 x32 h33) (cwV 1 hts gX3_lay_X3_no rfl rfl rfl (by decide +kernel) ⟨Nat.le_of_ble_eq_true rfl, Nat.le_of_ble_eq_true rfl⟩) ⟨fun a U g mk q => ⟨q.1, q.2.1, q.2.2.call⟩, tc_rcv (hW.1) hK rfl, fun U hU hW9 => ⟨rfl, by rw [hU]; exact hW, hKM.go hS hU hW9⟩⟩ rfl rfl hl.1 rfl (lv_room (Nat.le_of_ble_eq_true rfl)) dX3_lay_15 ⟨Nat.le_of_ble_eq_true rfl, Nat.le_of_ble_eq_true rfl⟩) hS (fun _ _ h => h) (fun _ h => h) (fun H locs hW z1 o1 hS => ?_)
    obtain ⟨h91, h92⟩ := tc_pr2 (Option.some.inj hF)
    refine W.widen (k := 0) (n := 0) (Nat.le_of_ble_eq_true rfl) (Nat.le_of_ble_eq_true rfl) ?_
    exact W.iret hx hb hr (fun t ht hW9 => ⟨⟨by rw [← h91], by rw [← h92, ht]; exact hW⟩, tc_F hS ht⟩) hS.2.2 dX3_lay_18

def f_X3_move (x : tc_Y) (a1 : Int32) (a2 : Int32) (a3 : Int32) : Option (Int32 × tc_Y) := tc_let (tc_ym x 0 0 0) (fun x1 => Option.bind (f_X3_isCrane x1 a1) (fun r2 => (if r2 = 0 then tc_b2 (f_X3_no x1 1) (fun r5 x6 => some (r5, x6)) else Option.bind (f_X3_isPlace a2) (fun r8 => (if r8 = 0 then tc_b2 (f_X3_no x1 1) (fun r11 x12 => some (r11, x12)) else Option.bind (f_X3_isPlace a3) (fun r14 => (if r14 = 0 then tc_b2 (f_X3_no x1 1) (fun r17 x18 => some (r17, x18)) else Option.bind (f_X3_ticksOf x1 a1 a2 a3) (fun r20 => some (r20, x1)))))))))
set_option maxHeartbeats 4000000 in
set_option maxRecDepth 100000 in
theorem mt_X3_move (l : Launch) (D : va_G) (cU cO cI : ClassId) (A : Nat → Prop) (E : Nat → Nat) (x : tc_Y) (a1 : Int32) (a2 : Int32) (a3 : Int32) (r : Int32) (z : tc_Y) (hF : f_X3_move x a1 a2 a3 = some (r, z)) : Met l yX3_move wsX3_move ({ frames := 3, cells := 0, slots := 0, locals := 77 } : Room) (va_Pc [.ref (E 0), .int a1, .int a2, .int a3] (fun U => tc_WM D cI A E x U.heap ∧ tc_KM D cU cO cI A U)) (tc_Qw (some (.int r)) (tc_WM D cI A E z) A) 0 0 A := by
  refine Met.ofW (cc := cX3_move) (maxL := 4) (ret := (some .int)) (by decide) rfl ?_
  intro p e s m args below meth c s₁ B hml hv
  obtain ⟨rfl, hW, hKM⟩ := hv
  have hx := B.exec
  have hb := B.bytes
  have hr := B.returns
  have hts := atoms_spec (ws := wsX3_move) B.pre
  have hown : s.vm.findClass RX3 = some m.cls := findClass_of_methodNamed B.named
  have hlocks := B.notSynchronized
  have hK := hKM.1
  have hA := hKM.2
  have hinX3 : ∀ w ∈ wsX30, w ∈ wsX3_move := fun w9 h9 => List.mem_cons_of_mem _ (List.mem_append_right _ h9)
  have hS : va_S A s.heap s.heap [] := va_S.rf
  have hl := lv_entry ([.ref (E 0), .int a1, .int a2, .int a3]) (n := 4) (Nat.le_of_ble_eq_true rfl)
  rw [lg_entry_eq]
  generalize (lg_sl ([.ref (E 0), .int a1, .int a2, .int a3]) ++ List.replicate (4 - (lg_sl ([.ref (E 0), .int a1, .int a2, .int a3])).length) Slot.unset).toArray = ls at hl ⊢
  have hl : lv_has ls 4 [(0, .ref (E 0)), (1, .int a1), (2, .int a2), (3, .int a3)] := hl
  refine lv_aload_n hx hb dX3_move_0 rfl (lv_at hl 0 rfl) ?_
  refine lv_iconst (v := 0) hx hb dX3_move_1 (by decide) ?_
  refine tc_put (v := .int 0) (ty := .int) hx hb hts hinX3 tyX3 tyX3_ok nmX3 hown hK (hW.1) hS (hW.own (Or.inl rfl)) (C := RX3) (T := TX3) (N := 15) rfl 0 (by decide) (hts (.fieldLink RX3 43 "TreadCranesModel" "thrown" "I") (List.mem_of_getElem? (i := 1) rfl)) (fun _ h9 => h9) rfl (by decide +kernel) rfl rfl (Nat.le_of_ble_eq_true rfl) dX3_move_2 (fun H locs e1 z1 o1 hS => ?_)
  obtain ⟨x1, ex1⟩ : ∃ z : tc_Y, z = tc_ym x 0 0 0 := ⟨_, rfl⟩
  have hF := tc_lt hF ex1
  have hW : tc_WM D cI A E x1 H := by rw [ex1]; exact hW.sf (Or.inl rfl) (by rw [tc_m0]; exact e1) o1
  refine lv_aload_n hx hb dX3_move_5 rfl (lv_at hl 0 rfl) ?_
  refine lv_iload_n hx hb dX3_move_6 rfl (lv_at hl 1 rfl) ?_
  obtain ⟨r2, h3, hF⟩ := tc_bi hF
  refine tc_cr (W.runV (As := [.int a1]) (rest := []) ⟨hx, hb, hml, hown, hts⟩ (mt_X3_isCrane l D cU cO cI A E x1 a1 r2 h3) (cwV 1 hts gX3_move_X3_isCrane rfl rfl rfl (by decide +kernel) ⟨Nat.le_of_ble_eq_true rfl, Nat.le_of_ble_eq_true rfl⟩) ⟨fun a U g mk q => ⟨q.1, q.2.1, va_K.moved (Vm.Alike.refl U.vm) q.2.2⟩, tc_rcv (hW.1) hK rfl, fun U hU hW9 => ⟨rfl, by rw [hU]; exact hW, va_K.moved hW9.alike hK⟩⟩ rfl rfl hl.1 rfl (lv_room (Nat.le_of_ble_eq_true rfl)) dX3_move_7 ⟨Nat.le_of_ble_eq_true rfl, Nat.le_of_ble_eq_true rfl⟩) ?_
  refine lv_if_eq (tgt := 37) hx hb dX3_move_10 (by decide) (fun c4 => ?_) (fun c4 => ?_)
  · have hF := tc_it hF c4
    refine lv_aload_n hx hb dX3_move_37 rfl (lv_at hl 0 rfl) ?_
    refine lv_iconst (v := 1) hx hb dX3_move_38 (by decide) ?_
    obtain ⟨r5, x6, h7, hF⟩ := tc_bi2 hF
    refine tc_cw (va_runV (As := [.int 1]) (rest := []) ⟨hx, hb, hml, hown, hts⟩ (mt_X3_no l D cU cO cI A E x1 1 r5 x6 h7) (cwV 1 hts gX3_move_X3_no rfl rfl rfl (by decide +kernel) ⟨Nat.le_of_ble_eq_true rfl, Nat.le_of_ble_eq_true rfl⟩) ⟨fun a U g mk q => ⟨q.1, q.2.1, q.2.2.call⟩, tc_rcv (hW.1) hK rfl, fun U hU hW9 => ⟨rfl, by rw [hU]; exact hW, hKM.go hS hU hW9⟩⟩ rfl rfl hl.1 rfl (lv_room (Nat.le_of_ble_eq_true rfl)) dX3_move_39 ⟨Nat.le_of_ble_eq_true rfl, Nat.le_of_ble_eq_true rfl⟩) hS (fun _ _ h => h) (fun _ h => h) (fun H locs hW z1 o1 hS => ?_)
    obtain ⟨h91, h92⟩ := tc_pr2 (Option.some.inj hF)
    refine W.widen (k := 0) (n := 0) (Nat.le_of_ble_eq_true rfl) (Nat.le_of_ble_eq_true rfl) ?_
    exact W.iret hx hb hr (fun t ht hW9 => ⟨⟨by rw [← h91], by rw [← h92, ht]; exact hW⟩, tc_F hS ht⟩) hS.2.2 dX3_move_42
  · have hF := tc_if hF c4
    refine lv_iload_n hx hb dX3_move_13 rfl (lv_at hl 2 rfl) ?_
    obtain ⟨r8, h9, hF⟩ := tc_bi hF
    refine tc_cr (W.runS (As := [.int a2]) (rest := []) ⟨hx, hb, hml, hown, hts⟩ (mt_X3_isPlace l   a2 r8 h9) (va_cwS 1 hts gX3_move_X3_isPlace rfl rfl rfl (by decide +kernel) ⟨Nat.le_of_ble_eq_true rfl, Nat.le_of_ble_eq_true rfl⟩) ⟨fun a U g mk q => q, fun U hU hW9 => ⟨rfl, trivial⟩⟩ rfl rfl hl.1 rfl (lv_room (Nat.le_of_ble_eq_true rfl)) dX3_move_14 ⟨Nat.le_of_ble_eq_true rfl, Nat.le_of_ble_eq_true rfl⟩) ?_
    refine lv_if_eq (tgt := 37) hx hb dX3_move_17 (by decide) (fun c10 => ?_) (fun c10 => ?_)
    · have hF := tc_it hF c10
      refine lv_aload_n hx hb dX3_move_37 rfl (lv_at hl 0 rfl) ?_
      refine lv_iconst (v := 1) hx hb dX3_move_38 (by decide) ?_
      obtain ⟨r11, x12, h13, hF⟩ := tc_bi2 hF
      refine tc_cw (va_runV (As := [.int 1]) (rest := []) ⟨hx, hb, hml, hown, hts⟩ (mt_X3_no l D cU cO cI A E x1 1 r11 x12 h13) (cwV 1 hts gX3_move_X3_no rfl rfl rfl (by decide +kernel) ⟨Nat.le_of_ble_eq_true rfl, Nat.le_of_ble_eq_true rfl⟩) ⟨fun a U g mk q => ⟨q.1, q.2.1, q.2.2.call⟩, tc_rcv (hW.1) hK rfl, fun U hU hW9 => ⟨rfl, by rw [hU]; exact hW, hKM.go hS hU hW9⟩⟩ rfl rfl hl.1 rfl (lv_room (Nat.le_of_ble_eq_true rfl)) dX3_move_39 ⟨Nat.le_of_ble_eq_true rfl, Nat.le_of_ble_eq_true rfl⟩) hS (fun _ _ h => h) (fun _ h => h) (fun H locs hW z1 o1 hS => ?_)
      obtain ⟨h91, h92⟩ := tc_pr2 (Option.some.inj hF)
      refine W.widen (k := 0) (n := 0) (Nat.le_of_ble_eq_true rfl) (Nat.le_of_ble_eq_true rfl) ?_
      exact W.iret hx hb hr (fun t ht hW9 => ⟨⟨by rw [← h91], by rw [← h92, ht]; exact hW⟩, tc_F hS ht⟩) hS.2.2 dX3_move_42
    · have hF := tc_if hF c10
      refine lv_iload_n hx hb dX3_move_20 rfl (lv_at hl 3 rfl) ?_
      obtain ⟨r14, h15, hF⟩ := tc_bi hF
      refine tc_cr (W.runS (As := [.int a3]) (rest := []) ⟨hx, hb, hml, hown, hts⟩ (mt_X3_isPlace l   a3 r14 h15) (va_cwS 1 hts gX3_move_X3_isPlace rfl rfl rfl (by decide +kernel) ⟨Nat.le_of_ble_eq_true rfl, Nat.le_of_ble_eq_true rfl⟩) ⟨fun a U g mk q => q, fun U hU hW9 => ⟨rfl, trivial⟩⟩ rfl rfl hl.1 rfl (lv_room (Nat.le_of_ble_eq_true rfl)) dX3_move_21 ⟨Nat.le_of_ble_eq_true rfl, Nat.le_of_ble_eq_true rfl⟩) ?_
      refine lv_if_eq (tgt := 37) hx hb dX3_move_24 (by decide) (fun c16 => ?_) (fun c16 => ?_)
      · have hF := tc_it hF c16
        refine lv_aload_n hx hb dX3_move_37 rfl (lv_at hl 0 rfl) ?_
        refine lv_iconst (v := 1) hx hb dX3_move_38 (by decide) ?_
        obtain ⟨r17, x18, h19, hF⟩ := tc_bi2 hF
        refine tc_cw (va_runV (As := [.int 1]) (rest := []) ⟨hx, hb, hml, hown, hts⟩ (mt_X3_no l D cU cO cI A E x1 1 r17 x18 h19) (cwV 1 hts gX3_move_X3_no rfl rfl rfl (by decide +kernel) ⟨Nat.le_of_ble_eq_true rfl, Nat.le_of_ble_eq_true rfl⟩) ⟨fun a U g mk q => ⟨q.1, q.2.1, q.2.2.call⟩, tc_rcv (hW.1) hK rfl, fun U hU hW9 => ⟨rfl, by rw [hU]; exact hW, hKM.go hS hU hW9⟩⟩ rfl rfl hl.1 rfl (lv_room (Nat.le_of_ble_eq_true rfl)) dX3_move_39 ⟨Nat.le_of_ble_eq_true rfl, Nat.le_of_ble_eq_true rfl⟩) hS (fun _ _ h => h) (fun _ h => h) (fun H locs hW z1 o1 hS => ?_)
        obtain ⟨h91, h92⟩ := tc_pr2 (Option.some.inj hF)
        refine W.widen (k := 0) (n := 0) (Nat.le_of_ble_eq_true rfl) (Nat.le_of_ble_eq_true rfl) ?_
        exact W.iret hx hb hr (fun t ht hW9 => ⟨⟨by rw [← h91], by rw [← h92, ht]; exact hW⟩, tc_F hS ht⟩) hS.2.2 dX3_move_42
      · have hF := tc_if hF c16
        refine lv_aload_n hx hb dX3_move_27 rfl (lv_at hl 0 rfl) ?_
        refine lv_iload_n hx hb dX3_move_28 rfl (lv_at hl 1 rfl) ?_
        refine lv_iload_n hx hb dX3_move_29 rfl (lv_at hl 2 rfl) ?_
        refine lv_iload_n hx hb dX3_move_30 rfl (lv_at hl 3 rfl) ?_
        obtain ⟨r20, h21, hF⟩ := tc_bi hF
        refine tc_cr (W.runV (As := [.int a1, .int a2, .int a3]) (rest := []) ⟨hx, hb, hml, hown, hts⟩ (mt_X3_ticksOf l D cU cO cI A E x1 a1 a2 a3 r20 h21) (cwV 3 hts gX3_move_X3_ticksOf rfl rfl rfl (by decide +kernel) ⟨Nat.le_of_ble_eq_true rfl, Nat.le_of_ble_eq_true rfl⟩) ⟨fun a U g mk q => ⟨q.1, q.2.1, va_K.moved (Vm.Alike.refl U.vm) q.2.2⟩, tc_rcv (hW.1) hK rfl, fun U hU hW9 => ⟨rfl, by rw [hU]; exact hW, va_K.moved hW9.alike hK⟩⟩ rfl rfl hl.1 rfl (lv_room (Nat.le_of_ble_eq_true rfl)) dX3_move_31 ⟨Nat.le_of_ble_eq_true rfl, Nat.le_of_ble_eq_true rfl⟩) ?_
        refine lv_goto (tgt := 42) hx hb dX3_move_34 (by decide) ?_
        obtain ⟨h91, h92⟩ := tc_pr2 (Option.some.inj hF)
        refine W.widen (k := 0) (n := 0) (Nat.le_of_ble_eq_true rfl) (Nat.le_of_ble_eq_true rfl) ?_
        exact W.iret hx hb hr (fun t ht hW9 => ⟨⟨by rw [← h91], by rw [← h92, ht]; exact hW⟩, tc_F hS ht⟩) hS.2.2 dX3_move_42

def lp_X3_best_33 : Nat → Int32 → Int32 → tc_Y → Int32 → Int32 → Int32 → Option (Int32 × tc_Y)
  | 0, _, _, _, _, _, _ => none
  | n_33 + 1, a1, a2, x1, w11, w12, w13 => (if (x1 6 0) ≤ w13 then some (w11, x1) else Option.bind (f_X3_ticksOf x1 w13 a1 a2) (fun r15 => (if r15 = (-1) then tc_let (w13 + 1) (fun v18 => lp_X3_best_33 n_33 a1 a2 x1 w11 w12 v18) else (if w11 = (-1) then tc_let (w13 + 1) (fun v20 => lp_X3_best_33 n_33 a1 a2 x1 w13 r15 v20) else (if r15 < w12 then tc_let (w13 + 1) (fun v22 => lp_X3_best_33 n_33 a1 a2 x1 w13 r15 v22) else tc_let (w13 + 1) (fun v23 => lp_X3_best_33 n_33 a1 a2 x1 w11 w12 v23))))))
def f_X3_best (x : tc_Y) (a1 : Int32) (a2 : Int32) : Option (Int32 × tc_Y) := tc_let (tc_ym x 0 0 0) (fun x1 => Option.bind (f_X3_isPlace a1) (fun r2 => (if r2 = 0 then tc_b2 (f_X3_no x1 1) (fun r5 x6 => some (r5, x6)) else Option.bind (f_X3_isPlace a2) (fun r8 => (if r8 = 0 then tc_b2 (f_X3_no x1 1) (fun r24 x25 => some (r24, x25)) else lp_X3_best_33 100 a1 a2 x1 (-1) 0 0)))))
set_option maxHeartbeats 4000000 in
set_option maxRecDepth 100000 in
theorem mt_X3_best (l : Launch) (D : va_G) (cU cO cI : ClassId) (A : Nat → Prop) (E : Nat → Nat) (x : tc_Y) (a1 : Int32) (a2 : Int32) (r : Int32) (z : tc_Y) (hF : f_X3_best x a1 a2 = some (r, z)) : Met l yX3_best wsX3_best ({ frames := 3, cells := 0, slots := 0, locals := 77 } : Room) (va_Pc [.ref (E 0), .int a1, .int a2] (fun U => tc_WM D cI A E x U.heap ∧ tc_KM D cU cO cI A U)) (tc_Qw (some (.int r)) (tc_WM D cI A E z) A) 0 0 A := by
  refine Met.ofW (cc := cX3_best) (maxL := 7) (ret := (some .int)) (by decide) rfl ?_
  intro p e s m args below meth c s₁ B hml hv
  obtain ⟨rfl, hW, hKM⟩ := hv
  have hx := B.exec
  have hb := B.bytes
  have hr := B.returns
  have hts := atoms_spec (ws := wsX3_best) B.pre
  have hown : s.vm.findClass RX3 = some m.cls := findClass_of_methodNamed B.named
  have hlocks := B.notSynchronized
  have hK := hKM.1
  have hA := hKM.2
  have hinX3 : ∀ w ∈ wsX30, w ∈ wsX3_best := fun w9 h9 => List.mem_cons_of_mem _ (List.mem_append_right _ h9)
  have hS : va_S A s.heap s.heap [] := va_S.rf
  have hl := lv_entry ([.ref (E 0), .int a1, .int a2]) (n := 7) (Nat.le_of_ble_eq_true rfl)
  rw [lg_entry_eq]
  generalize (lg_sl ([.ref (E 0), .int a1, .int a2]) ++ List.replicate (7 - (lg_sl ([.ref (E 0), .int a1, .int a2])).length) Slot.unset).toArray = ls at hl ⊢
  have hl : lv_has ls 7 [(0, .ref (E 0)), (1, .int a1), (2, .int a2)] := hl
  refine lv_aload_n hx hb dX3_best_0 rfl (lv_at hl 0 rfl) ?_
  refine lv_iconst (v := 0) hx hb dX3_best_1 (by decide) ?_
  refine tc_put (v := .int 0) (ty := .int) hx hb hts hinX3 tyX3 tyX3_ok nmX3 hown hK (hW.1) hS (hW.own (Or.inl rfl)) (C := RX3) (T := TX3) (N := 15) rfl 0 (by decide) (hts (.fieldLink RX3 43 "TreadCranesModel" "thrown" "I") (List.mem_of_getElem? (i := 1) rfl)) (fun _ h9 => h9) rfl (by decide +kernel) rfl rfl (Nat.le_of_ble_eq_true rfl) dX3_best_2 (fun H locs e1 z1 o1 hS => ?_)
  obtain ⟨x1, ex1⟩ : ∃ z : tc_Y, z = tc_ym x 0 0 0 := ⟨_, rfl⟩
  have hF := tc_lt hF ex1
  have hW : tc_WM D cI A E x1 H := by rw [ex1]; exact hW.sf (Or.inl rfl) (by rw [tc_m0]; exact e1) o1
  refine lv_iload_n hx hb dX3_best_5 rfl (lv_at hl 1 rfl) ?_
  obtain ⟨r2, h3, hF⟩ := tc_bi hF
  refine tc_cr (W.runS (As := [.int a1]) (rest := []) ⟨hx, hb, hml, hown, hts⟩ (mt_X3_isPlace l   a1 r2 h3) (va_cwS 1 hts gX3_best_X3_isPlace rfl rfl rfl (by decide +kernel) ⟨Nat.le_of_ble_eq_true rfl, Nat.le_of_ble_eq_true rfl⟩) ⟨fun a U g mk q => q, fun U hU hW9 => ⟨rfl, trivial⟩⟩ rfl rfl hl.1 rfl (lv_room (Nat.le_of_ble_eq_true rfl)) dX3_best_6 ⟨Nat.le_of_ble_eq_true rfl, Nat.le_of_ble_eq_true rfl⟩) ?_
  refine lv_if_eq (tgt := 19) hx hb dX3_best_9 (by decide) (fun c4 => ?_) (fun c4 => ?_)
  · have hF := tc_it hF c4
    refine lv_aload_n hx hb dX3_best_19 rfl (lv_at hl 0 rfl) ?_
    refine lv_iconst (v := 1) hx hb dX3_best_20 (by decide) ?_
    obtain ⟨r5, x6, h7, hF⟩ := tc_bi2 hF
    refine tc_cw (va_runV (As := [.int 1]) (rest := []) ⟨hx, hb, hml, hown, hts⟩ (mt_X3_no l D cU cO cI A E x1 1 r5 x6 h7) (cwV 1 hts gX3_best_X3_no rfl rfl rfl (by decide +kernel) ⟨Nat.le_of_ble_eq_true rfl, Nat.le_of_ble_eq_true rfl⟩) ⟨fun a U g mk q => ⟨q.1, q.2.1, q.2.2.call⟩, tc_rcv (hW.1) hK rfl, fun U hU hW9 => ⟨rfl, by rw [hU]; exact hW, hKM.go hS hU hW9⟩⟩ rfl rfl hl.1 rfl (lv_room (Nat.le_of_ble_eq_true rfl)) dX3_best_21 ⟨Nat.le_of_ble_eq_true rfl, Nat.le_of_ble_eq_true rfl⟩) hS (fun _ _ h => h) (fun _ h => h) (fun H locs hW z1 o1 hS => ?_)
    obtain ⟨h91, h92⟩ := tc_pr2 (Option.some.inj hF)
    refine W.widen (k := 0) (n := 0) (Nat.le_of_ble_eq_true rfl) (Nat.le_of_ble_eq_true rfl) ?_
    exact W.iret hx hb hr (fun t ht hW9 => ⟨⟨by rw [← h91], by rw [← h92, ht]; exact hW⟩, tc_F hS ht⟩) hS.2.2 dX3_best_24
  · have hF := tc_if hF c4
    refine lv_iload_n hx hb dX3_best_12 rfl (lv_at hl 2 rfl) ?_
    obtain ⟨r8, h9, hF⟩ := tc_bi hF
    refine tc_cr (W.runS (As := [.int a2]) (rest := []) ⟨hx, hb, hml, hown, hts⟩ (mt_X3_isPlace l   a2 r8 h9) (va_cwS 1 hts gX3_best_X3_isPlace rfl rfl rfl (by decide +kernel) ⟨Nat.le_of_ble_eq_true rfl, Nat.le_of_ble_eq_true rfl⟩) ⟨fun a U g mk q => q, fun U hU hW9 => ⟨rfl, trivial⟩⟩ rfl rfl hl.1 rfl (lv_room (Nat.le_of_ble_eq_true rfl)) dX3_best_13 ⟨Nat.le_of_ble_eq_true rfl, Nat.le_of_ble_eq_true rfl⟩) ?_
    refine lv_if_ne (tgt := 25) hx hb dX3_best_16 (by decide) (fun c10 => ?_) (fun c10 => ?_)
    · have hF := tc_if hF c10
      refine lv_iconst (v := (-1)) hx hb dX3_best_25 (by decide) ?_
      refine lv_istore_n (lv' := [(3, .int (-1)), (0, .ref (E 0)), (1, .int a1), (2, .int a2)]) hx hb dX3_best_26 rfl hl (by decide) rfl (fun ls hl => ?_)
      refine lv_iconst (v := 0) hx hb dX3_best_27 (by decide) ?_
      refine lv_istore (lv' := [(4, .int 0), (3, .int (-1)), (0, .ref (E 0)), (1, .int a1), (2, .int a2)]) hx hb dX3_best_28 hl (by decide) rfl (fun ls hl => ?_)
      refine lv_iconst (v := 0) hx hb dX3_best_30 (by decide) ?_
      refine lv_istore (lv' := [(5, .int 0), (4, .int 0), (3, .int (-1)), (0, .ref (E 0)), (1, .int a1), (2, .int a2)]) hx hb dX3_best_31 hl (by decide) rfl (fun ls hl => ?_)
      refine tc_lp3 (fun n w11 w12 w13 => lp_X3_best_33 n a1 a2 x1 w11 w12 w13) (fun w11 w12 w13 => [(0, .ref (E 0)), (1, .int a1), (2, .int a2), (3, .int w11), (4, .int w12), (5, .int w13)]) 100 (-1) 0 0 ?_ ?_ hF (lv_sub hl [3, 4, 5, 2, 1, 0] rfl)
      · intro n_33 w11 w12 w13 ih_33 hF ls hl
        have hF : lp_X3_best_33 (n_33 + 1) a1 a2 x1 w11 w12 w13 = some (r, z) := hF
        rw [lp_X3_best_33] at hF
        refine lv_iload hx hb dX3_best_33 (lv_at hl 5 rfl) ?_
        refine lv_aload_n hx hb dX3_best_35 rfl (lv_at hl 0 rfl) ?_
        refine tc_get (v := .int (x1 6 0)) hx hb hts hinX3 hown hK (hW.1) (C := RX3) (T := TX3) (N := 15) rfl 6 (by decide) (hts (.fieldLink RX3 51 "TreadCranesModel" "cranes" "I") (List.mem_of_getElem? (i := 2) rfl)) (fun _ h9 => h9) rfl dX3_best_36 ?_
        refine lv_icmp_ge (tgt := 86) hx hb dX3_best_39 (by decide) (fun c14 => ?_) (fun c14 => ?_)
        · have hF := tc_it hF c14
          refine lv_iload_n hx hb dX3_best_86 rfl (lv_at hl 3 rfl) ?_
          obtain ⟨h91, h92⟩ := tc_pr2 (Option.some.inj hF)
          refine W.widen (k := 0) (n := 0) (Nat.le_of_ble_eq_true rfl) (Nat.le_of_ble_eq_true rfl) ?_
          exact W.iret hx hb hr (fun t ht hW9 => ⟨⟨by rw [← h91], by rw [← h92, ht]; exact hW⟩, tc_F hS ht⟩) hS.2.2 dX3_best_87
        · have hF := tc_if hF c14
          refine lv_aload_n hx hb dX3_best_42 rfl (lv_at hl 0 rfl) ?_
          refine lv_iload hx hb dX3_best_43 (lv_at hl 5 rfl) ?_
          refine lv_iload_n hx hb dX3_best_45 rfl (lv_at hl 1 rfl) ?_
          refine lv_iload_n hx hb dX3_best_46 rfl (lv_at hl 2 rfl) ?_
          obtain ⟨r15, h16, hF⟩ := tc_bi hF
          refine tc_cr (W.runV (As := [.int w13, .int a1, .int a2]) (rest := []) ⟨hx, hb, hml, hown, hts⟩ (mt_X3_ticksOf l D cU cO cI A E x1 w13 a1 a2 r15 h16) (cwV 3 hts gX3_best_X3_ticksOf rfl rfl rfl (by decide +kernel) ⟨Nat.le_of_ble_eq_true rfl, Nat.le_of_ble_eq_true rfl⟩) ⟨fun a U g mk q => ⟨q.1, q.2.1, va_K.moved (Vm.Alike.refl U.vm) q.2.2⟩, tc_rcv (hW.1) hK rfl, fun U hU hW9 => ⟨rfl, by rw [hU]; exact hW, va_K.moved hW9.alike hK⟩⟩ rfl rfl hl.1 rfl (lv_room (Nat.le_of_ble_eq_true rfl)) dX3_best_47 ⟨Nat.le_of_ble_eq_true rfl, Nat.le_of_ble_eq_true rfl⟩) ?_
          refine lv_istore (lv' := [(6, .int r15), (0, .ref (E 0)), (1, .int a1), (2, .int a2), (3, .int w11), (4, .int w12), (5, .int w13)]) hx hb dX3_best_50 hl (by decide) rfl (fun ls hl => ?_)
          refine lv_iload hx hb dX3_best_52 (lv_at hl 0 rfl) ?_
          refine lv_iconst (v := (-1)) hx hb dX3_best_54 (by decide) ?_
          refine lv_icmp_eq (tgt := 80) hx hb dX3_best_55 (by decide) (fun c17 => ?_) (fun c17 => ?_)
          · have hF := tc_it hF c17
            obtain ⟨v18, ev18⟩ : ∃ z : Int32, z = w13 + 1 := ⟨_, rfl⟩
            have hF := tc_lt hF ev18
            refine lv_iinc (v := v18) (lv' := [(5, .int v18), (6, .int r15), (0, .ref (E 0)), (1, .int a1), (2, .int a2), (3, .int w11), (4, .int w12)]) hx hb dX3_best_80 hl (k := 6) rfl (by rw [ev18]; rfl) (by decide) rfl (fun ls hl => ?_)
            refine lv_goto (tgt := 33) hx hb dX3_best_83 (by decide) ?_
            exact ih_33 w11 w12 v18 hF _ (lv_sub hl [2, 3, 4, 5, 6, 0] rfl)
          · have hF := tc_if hF c17
            refine lv_iload_n hx hb dX3_best_58 rfl (lv_at hl 4 rfl) ?_
            refine lv_iconst (v := (-1)) hx hb dX3_best_59 (by decide) ?_
            refine lv_icmp_eq (tgt := 73) hx hb dX3_best_60 (by decide) (fun c19 => ?_) (fun c19 => ?_)
            · have hF := tc_it hF c19
              refine lv_iload hx hb dX3_best_73 (lv_at hl 6 rfl) ?_
              refine lv_istore_n (lv' := [(3, .int w13), (6, .int r15), (0, .ref (E 0)), (1, .int a1), (2, .int a2), (4, .int w12), (5, .int w13)]) hx hb dX3_best_75 rfl hl (by decide) rfl (fun ls hl => ?_)
              refine lv_iload hx hb dX3_best_76 (lv_at hl 1 rfl) ?_
              refine lv_istore (lv' := [(4, .int r15), (3, .int w13), (6, .int r15), (0, .ref (E 0)), (1, .int a1), (2, .int a2), (5, .int w13)]) hx hb dX3_best_78 hl (by decide) rfl (fun ls hl => ?_)
              obtain ⟨v20, ev20⟩ : ∃ z : Int32, z = w13 + 1 := ⟨_, rfl⟩
              have hF := tc_lt hF ev20
              refine lv_iinc (v := v20) (lv' := [(5, .int v20), (4, .int r15), (3, .int w13), (6, .int r15), (0, .ref (E 0)), (1, .int a1), (2, .int a2)]) hx hb dX3_best_80 hl (k := 6) rfl (by rw [ev20]; rfl) (by decide) rfl (fun ls hl => ?_)
              refine lv_goto (tgt := 33) hx hb dX3_best_83 (by decide) ?_
              exact ih_33 w13 r15 v20 hF _ (lv_sub hl [4, 5, 6, 2, 1, 0] rfl)
            · have hF := tc_if hF c19
              refine lv_iload hx hb dX3_best_63 (lv_at hl 0 rfl) ?_
              refine lv_iload hx hb dX3_best_65 (lv_at hl 5 rfl) ?_
              refine lv_icmp_lt (tgt := 73) hx hb dX3_best_67 (by decide) (fun c21 => ?_) (fun c21 => ?_)
              · have hF := tc_it hF c21
                refine lv_iload hx hb dX3_best_73 (lv_at hl 6 rfl) ?_
                refine lv_istore_n (lv' := [(3, .int w13), (6, .int r15), (0, .ref (E 0)), (1, .int a1), (2, .int a2), (4, .int w12), (5, .int w13)]) hx hb dX3_best_75 rfl hl (by decide) rfl (fun ls hl => ?_)
                refine lv_iload hx hb dX3_best_76 (lv_at hl 1 rfl) ?_
                refine lv_istore (lv' := [(4, .int r15), (3, .int w13), (6, .int r15), (0, .ref (E 0)), (1, .int a1), (2, .int a2), (5, .int w13)]) hx hb dX3_best_78 hl (by decide) rfl (fun ls hl => ?_)
                obtain ⟨v22, ev22⟩ : ∃ z : Int32, z = w13 + 1 := ⟨_, rfl⟩
                have hF := tc_lt hF ev22
                refine lv_iinc (v := v22) (lv' := [(5, .int v22), (4, .int r15), (3, .int w13), (6, .int r15), (0, .ref (E 0)), (1, .int a1), (2, .int a2)]) hx hb dX3_best_80 hl (k := 6) rfl (by rw [ev22]; rfl) (by decide) rfl (fun ls hl => ?_)
                refine lv_goto (tgt := 33) hx hb dX3_best_83 (by decide) ?_
                exact ih_33 w13 r15 v22 hF _ (lv_sub hl [4, 5, 6, 2, 1, 0] rfl)
              · have hF := tc_if hF c21
                refine lv_goto (tgt := 80) hx hb dX3_best_70 (by decide) ?_
                obtain ⟨v23, ev23⟩ : ∃ z : Int32, z = w13 + 1 := ⟨_, rfl⟩
                have hF := tc_lt hF ev23
                refine lv_iinc (v := v23) (lv' := [(5, .int v23), (6, .int r15), (0, .ref (E 0)), (1, .int a1), (2, .int a2), (3, .int w11), (4, .int w12)]) hx hb dX3_best_80 hl (k := 6) rfl (by rw [ev23]; rfl) (by decide) rfl (fun ls hl => ?_)
                refine lv_goto (tgt := 33) hx hb dX3_best_83 (by decide) ?_
                exact ih_33 w11 w12 v23 hF _ (lv_sub hl [2, 3, 4, 5, 6, 0] rfl)
      · intro w11 w12 w13 h9
        have h9 : lp_X3_best_33 0 a1 a2 x1 w11 w12 w13 = some (r, z) := h9
        rw [lp_X3_best_33] at h9
        cases h9
    · have hF := tc_it hF c10
      refine lv_aload_n hx hb dX3_best_19 rfl (lv_at hl 0 rfl) ?_
      refine lv_iconst (v := 1) hx hb dX3_best_20 (by decide) ?_
      obtain ⟨r24, x25, h26, hF⟩ := tc_bi2 hF
      refine tc_cw (va_runV (As := [.int 1]) (rest := []) ⟨hx, hb, hml, hown, hts⟩ (mt_X3_no l D cU cO cI A E x1 1 r24 x25 h26) (cwV 1 hts gX3_best_X3_no rfl rfl rfl (by decide +kernel) ⟨Nat.le_of_ble_eq_true rfl, Nat.le_of_ble_eq_true rfl⟩) ⟨fun a U g mk q => ⟨q.1, q.2.1, q.2.2.call⟩, tc_rcv (hW.1) hK rfl, fun U hU hW9 => ⟨rfl, by rw [hU]; exact hW, hKM.go hS hU hW9⟩⟩ rfl rfl hl.1 rfl (lv_room (Nat.le_of_ble_eq_true rfl)) dX3_best_21 ⟨Nat.le_of_ble_eq_true rfl, Nat.le_of_ble_eq_true rfl⟩) hS (fun _ _ h => h) (fun _ h => h) (fun H locs hW z1 o1 hS => ?_)
      obtain ⟨h91, h92⟩ := tc_pr2 (Option.some.inj hF)
      refine W.widen (k := 0) (n := 0) (Nat.le_of_ble_eq_true rfl) (Nat.le_of_ble_eq_true rfl) ?_
      exact W.iret hx hb hr (fun t ht hW9 => ⟨⟨by rw [← h91], by rw [← h92, ht]; exact hW⟩, tc_F hS ht⟩) hS.2.2 dX3_best_24

def f_X3_lasts (x : tc_Y) (a1 : Int32) (a2 : Int32) : Option (Int32 × tc_Y) := tc_let (tc_ym x 0 0 0) (fun x1 => Option.bind (f_X3_isCrane x1 a1) (fun r2 => (if r2 = 0 then tc_b2 (f_X3_no x1 1) (fun r13 x14 => some (r13, x14)) else Option.bind (f_X3_isIn a2 1 60) (fun r5 => (if r5 = 0 then tc_b2 (f_X3_no x1 2) (fun r8 x9 => some (r8, x9)) else (if ¬ a1 < 0 ∧ a1.toNatClampNeg < 5 then (if ¬ ((a2 / 20) + 1) = 0 then some (((99 - (x1 11 a1.toNatClampNeg)) / ((a2 / 20) + 1)), x1) else none) else none))))))
set_option maxHeartbeats 4000000 in
set_option maxRecDepth 100000 in
theorem mt_X3_lasts (l : Launch) (D : va_G) (cU cO cI : ClassId) (A : Nat → Prop) (E : Nat → Nat) (x : tc_Y) (a1 : Int32) (a2 : Int32) (r : Int32) (z : tc_Y) (hF : f_X3_lasts x a1 a2 = some (r, z)) : Met l yX3_lasts wsX3_lasts ({ frames := 2, cells := 0, slots := 0, locals := 43 } : Room) (va_Pc [.ref (E 0), .int a1, .int a2] (fun U => tc_WM D cI A E x U.heap ∧ tc_KM D cU cO cI A U)) (tc_Qw (some (.int r)) (tc_WM D cI A E z) A) 0 0 A := by
  refine Met.ofW (cc := cX3_lasts) (maxL := 3) (ret := (some .int)) (by decide) rfl ?_
  intro p e s m args below meth c s₁ B hml hv
  obtain ⟨rfl, hW, hKM⟩ := hv
  have hx := B.exec
  have hb := B.bytes
  have hr := B.returns
  have hts := atoms_spec (ws := wsX3_lasts) B.pre
  have hown : s.vm.findClass RX3 = some m.cls := findClass_of_methodNamed B.named
  have hlocks := B.notSynchronized
  have hK := hKM.1
  have hA := hKM.2
  have hinX3 : ∀ w ∈ wsX30, w ∈ wsX3_lasts := fun w9 h9 => List.mem_cons_of_mem _ (List.mem_append_right _ h9)
  have hS : va_S A s.heap s.heap [] := va_S.rf
  have hl := lv_entry ([.ref (E 0), .int a1, .int a2]) (n := 3) (Nat.le_of_ble_eq_true rfl)
  rw [lg_entry_eq]
  generalize (lg_sl ([.ref (E 0), .int a1, .int a2]) ++ List.replicate (3 - (lg_sl ([.ref (E 0), .int a1, .int a2])).length) Slot.unset).toArray = ls at hl ⊢
  have hl : lv_has ls 3 [(0, .ref (E 0)), (1, .int a1), (2, .int a2)] := hl
  refine lv_aload_n hx hb dX3_lasts_0 rfl (lv_at hl 0 rfl) ?_
  refine lv_iconst (v := 0) hx hb dX3_lasts_1 (by decide) ?_
  refine tc_put (v := .int 0) (ty := .int) hx hb hts hinX3 tyX3 tyX3_ok nmX3 hown hK (hW.1) hS (hW.own (Or.inl rfl)) (C := RX3) (T := TX3) (N := 15) rfl 0 (by decide) (hts (.fieldLink RX3 43 "TreadCranesModel" "thrown" "I") (List.mem_of_getElem? (i := 1) rfl)) (fun _ h9 => h9) rfl (by decide +kernel) rfl rfl (Nat.le_of_ble_eq_true rfl) dX3_lasts_2 (fun H locs e1 z1 o1 hS => ?_)
  obtain ⟨x1, ex1⟩ : ∃ z : tc_Y, z = tc_ym x 0 0 0 := ⟨_, rfl⟩
  have hF := tc_lt hF ex1
  have hW : tc_WM D cI A E x1 H := by rw [ex1]; exact hW.sf (Or.inl rfl) (by rw [tc_m0]; exact e1) o1
  refine lv_aload_n hx hb dX3_lasts_5 rfl (lv_at hl 0 rfl) ?_
  refine lv_iload_n hx hb dX3_lasts_6 rfl (lv_at hl 1 rfl) ?_
  obtain ⟨r2, h3, hF⟩ := tc_bi hF
  refine tc_cr (W.runV (As := [.int a1]) (rest := []) ⟨hx, hb, hml, hown, hts⟩ (mt_X3_isCrane l D cU cO cI A E x1 a1 r2 h3) (cwV 1 hts gX3_lasts_X3_isCrane rfl rfl rfl (by decide +kernel) ⟨Nat.le_of_ble_eq_true rfl, Nat.le_of_ble_eq_true rfl⟩) ⟨fun a U g mk q => ⟨q.1, q.2.1, va_K.moved (Vm.Alike.refl U.vm) q.2.2⟩, tc_rcv (hW.1) hK rfl, fun U hU hW9 => ⟨rfl, by rw [hU]; exact hW, va_K.moved hW9.alike hK⟩⟩ rfl rfl hl.1 rfl (lv_room (Nat.le_of_ble_eq_true rfl)) dX3_lasts_7 ⟨Nat.le_of_ble_eq_true rfl, Nat.le_of_ble_eq_true rfl⟩) ?_
  refine lv_if_ne (tgt := 19) hx hb dX3_lasts_10 (by decide) (fun c4 => ?_) (fun c4 => ?_)
  · have hF := tc_if hF c4
    refine lv_iload_n hx hb dX3_lasts_19 rfl (lv_at hl 2 rfl) ?_
    refine lv_iconst (v := 1) hx hb dX3_lasts_20 (by decide) ?_
    refine lv_bipush (v := 60) hx hb dX3_lasts_21 (by decide) ?_
    obtain ⟨r5, h6, hF⟩ := tc_bi hF
    refine tc_cr (W.runS (As := [.int a2, .int 1, .int 60]) (rest := []) ⟨hx, hb, hml, hown, hts⟩ (mt_X3_isIn l   a2 1 60 r5 h6) (va_cwS 3 hts gX3_lasts_X3_isIn rfl rfl rfl (by decide +kernel) ⟨Nat.le_of_ble_eq_true rfl, Nat.le_of_ble_eq_true rfl⟩) ⟨fun a U g mk q => q, fun U hU hW9 => ⟨rfl, trivial⟩⟩ rfl rfl hl.1 rfl (lv_room (Nat.le_of_ble_eq_true rfl)) dX3_lasts_23 ⟨Nat.le_of_ble_eq_true rfl, Nat.le_of_ble_eq_true rfl⟩) ?_
    refine lv_if_eq (tgt := 48) hx hb dX3_lasts_26 (by decide) (fun c7 => ?_) (fun c7 => ?_)
    · have hF := tc_it hF c7
      refine lv_aload_n hx hb dX3_lasts_48 rfl (lv_at hl 0 rfl) ?_
      refine lv_iconst (v := 2) hx hb dX3_lasts_49 (by decide) ?_
      obtain ⟨r8, x9, h10, hF⟩ := tc_bi2 hF
      refine tc_cw (va_runV (As := [.int 2]) (rest := []) ⟨hx, hb, hml, hown, hts⟩ (mt_X3_no l D cU cO cI A E x1 2 r8 x9 h10) (cwV 1 hts gX3_lasts_X3_no rfl rfl rfl (by decide +kernel) ⟨Nat.le_of_ble_eq_true rfl, Nat.le_of_ble_eq_true rfl⟩) ⟨fun a U g mk q => ⟨q.1, q.2.1, q.2.2.call⟩, tc_rcv (hW.1) hK rfl, fun U hU hW9 => ⟨rfl, by rw [hU]; exact hW, hKM.go hS hU hW9⟩⟩ rfl rfl hl.1 rfl (lv_room (Nat.le_of_ble_eq_true rfl)) dX3_lasts_50 ⟨Nat.le_of_ble_eq_true rfl, Nat.le_of_ble_eq_true rfl⟩) hS (fun _ _ h => h) (fun _ h => h) (fun H locs hW z1 o1 hS => ?_)
      obtain ⟨h91, h92⟩ := tc_pr2 (Option.some.inj hF)
      refine W.widen (k := 0) (n := 0) (Nat.le_of_ble_eq_true rfl) (Nat.le_of_ble_eq_true rfl) ?_
      exact W.iret hx hb hr (fun t ht hW9 => ⟨⟨by rw [← h91], by rw [← h92, ht]; exact hW⟩, tc_F hS ht⟩) hS.2.2 dX3_lasts_53
    · have hF := tc_if hF c7
      refine lv_bipush (v := 99) hx hb dX3_lasts_29 (by decide) ?_
      refine lv_aload_n hx hb dX3_lasts_31 rfl (lv_at hl 0 rfl) ?_
      refine tc_get (v := .ref (E 11)) hx hb hts hinX3 hown hK (hW.1) (C := RX3) (T := TX3) (N := 15) rfl 11 (by decide) (hts (.fieldLink RX3 31 "TreadCranesModel" "worn" "[I") (List.mem_of_getElem? (i := 2) rfl)) (fun _ h9 => h9) rfl dX3_lasts_32 ?_
      refine lv_iload_n hx hb dX3_lasts_35 rfl (lv_at hl 1 rfl) ?_
      obtain ⟨g11, hF⟩ := tc_ob hF
      refine tc_iald (f := x1 11) hx hb hK (hW.hi ⟨by decide, by decide⟩) 2 rfl g11 dX3_lasts_36 ?_
      refine lv_isub hx hb dX3_lasts_37 ?_
      refine lv_iload_n hx hb dX3_lasts_38 rfl (lv_at hl 2 rfl) ?_
      refine lv_bipush (v := 20) hx hb dX3_lasts_39 (by decide) ?_
      refine lv_idiv hx hb dX3_lasts_41 (by decide) ?_
      refine lv_iconst (v := 1) hx hb dX3_lasts_42 (by decide) ?_
      refine lv_iadd hx hb dX3_lasts_43 ?_
      obtain ⟨g12, hF⟩ := tc_ob hF
      refine lv_idiv hx hb dX3_lasts_44 g12 ?_
      refine lv_goto (tgt := 53) hx hb dX3_lasts_45 (by decide) ?_
      obtain ⟨h91, h92⟩ := tc_pr2 (Option.some.inj hF)
      refine W.widen (k := 0) (n := 0) (Nat.le_of_ble_eq_true rfl) (Nat.le_of_ble_eq_true rfl) ?_
      exact W.iret hx hb hr (fun t ht hW9 => ⟨⟨by rw [← h91], by rw [← h92, ht]; exact hW⟩, tc_F hS ht⟩) hS.2.2 dX3_lasts_53
  · have hF := tc_it hF c4
    refine lv_aload_n hx hb dX3_lasts_13 rfl (lv_at hl 0 rfl) ?_
    refine lv_iconst (v := 1) hx hb dX3_lasts_14 (by decide) ?_
    obtain ⟨r13, x14, h15, hF⟩ := tc_bi2 hF
    refine tc_cw (va_runV (As := [.int 1]) (rest := []) ⟨hx, hb, hml, hown, hts⟩ (mt_X3_no l D cU cO cI A E x1 1 r13 x14 h15) (cwV 1 hts gX3_lasts_X3_no rfl rfl rfl (by decide +kernel) ⟨Nat.le_of_ble_eq_true rfl, Nat.le_of_ble_eq_true rfl⟩) ⟨fun a U g mk q => ⟨q.1, q.2.1, q.2.2.call⟩, tc_rcv (hW.1) hK rfl, fun U hU hW9 => ⟨rfl, by rw [hU]; exact hW, hKM.go hS hU hW9⟩⟩ rfl rfl hl.1 rfl (lv_room (Nat.le_of_ble_eq_true rfl)) dX3_lasts_15 ⟨Nat.le_of_ble_eq_true rfl, Nat.le_of_ble_eq_true rfl⟩) hS (fun _ _ h => h) (fun _ h => h) (fun H locs hW z1 o1 hS => ?_)
    obtain ⟨h91, h92⟩ := tc_pr2 (Option.some.inj hF)
    refine W.widen (k := 0) (n := 0) (Nat.le_of_ble_eq_true rfl) (Nat.le_of_ble_eq_true rfl) ?_
    exact W.iret hx hb hr (fun t ht hW9 => ⟨⟨by rw [← h91], by rw [← h92, ht]; exact hW⟩, tc_F hS ht⟩) hS.2.2 dX3_lasts_18

def lp_X3_within_23 : Nat → Int32 → tc_Y → Int32 → Int32 → Option (Int32 × tc_Y)
  | 0, _, _, _, _ => none
  | n_23 + 1, a1, x1, w5, w6 => (if (x1 2 0) ≤ w6 then some (w5, x1) else (if ¬ w6 < 0 ∧ w6.toNatClampNeg < 40 then (if (x1 4 w6.toNatClampNeg) < 0 then tc_let (w5 + 0) (fun v10 => tc_let (w6 + 1) (fun v11 => lp_X3_within_23 n_23 a1 x1 v10 v11)) else Option.bind (f_X3_isInReach x1 a1 (x1 4 w6.toNatClampNeg)) (fun r12 => (if r12 = 0 then tc_let (w5 + 0) (fun v15 => tc_let (w6 + 1) (fun v16 => lp_X3_within_23 n_23 a1 x1 v15 v16)) else Option.bind (f_X3_strength x1 a1) (fun r17 => (if r17 < (x1 3 w6.toNatClampNeg) then tc_let (w5 + 0) (fun v20 => tc_let (w6 + 1) (fun v21 => lp_X3_within_23 n_23 a1 x1 v20 v21)) else tc_let (w5 + 1) (fun v22 => tc_let (w6 + 1) (fun v23 => lp_X3_within_23 n_23 a1 x1 v22 v23))))))) else none))
def f_X3_within (x : tc_Y) (a1 : Int32) : Option (Int32 × tc_Y) := tc_let (tc_ym x 0 0 0) (fun x1 => Option.bind (f_X3_isCrane x1 a1) (fun r2 => (if r2 = 0 then tc_b2 (f_X3_no x1 1) (fun r24 x25 => some (r24, x25)) else lp_X3_within_23 100 a1 x1 0 0)))
set_option maxHeartbeats 4000000 in
set_option maxRecDepth 100000 in
theorem mt_X3_within (l : Launch) (D : va_G) (cU cO cI : ClassId) (A : Nat → Prop) (E : Nat → Nat) (x : tc_Y) (a1 : Int32) (r : Int32) (z : tc_Y) (hF : f_X3_within x a1 = some (r, z)) : Met l yX3_within wsX3_within ({ frames := 2, cells := 0, slots := 0, locals := 43 } : Room) (va_Pc [.ref (E 0), .int a1] (fun U => tc_WM D cI A E x U.heap ∧ tc_KM D cU cO cI A U)) (tc_Qw (some (.int r)) (tc_WM D cI A E z) A) 0 0 A := by
  refine Met.ofW (cc := cX3_within) (maxL := 4) (ret := (some .int)) (by decide) rfl ?_
  intro p e s m args below meth c s₁ B hml hv
  obtain ⟨rfl, hW, hKM⟩ := hv
  have hx := B.exec
  have hb := B.bytes
  have hr := B.returns
  have hts := atoms_spec (ws := wsX3_within) B.pre
  have hown : s.vm.findClass RX3 = some m.cls := findClass_of_methodNamed B.named
  have hlocks := B.notSynchronized
  have hK := hKM.1
  have hA := hKM.2
  have hinX3 : ∀ w ∈ wsX30, w ∈ wsX3_within := fun w9 h9 => List.mem_cons_of_mem _ (List.mem_append_right _ h9)
  have hS : va_S A s.heap s.heap [] := va_S.rf
  have hl := lv_entry ([.ref (E 0), .int a1]) (n := 4) (Nat.le_of_ble_eq_true rfl)
  rw [lg_entry_eq]
  generalize (lg_sl ([.ref (E 0), .int a1]) ++ List.replicate (4 - (lg_sl ([.ref (E 0), .int a1])).length) Slot.unset).toArray = ls at hl ⊢
  have hl : lv_has ls 4 [(0, .ref (E 0)), (1, .int a1)] := hl
  refine lv_aload_n hx hb dX3_within_0 rfl (lv_at hl 0 rfl) ?_
  refine lv_iconst (v := 0) hx hb dX3_within_1 (by decide) ?_
  refine tc_put (v := .int 0) (ty := .int) hx hb hts hinX3 tyX3 tyX3_ok nmX3 hown hK (hW.1) hS (hW.own (Or.inl rfl)) (C := RX3) (T := TX3) (N := 15) rfl 0 (by decide) (hts (.fieldLink RX3 43 "TreadCranesModel" "thrown" "I") (List.mem_of_getElem? (i := 1) rfl)) (fun _ h9 => h9) rfl (by decide +kernel) rfl rfl (Nat.le_of_ble_eq_true rfl) dX3_within_2 (fun H locs e1 z1 o1 hS => ?_)
  obtain ⟨x1, ex1⟩ : ∃ z : tc_Y, z = tc_ym x 0 0 0 := ⟨_, rfl⟩
  have hF := tc_lt hF ex1
  have hW : tc_WM D cI A E x1 H := by rw [ex1]; exact hW.sf (Or.inl rfl) (by rw [tc_m0]; exact e1) o1
  refine lv_aload_n hx hb dX3_within_5 rfl (lv_at hl 0 rfl) ?_
  refine lv_iload_n hx hb dX3_within_6 rfl (lv_at hl 1 rfl) ?_
  obtain ⟨r2, h3, hF⟩ := tc_bi hF
  refine tc_cr (W.runV (As := [.int a1]) (rest := []) ⟨hx, hb, hml, hown, hts⟩ (mt_X3_isCrane l D cU cO cI A E x1 a1 r2 h3) (cwV 1 hts gX3_within_X3_isCrane rfl rfl rfl (by decide +kernel) ⟨Nat.le_of_ble_eq_true rfl, Nat.le_of_ble_eq_true rfl⟩) ⟨fun a U g mk q => ⟨q.1, q.2.1, va_K.moved (Vm.Alike.refl U.vm) q.2.2⟩, tc_rcv (hW.1) hK rfl, fun U hU hW9 => ⟨rfl, by rw [hU]; exact hW, va_K.moved hW9.alike hK⟩⟩ rfl rfl hl.1 rfl (lv_room (Nat.le_of_ble_eq_true rfl)) dX3_within_7 ⟨Nat.le_of_ble_eq_true rfl, Nat.le_of_ble_eq_true rfl⟩) ?_
  refine lv_if_ne (tgt := 19) hx hb dX3_within_10 (by decide) (fun c4 => ?_) (fun c4 => ?_)
  · have hF := tc_if hF c4
    refine lv_iconst (v := 0) hx hb dX3_within_19 (by decide) ?_
    refine lv_istore_n (lv' := [(2, .int 0), (0, .ref (E 0)), (1, .int a1)]) hx hb dX3_within_20 rfl hl (by decide) rfl (fun ls hl => ?_)
    refine lv_iconst (v := 0) hx hb dX3_within_21 (by decide) ?_
    refine lv_istore_n (lv' := [(3, .int 0), (2, .int 0), (0, .ref (E 0)), (1, .int a1)]) hx hb dX3_within_22 rfl hl (by decide) rfl (fun ls hl => ?_)
    refine tc_lp2 (fun n w5 w6 => lp_X3_within_23 n a1 x1 w5 w6) (fun w5 w6 => [(0, .ref (E 0)), (1, .int a1), (2, .int w5), (3, .int w6)]) 100 0 0 ?_ ?_ hF (lv_sub hl [2, 3, 1, 0] rfl)
    · intro n_23 w5 w6 ih_23 hF ls hl
      have hF : lp_X3_within_23 (n_23 + 1) a1 x1 w5 w6 = some (r, z) := hF
      rw [lp_X3_within_23] at hF
      refine lv_iload_n hx hb dX3_within_23 rfl (lv_at hl 3 rfl) ?_
      refine lv_aload_n hx hb dX3_within_24 rfl (lv_at hl 0 rfl) ?_
      refine tc_get (v := .int (x1 2 0)) hx hb hts hinX3 hown hK (hW.1) (C := RX3) (T := TX3) (N := 15) rfl 2 (by decide) (hts (.fieldLink RX3 54 "TreadCranesModel" "barrels" "I") (List.mem_of_getElem? (i := 2) rfl)) (fun _ h9 => h9) rfl dX3_within_25 ?_
      refine lv_icmp_ge (tgt := 82) hx hb dX3_within_28 (by decide) (fun c7 => ?_) (fun c7 => ?_)
      · have hF := tc_it hF c7
        refine lv_iload_n hx hb dX3_within_82 rfl (lv_at hl 2 rfl) ?_
        obtain ⟨h91, h92⟩ := tc_pr2 (Option.some.inj hF)
        refine W.widen (k := 0) (n := 0) (Nat.le_of_ble_eq_true rfl) (Nat.le_of_ble_eq_true rfl) ?_
        exact W.iret hx hb hr (fun t ht hW9 => ⟨⟨by rw [← h91], by rw [← h92, ht]; exact hW⟩, tc_F hS ht⟩) hS.2.2 dX3_within_83
      · have hF := tc_if hF c7
        refine lv_iload_n hx hb dX3_within_31 rfl (lv_at hl 2 rfl) ?_
        refine lv_aload_n hx hb dX3_within_32 rfl (lv_at hl 0 rfl) ?_
        refine tc_get (v := .ref (E 4)) hx hb hts hinX3 hown hK (hW.1) (C := RX3) (T := TX3) (N := 15) rfl 4 (by decide) (hts (.fieldLink RX3 13 "TreadCranesModel" "at" "[I") (List.mem_of_getElem? (i := 3) rfl)) (fun _ h9 => h9) rfl dX3_within_33 ?_
        refine lv_iload_n hx hb dX3_within_36 rfl (lv_at hl 3 rfl) ?_
        obtain ⟨g8, hF⟩ := tc_ob hF
        refine tc_iald (f := x1 4) hx hb hK (hW.lo ⟨by decide, by decide⟩) 2 rfl g8 dX3_within_37 ?_
        refine lv_if_lt (tgt := 73) hx hb dX3_within_38 (by decide) (fun c9 => ?_) (fun c9 => ?_)
        · have hF := tc_it hF c9
          refine lv_iconst (v := 0) hx hb dX3_within_73 (by decide) ?_
          refine lv_iadd hx hb dX3_within_74 ?_
          refine lv_topi (fun v10 ev10 => ?_)
          have hF := tc_lt hF ev10
          refine lv_istore_n (lv' := [(2, .int v10), (0, .ref (E 0)), (1, .int a1), (3, .int w6)]) hx hb dX3_within_75 rfl hl (by decide) rfl (fun ls hl => ?_)
          obtain ⟨v11, ev11⟩ : ∃ z : Int32, z = w6 + 1 := ⟨_, rfl⟩
          have hF := tc_lt hF ev11
          refine lv_iinc (v := v11) (lv' := [(3, .int v11), (2, .int v10), (0, .ref (E 0)), (1, .int a1)]) hx hb dX3_within_76 hl (k := 3) rfl (by rw [ev11]; rfl) (by decide) rfl (fun ls hl => ?_)
          refine lv_goto (tgt := 23) hx hb dX3_within_79 (by decide) ?_
          exact ih_23 v10 v11 hF _ (lv_sub hl [2, 3, 1, 0] rfl)
        · have hF := tc_if hF c9
          refine lv_aload_n hx hb dX3_within_41 rfl (lv_at hl 0 rfl) ?_
          refine lv_iload_n hx hb dX3_within_42 rfl (lv_at hl 1 rfl) ?_
          refine lv_aload_n hx hb dX3_within_43 rfl (lv_at hl 0 rfl) ?_
          refine tc_get (v := .ref (E 4)) hx hb hts hinX3 hown hK (hW.1) (C := RX3) (T := TX3) (N := 15) rfl 4 (by decide) (hts (.fieldLink RX3 13 "TreadCranesModel" "at" "[I") (List.mem_of_getElem? (i := 3) rfl)) (fun _ h9 => h9) rfl dX3_within_44 ?_
          refine lv_iload_n hx hb dX3_within_47 rfl (lv_at hl 3 rfl) ?_
          refine tc_iald (f := x1 4) hx hb hK (hW.lo ⟨by decide, by decide⟩) 2 rfl g8 dX3_within_48 ?_
          obtain ⟨r12, h13, hF⟩ := tc_bi hF
          refine tc_cr (W.runV (As := [.int a1, .int (x1 4 w6.toNatClampNeg)]) (rest := [.int w5]) ⟨hx, hb, hml, hown, hts⟩ (mt_X3_isInReach l D cU cO cI A E x1 a1 (x1 4 w6.toNatClampNeg) r12 h13) (cwV 2 hts gX3_within_X3_isInReach rfl rfl rfl (by decide +kernel) ⟨Nat.le_of_ble_eq_true rfl, Nat.le_of_ble_eq_true rfl⟩) ⟨fun a U g mk q => ⟨q.1, q.2.1, va_K.moved (Vm.Alike.refl U.vm) q.2.2⟩, tc_rcv (hW.1) hK rfl, fun U hU hW9 => ⟨rfl, by rw [hU]; exact hW, va_K.moved hW9.alike hK⟩⟩ rfl rfl hl.1 rfl (lv_room (Nat.le_of_ble_eq_true rfl)) dX3_within_49 ⟨Nat.le_of_ble_eq_true rfl, Nat.le_of_ble_eq_true rfl⟩) ?_
          refine lv_if_eq (tgt := 73) hx hb dX3_within_52 (by decide) (fun c14 => ?_) (fun c14 => ?_)
          · have hF := tc_it hF c14
            refine lv_iconst (v := 0) hx hb dX3_within_73 (by decide) ?_
            refine lv_iadd hx hb dX3_within_74 ?_
            refine lv_topi (fun v15 ev15 => ?_)
            have hF := tc_lt hF ev15
            refine lv_istore_n (lv' := [(2, .int v15), (0, .ref (E 0)), (1, .int a1), (3, .int w6)]) hx hb dX3_within_75 rfl hl (by decide) rfl (fun ls hl => ?_)
            obtain ⟨v16, ev16⟩ : ∃ z : Int32, z = w6 + 1 := ⟨_, rfl⟩
            have hF := tc_lt hF ev16
            refine lv_iinc (v := v16) (lv' := [(3, .int v16), (2, .int v15), (0, .ref (E 0)), (1, .int a1)]) hx hb dX3_within_76 hl (k := 3) rfl (by rw [ev16]; rfl) (by decide) rfl (fun ls hl => ?_)
            refine lv_goto (tgt := 23) hx hb dX3_within_79 (by decide) ?_
            exact ih_23 v15 v16 hF _ (lv_sub hl [2, 3, 1, 0] rfl)
          · have hF := tc_if hF c14
            refine lv_aload_n hx hb dX3_within_55 rfl (lv_at hl 0 rfl) ?_
            refine tc_get (v := .ref (E 3)) hx hb hts hinX3 hown hK (hW.1) (C := RX3) (T := TX3) (N := 15) rfl 3 (by decide) (hts (.fieldLink RX3 9 "TreadCranesModel" "weight" "[I") (List.mem_of_getElem? (i := 4) rfl)) (fun _ h9 => h9) rfl dX3_within_56 ?_
            refine lv_iload_n hx hb dX3_within_59 rfl (lv_at hl 3 rfl) ?_
            refine tc_iald (f := x1 3) hx hb hK (hW.lo ⟨by decide, by decide⟩) 2 rfl g8 dX3_within_60 ?_
            refine lv_aload_n hx hb dX3_within_61 rfl (lv_at hl 0 rfl) ?_
            refine lv_iload_n hx hb dX3_within_62 rfl (lv_at hl 1 rfl) ?_
            obtain ⟨r17, h18, hF⟩ := tc_bi hF
            refine tc_cr (W.runV (As := [.int a1]) (rest := [.int (x1 3 w6.toNatClampNeg), .int w5]) ⟨hx, hb, hml, hown, hts⟩ (mt_X3_strength l D cU cO cI A E x1 a1 r17 h18) (cwV 1 hts gX3_within_X3_strength rfl rfl rfl (by decide +kernel) ⟨Nat.le_of_ble_eq_true rfl, Nat.le_of_ble_eq_true rfl⟩) ⟨fun a U g mk q => ⟨q.1, q.2.1, va_K.moved (Vm.Alike.refl U.vm) q.2.2⟩, tc_rcv (hW.1) hK rfl, fun U hU hW9 => ⟨rfl, by rw [hU]; exact hW, va_K.moved hW9.alike hK⟩⟩ rfl rfl hl.1 rfl (lv_room (Nat.le_of_ble_eq_true rfl)) dX3_within_63 ⟨Nat.le_of_ble_eq_true rfl, Nat.le_of_ble_eq_true rfl⟩) ?_
            refine lv_icmp_gt (tgt := 73) hx hb dX3_within_66 (by decide) (fun c19 => ?_) (fun c19 => ?_)
            · have hF := tc_it hF c19
              refine lv_iconst (v := 0) hx hb dX3_within_73 (by decide) ?_
              refine lv_iadd hx hb dX3_within_74 ?_
              refine lv_topi (fun v20 ev20 => ?_)
              have hF := tc_lt hF ev20
              refine lv_istore_n (lv' := [(2, .int v20), (0, .ref (E 0)), (1, .int a1), (3, .int w6)]) hx hb dX3_within_75 rfl hl (by decide) rfl (fun ls hl => ?_)
              obtain ⟨v21, ev21⟩ : ∃ z : Int32, z = w6 + 1 := ⟨_, rfl⟩
              have hF := tc_lt hF ev21
              refine lv_iinc (v := v21) (lv' := [(3, .int v21), (2, .int v20), (0, .ref (E 0)), (1, .int a1)]) hx hb dX3_within_76 hl (k := 3) rfl (by rw [ev21]; rfl) (by decide) rfl (fun ls hl => ?_)
              refine lv_goto (tgt := 23) hx hb dX3_within_79 (by decide) ?_
              exact ih_23 v20 v21 hF _ (lv_sub hl [2, 3, 1, 0] rfl)
            · have hF := tc_if hF c19
              refine lv_iconst (v := 1) hx hb dX3_within_69 (by decide) ?_
              refine lv_goto (tgt := 74) hx hb dX3_within_70 (by decide) ?_
              refine lv_iadd hx hb dX3_within_74 ?_
              refine lv_topi (fun v22 ev22 => ?_)
              have hF := tc_lt hF ev22
              refine lv_istore_n (lv' := [(2, .int v22), (0, .ref (E 0)), (1, .int a1), (3, .int w6)]) hx hb dX3_within_75 rfl hl (by decide) rfl (fun ls hl => ?_)
              obtain ⟨v23, ev23⟩ : ∃ z : Int32, z = w6 + 1 := ⟨_, rfl⟩
              have hF := tc_lt hF ev23
              refine lv_iinc (v := v23) (lv' := [(3, .int v23), (2, .int v22), (0, .ref (E 0)), (1, .int a1)]) hx hb dX3_within_76 hl (k := 3) rfl (by rw [ev23]; rfl) (by decide) rfl (fun ls hl => ?_)
              refine lv_goto (tgt := 23) hx hb dX3_within_79 (by decide) ?_
              exact ih_23 v22 v23 hF _ (lv_sub hl [2, 3, 1, 0] rfl)
    · intro w5 w6 h9
      have h9 : lp_X3_within_23 0 a1 x1 w5 w6 = some (r, z) := h9
      rw [lp_X3_within_23] at h9
      cases h9
  · have hF := tc_it hF c4
    refine lv_aload_n hx hb dX3_within_13 rfl (lv_at hl 0 rfl) ?_
    refine lv_iconst (v := 1) hx hb dX3_within_14 (by decide) ?_
    obtain ⟨r24, x25, h26, hF⟩ := tc_bi2 hF
    refine tc_cw (va_runV (As := [.int 1]) (rest := []) ⟨hx, hb, hml, hown, hts⟩ (mt_X3_no l D cU cO cI A E x1 1 r24 x25 h26) (cwV 1 hts gX3_within_X3_no rfl rfl rfl (by decide +kernel) ⟨Nat.le_of_ble_eq_true rfl, Nat.le_of_ble_eq_true rfl⟩) ⟨fun a U g mk q => ⟨q.1, q.2.1, q.2.2.call⟩, tc_rcv (hW.1) hK rfl, fun U hU hW9 => ⟨rfl, by rw [hU]; exact hW, hKM.go hS hU hW9⟩⟩ rfl rfl hl.1 rfl (lv_room (Nat.le_of_ble_eq_true rfl)) dX3_within_15 ⟨Nat.le_of_ble_eq_true rfl, Nat.le_of_ble_eq_true rfl⟩) hS (fun _ _ h => h) (fun _ h => h) (fun H locs hW z1 o1 hS => ?_)
    obtain ⟨h91, h92⟩ := tc_pr2 (Option.some.inj hF)
    refine W.widen (k := 0) (n := 0) (Nat.le_of_ble_eq_true rfl) (Nat.le_of_ble_eq_true rfl) ?_
    exact W.iret hx hb hr (fun t ht hW9 => ⟨⟨by rw [← h91], by rw [← h92, ht]; exact hW⟩, tc_F hS ht⟩) hS.2.2 dX3_within_18

def lp_X3_placeTold_51 : Nat → tc_Y → Int32 → Int32 → Int32 → Int32 → Int32 → Option (Int32)
  | 0, _, _, _, _, _, _ => none
  | n_51 + 1, x, a1, a2, w1, w4, w5 => (if (x 6 0) ≤ w5 then Option.bind (f_X3_high x a1) (fun r8 => Option.bind (f_X3_top x a1) (fun r10 => (if ¬ a2 < 0 ∧ a2.toNatClampNeg < 4 then some ((upd (upd (upd (upd (fun _ : Nat => (0 : Int32)) (0 : Int32).toNatClampNeg r8) (1 : Int32).toNatClampNeg r10) (2 : Int32).toNatClampNeg w1) (3 : Int32).toNatClampNeg w4) a2.toNatClampNeg) else none))) else (if ¬ w5 < 0 ∧ w5.toNatClampNeg < 5 then (if (x 12 w5.toNatClampNeg) = a1 then tc_let (w4 + 1) (fun v17 => tc_let (w5 + 1) (fun v18 => lp_X3_placeTold_51 n_51 x a1 a2 w1 v17 v18)) else tc_let (w4 + 0) (fun v15 => tc_let (w5 + 1) (fun v16 => lp_X3_placeTold_51 n_51 x a1 a2 w1 v15 v16))) else none))
def lp_X3_placeTold_8 : Nat → tc_Y → Int32 → Int32 → Int32 → Int32 → Option (Int32)
  | 0, _, _, _, _, _ => none
  | n_8 + 1, x, a1, a2, w1, w2 => (if (x 2 0) ≤ w2 then lp_X3_placeTold_51 100 x a1 a2 w1 0 0 else (if ¬ w2 < 0 ∧ w2.toNatClampNeg < 40 then (if (x 4 w2.toNatClampNeg) = a1 then tc_let (w1 + (x 3 w2.toNatClampNeg)) (fun v23 => tc_let (w2 + 1) (fun v24 => lp_X3_placeTold_8 n_8 x a1 a2 v23 v24)) else tc_let (w1 + 0) (fun v21 => tc_let (w2 + 1) (fun v22 => lp_X3_placeTold_8 n_8 x a1 a2 v21 v22))) else none))
def f_X3_placeTold (x : tc_Y) (a1 : Int32) (a2 : Int32) : Option (Int32) := lp_X3_placeTold_8 100 x a1 a2 0 0
set_option maxHeartbeats 4000000 in
set_option maxRecDepth 100000 in
theorem mt_X3_placeTold (l : Launch) (D : va_G) (cU cO cI : ClassId) (A : Nat → Prop) (E : Nat → Nat) (x : tc_Y) (a1 : Int32) (a2 : Int32) (r : Int32) (hF : f_X3_placeTold x a1 a2 = some r) : Met l yX3_placeTold wsX3_placeTold ({ frames := 2, cells := 1, slots := 4, locals := 45 } : Room) (va_Pc [.ref (E 0), .int a1, .int a2] (fun U => tc_WM D cI A E x U.heap ∧ tc_KM D cU cO cI A U)) (tc_Qw (some (.int r)) (tc_WM D cI A E x) A) 1 4 A := by
  refine Met.ofW (cc := cX3_placeTold) (maxL := 6) (ret := (some .int)) (by decide) rfl ?_
  intro p e s m args below meth c s₁ B hml hv
  obtain ⟨rfl, hW, hKM⟩ := hv
  have hx := B.exec
  have hb := B.bytes
  have hr := B.returns
  have hts := atoms_spec (ws := wsX3_placeTold) B.pre
  have hown : s.vm.findClass RX3 = some m.cls := findClass_of_methodNamed B.named
  have hlocks := B.notSynchronized
  have hK := hKM.1
  have hA := hKM.2
  have hinX3 : ∀ w ∈ wsX30, w ∈ wsX3_placeTold := fun w9 h9 => List.mem_cons_of_mem _ (List.mem_append_right _ h9)
  have hS : va_S A s.heap s.heap [] := va_S.rf
  have hl := lv_entry ([.ref (E 0), .int a1, .int a2]) (n := 6) (Nat.le_of_ble_eq_true rfl)
  rw [lg_entry_eq]
  generalize (lg_sl ([.ref (E 0), .int a1, .int a2]) ++ List.replicate (6 - (lg_sl ([.ref (E 0), .int a1, .int a2])).length) Slot.unset).toArray = ls at hl ⊢
  have hl : lv_has ls 6 [(0, .ref (E 0)), (1, .int a1), (2, .int a2)] := hl
  refine lv_iconst (v := 0) hx hb dX3_placeTold_0 (by decide) ?_
  refine lv_istore_n (lv' := [(3, .int 0), (0, .ref (E 0)), (1, .int a1), (2, .int a2)]) hx hb dX3_placeTold_1 rfl hl (by decide) rfl (fun ls hl => ?_)
  refine lv_iconst (v := 0) hx hb dX3_placeTold_2 (by decide) ?_
  refine lv_istore (lv' := [(4, .int 0), (3, .int 0), (0, .ref (E 0)), (1, .int a1), (2, .int a2)]) hx hb dX3_placeTold_3 hl (by decide) rfl (fun ls hl => ?_)
  refine lv_iconst (v := 0) hx hb dX3_placeTold_5 (by decide) ?_
  refine lv_istore (lv' := [(5, .int 0), (4, .int 0), (3, .int 0), (0, .ref (E 0)), (1, .int a1), (2, .int a2)]) hx hb dX3_placeTold_6 hl (by decide) rfl (fun ls hl => ?_)
  refine tc_lp2 (fun n w1 w2 => lp_X3_placeTold_8 n x a1 a2 w1 w2) (fun w1 w2 => [(0, .ref (E 0)), (1, .int a1), (2, .int a2), (3, .int w1), (4, .int 0), (5, .int w2)]) 100 0 0 ?_ ?_ hF (lv_sub hl [3, 4, 5, 2, 1, 0] rfl)
  · intro n_8 w1 w2 ih_8 hF ls hl
    have hF : lp_X3_placeTold_8 (n_8 + 1) x a1 a2 w1 w2 = some r := hF
    rw [lp_X3_placeTold_8] at hF
    refine lv_iload hx hb dX3_placeTold_8 (lv_at hl 5 rfl) ?_
    refine lv_aload_n hx hb dX3_placeTold_10 rfl (lv_at hl 0 rfl) ?_
    refine tc_get (v := .int (x 2 0)) hx hb hts hinX3 hown hK (hW.1) (C := RX3) (T := TX3) (N := 15) rfl 2 (by decide) (hts (.fieldLink RX3 54 "TreadCranesModel" "barrels" "I") (List.mem_of_getElem? (i := 1) rfl)) (fun _ h9 => h9) rfl dX3_placeTold_11 ?_
    refine lv_icmp_ge (tgt := 48) hx hb dX3_placeTold_14 (by decide) (fun c3 => ?_) (fun c3 => ?_)
    · have hF := tc_it hF c3
      refine lv_iconst (v := 0) hx hb dX3_placeTold_48 (by decide) ?_
      refine lv_istore (lv' := [(5, .int 0), (0, .ref (E 0)), (1, .int a1), (2, .int a2), (3, .int w1), (4, .int 0)]) hx hb dX3_placeTold_49 hl (by decide) rfl (fun ls hl => ?_)
      refine tc_lp2 (fun n w4 w5 => lp_X3_placeTold_51 n x a1 a2 w1 w4 w5) (fun w4 w5 => [(0, .ref (E 0)), (1, .int a1), (2, .int a2), (3, .int w1), (4, .int w4), (5, .int w5)]) 100 0 0 ?_ ?_ hF (lv_sub hl [1, 2, 3, 4, 5, 0] rfl)
      · intro n_51 w4 w5 ih_51 hF ls hl
        have hF : lp_X3_placeTold_51 (n_51 + 1) x a1 a2 w1 w4 w5 = some r := hF
        rw [lp_X3_placeTold_51] at hF
        refine lv_iload hx hb dX3_placeTold_51 (lv_at hl 5 rfl) ?_
        refine lv_aload_n hx hb dX3_placeTold_53 rfl (lv_at hl 0 rfl) ?_
        refine tc_get (v := .int (x 6 0)) hx hb hts hinX3 hown hK (hW.1) (C := RX3) (T := TX3) (N := 15) rfl 6 (by decide) (hts (.fieldLink RX3 51 "TreadCranesModel" "cranes" "I") (List.mem_of_getElem? (i := 4) rfl)) (fun _ h9 => h9) rfl dX3_placeTold_54 ?_
        refine lv_icmp_ge (tgt := 87) hx hb dX3_placeTold_57 (by decide) (fun c6 => ?_) (fun c6 => ?_)
        · have hF := tc_it hF c6
          refine lv_iconst (v := 4) hx hb dX3_placeTold_87 (by decide) ?_
          refine tc_newI (N := 4) hx hb (hts (.arrayClass .int) (List.mem_of_getElem? (i := 6) rfl)) hS hK hA (by decide) (by decide) (by decide) (Nat.le_of_ble_eq_true rfl) (Nat.le_of_ble_eq_true rfl) dX3_placeTold_88 2 rfl (fun q7 H hq9 hq_q7 et_q7 z1 o1 hS => ?_)
          have hn_q7 := hW.ne hq9
          have hW := hW.grown o1
          refine lv_dup hx hb dX3_placeTold_90 rfl ?_
          refine lv_iconst (v := 0) hx hb dX3_placeTold_91 (by decide) ?_
          refine lv_aload_n hx hb dX3_placeTold_92 rfl (lv_at hl 0 rfl) ?_
          refine lv_iload_n hx hb dX3_placeTold_93 rfl (lv_at hl 1 rfl) ?_
          obtain ⟨r8, h9, hF⟩ := tc_bi hF
          refine tc_cr (W.runV (As := [.int a1]) (rest := [.int 0, .ref q7, .ref q7]) ⟨hx, hb, hml, hown, hts⟩ (mt_X3_high l D cU cO cI A E x a1 r8 h9) (cwV 1 hts gX3_placeTold_X3_high rfl rfl rfl (by decide +kernel) ⟨Nat.le_of_ble_eq_true rfl, Nat.le_of_ble_eq_true rfl⟩) ⟨fun a U g mk q => ⟨q.1, q.2.1, va_K.moved (Vm.Alike.refl U.vm) q.2.2⟩, tc_rcv (hW.1) hK rfl, fun U hU hW9 => ⟨rfl, by rw [hU]; exact hW, va_K.moved hW9.alike hK⟩⟩ rfl rfl hl.1 rfl (lv_room (Nat.le_of_ble_eq_true rfl)) dX3_placeTold_94 ⟨Nat.le_of_ble_eq_true rfl, Nat.le_of_ble_eq_true rfl⟩) ?_
          refine tc_iast hx hb hK et_q7 hS hq_q7 2 rfl (by decide) dX3_placeTold_97 (fun H locs et_q7 z1 o1 hS => ?_)
          have hW := hW.kept2 (fun j9 hj9 => o1 _ (hn_q7 j9 hj9))
          refine lv_dup hx hb dX3_placeTold_98 rfl ?_
          refine lv_iconst (v := 1) hx hb dX3_placeTold_99 (by decide) ?_
          refine lv_aload_n hx hb dX3_placeTold_100 rfl (lv_at hl 0 rfl) ?_
          refine lv_iload_n hx hb dX3_placeTold_101 rfl (lv_at hl 1 rfl) ?_
          obtain ⟨r10, h11, hF⟩ := tc_bi hF
          refine tc_cr (W.runV (As := [.int a1]) (rest := [.int 1, .ref q7, .ref q7]) ⟨hx, hb, hml, hown, hts⟩ (mt_X3_top l D cU cO cI A E x a1 r10 h11) (cwV 1 hts gX3_placeTold_X3_top rfl rfl rfl (by decide +kernel) ⟨Nat.le_of_ble_eq_true rfl, Nat.le_of_ble_eq_true rfl⟩) ⟨fun a U g mk q => ⟨q.1, q.2.1, va_K.moved (Vm.Alike.refl U.vm) q.2.2⟩, tc_rcv (hW.1) hK rfl, fun U hU hW9 => ⟨rfl, by rw [hU]; exact hW, va_K.moved hW9.alike hK⟩⟩ rfl rfl hl.1 rfl (lv_room (Nat.le_of_ble_eq_true rfl)) dX3_placeTold_102 ⟨Nat.le_of_ble_eq_true rfl, Nat.le_of_ble_eq_true rfl⟩) ?_
          refine tc_iast hx hb hK et_q7 hS hq_q7 2 rfl (by decide) dX3_placeTold_105 (fun H locs et_q7 z1 o1 hS => ?_)
          have hW := hW.kept2 (fun j9 hj9 => o1 _ (hn_q7 j9 hj9))
          refine lv_dup hx hb dX3_placeTold_106 rfl ?_
          refine lv_iconst (v := 2) hx hb dX3_placeTold_107 (by decide) ?_
          refine lv_iload_n hx hb dX3_placeTold_108 rfl (lv_at hl 3 rfl) ?_
          refine tc_iast hx hb hK et_q7 hS hq_q7 2 rfl (by decide) dX3_placeTold_109 (fun H locs et_q7 z1 o1 hS => ?_)
          have hW := hW.kept2 (fun j9 hj9 => o1 _ (hn_q7 j9 hj9))
          refine lv_dup hx hb dX3_placeTold_110 rfl ?_
          refine lv_iconst (v := 3) hx hb dX3_placeTold_111 (by decide) ?_
          refine lv_iload hx hb dX3_placeTold_112 (lv_at hl 4 rfl) ?_
          refine tc_iast hx hb hK et_q7 hS hq_q7 2 rfl (by decide) dX3_placeTold_114 (fun H locs et_q7 z1 o1 hS => ?_)
          have hW := hW.kept2 (fun j9 hj9 => o1 _ (hn_q7 j9 hj9))
          refine lv_astore (lv' := [(5, .ref q7), (0, .ref (E 0)), (1, .int a1), (2, .int a2), (3, .int w1), (4, .int w4)]) hx hb dX3_placeTold_115 hl (by decide) rfl (fun ls hl => ?_)
          refine lv_aload hx hb dX3_placeTold_117 (lv_at hl 0 rfl) ?_
          refine lv_iload_n hx hb dX3_placeTold_119 rfl (lv_at hl 3 rfl) ?_
          obtain ⟨g12, hF⟩ := tc_ob hF
          refine tc_iald hx hb hK et_q7 2 rfl g12 dX3_placeTold_120 ?_
          have h91 := Option.some.inj hF
          refine W.widen (k := 1) (n := 4) (Nat.le_of_ble_eq_true rfl) (Nat.le_of_ble_eq_true rfl) ?_
          exact W.iret hx hb hr (fun t ht hW9 => ⟨⟨by rw [← h91], by rw [ht]; exact hW⟩, tc_F hS ht⟩) hS.2.2 dX3_placeTold_121
        · have hF := tc_if hF c6
          refine lv_iload hx hb dX3_placeTold_60 (lv_at hl 4 rfl) ?_
          refine lv_aload_n hx hb dX3_placeTold_62 rfl (lv_at hl 0 rfl) ?_
          refine tc_get (v := .ref (E 12)) hx hb hts hinX3 hown hK (hW.1) (C := RX3) (T := TX3) (N := 15) rfl 12 (by decide) (hts (.fieldLink RX3 34 "TreadCranesModel" "hook" "[I") (List.mem_of_getElem? (i := 5) rfl)) (fun _ h9 => h9) rfl dX3_placeTold_63 ?_
          refine lv_iload hx hb dX3_placeTold_66 (lv_at hl 5 rfl) ?_
          obtain ⟨g13, hF⟩ := tc_ob hF
          refine tc_iald (f := x 12) hx hb hK (hW.hi ⟨by decide, by decide⟩) 2 rfl g13 dX3_placeTold_68 ?_
          refine lv_iload_n hx hb dX3_placeTold_69 rfl (lv_at hl 1 rfl) ?_
          refine lv_icmp_ne (tgt := 77) hx hb dX3_placeTold_70 (by decide) (fun c14 => ?_) (fun c14 => ?_)
          · have hF := tc_if hF c14
            refine lv_iconst (v := 0) hx hb dX3_placeTold_77 (by decide) ?_
            refine lv_iadd hx hb dX3_placeTold_78 ?_
            refine lv_topi (fun v15 ev15 => ?_)
            have hF := tc_lt hF ev15
            refine lv_istore (lv' := [(4, .int v15), (0, .ref (E 0)), (1, .int a1), (2, .int a2), (3, .int w1), (5, .int w5)]) hx hb dX3_placeTold_79 hl (by decide) rfl (fun ls hl => ?_)
            obtain ⟨v16, ev16⟩ : ∃ z : Int32, z = w5 + 1 := ⟨_, rfl⟩
            have hF := tc_lt hF ev16
            refine lv_iinc (v := v16) (lv' := [(5, .int v16), (4, .int v15), (0, .ref (E 0)), (1, .int a1), (2, .int a2), (3, .int w1)]) hx hb dX3_placeTold_81 hl (k := 5) rfl (by rw [ev16]; rfl) (by decide) rfl (fun ls hl => ?_)
            refine lv_goto (tgt := 51) hx hb dX3_placeTold_84 (by decide) ?_
            exact ih_51 v15 v16 hF _ (lv_sub hl [2, 3, 4, 5, 1, 0] rfl)
          · have hF := tc_it hF c14
            refine lv_iconst (v := 1) hx hb dX3_placeTold_73 (by decide) ?_
            refine lv_goto (tgt := 78) hx hb dX3_placeTold_74 (by decide) ?_
            refine lv_iadd hx hb dX3_placeTold_78 ?_
            refine lv_topi (fun v17 ev17 => ?_)
            have hF := tc_lt hF ev17
            refine lv_istore (lv' := [(4, .int v17), (0, .ref (E 0)), (1, .int a1), (2, .int a2), (3, .int w1), (5, .int w5)]) hx hb dX3_placeTold_79 hl (by decide) rfl (fun ls hl => ?_)
            obtain ⟨v18, ev18⟩ : ∃ z : Int32, z = w5 + 1 := ⟨_, rfl⟩
            have hF := tc_lt hF ev18
            refine lv_iinc (v := v18) (lv' := [(5, .int v18), (4, .int v17), (0, .ref (E 0)), (1, .int a1), (2, .int a2), (3, .int w1)]) hx hb dX3_placeTold_81 hl (k := 5) rfl (by rw [ev18]; rfl) (by decide) rfl (fun ls hl => ?_)
            refine lv_goto (tgt := 51) hx hb dX3_placeTold_84 (by decide) ?_
            exact ih_51 v17 v18 hF _ (lv_sub hl [2, 3, 4, 5, 1, 0] rfl)
      · intro w4 w5 h9
        have h9 : lp_X3_placeTold_51 0 x a1 a2 w1 w4 w5 = some r := h9
        rw [lp_X3_placeTold_51] at h9
        cases h9
    · have hF := tc_if hF c3
      refine lv_iload_n hx hb dX3_placeTold_17 rfl (lv_at hl 3 rfl) ?_
      refine lv_aload_n hx hb dX3_placeTold_18 rfl (lv_at hl 0 rfl) ?_
      refine tc_get (v := .ref (E 4)) hx hb hts hinX3 hown hK (hW.1) (C := RX3) (T := TX3) (N := 15) rfl 4 (by decide) (hts (.fieldLink RX3 13 "TreadCranesModel" "at" "[I") (List.mem_of_getElem? (i := 2) rfl)) (fun _ h9 => h9) rfl dX3_placeTold_19 ?_
      refine lv_iload hx hb dX3_placeTold_22 (lv_at hl 5 rfl) ?_
      obtain ⟨g19, hF⟩ := tc_ob hF
      refine tc_iald (f := x 4) hx hb hK (hW.lo ⟨by decide, by decide⟩) 2 rfl g19 dX3_placeTold_24 ?_
      refine lv_iload_n hx hb dX3_placeTold_25 rfl (lv_at hl 1 rfl) ?_
      refine lv_icmp_ne (tgt := 39) hx hb dX3_placeTold_26 (by decide) (fun c20 => ?_) (fun c20 => ?_)
      · have hF := tc_if hF c20
        refine lv_iconst (v := 0) hx hb dX3_placeTold_39 (by decide) ?_
        refine lv_iadd hx hb dX3_placeTold_40 ?_
        refine lv_topi (fun v21 ev21 => ?_)
        have hF := tc_lt hF ev21
        refine lv_istore_n (lv' := [(3, .int v21), (0, .ref (E 0)), (1, .int a1), (2, .int a2), (4, .int 0), (5, .int w2)]) hx hb dX3_placeTold_41 rfl hl (by decide) rfl (fun ls hl => ?_)
        obtain ⟨v22, ev22⟩ : ∃ z : Int32, z = w2 + 1 := ⟨_, rfl⟩
        have hF := tc_lt hF ev22
        refine lv_iinc (v := v22) (lv' := [(5, .int v22), (3, .int v21), (0, .ref (E 0)), (1, .int a1), (2, .int a2), (4, .int 0)]) hx hb dX3_placeTold_42 hl (k := 5) rfl (by rw [ev22]; rfl) (by decide) rfl (fun ls hl => ?_)
        refine lv_goto (tgt := 8) hx hb dX3_placeTold_45 (by decide) ?_
        exact ih_8 v21 v22 hF _ (lv_sub hl [2, 3, 4, 1, 5, 0] rfl)
      · have hF := tc_it hF c20
        refine lv_aload_n hx hb dX3_placeTold_29 rfl (lv_at hl 0 rfl) ?_
        refine tc_get (v := .ref (E 3)) hx hb hts hinX3 hown hK (hW.1) (C := RX3) (T := TX3) (N := 15) rfl 3 (by decide) (hts (.fieldLink RX3 9 "TreadCranesModel" "weight" "[I") (List.mem_of_getElem? (i := 3) rfl)) (fun _ h9 => h9) rfl dX3_placeTold_30 ?_
        refine lv_iload hx hb dX3_placeTold_33 (lv_at hl 5 rfl) ?_
        refine tc_iald (f := x 3) hx hb hK (hW.lo ⟨by decide, by decide⟩) 2 rfl g19 dX3_placeTold_35 ?_
        refine lv_goto (tgt := 40) hx hb dX3_placeTold_36 (by decide) ?_
        refine lv_iadd hx hb dX3_placeTold_40 ?_
        refine lv_topi (fun v23 ev23 => ?_)
        have hF := tc_lt hF ev23
        refine lv_istore_n (lv' := [(3, .int v23), (0, .ref (E 0)), (1, .int a1), (2, .int a2), (4, .int 0), (5, .int w2)]) hx hb dX3_placeTold_41 rfl hl (by decide) rfl (fun ls hl => ?_)
        obtain ⟨v24, ev24⟩ : ∃ z : Int32, z = w2 + 1 := ⟨_, rfl⟩
        have hF := tc_lt hF ev24
        refine lv_iinc (v := v24) (lv' := [(5, .int v24), (3, .int v23), (0, .ref (E 0)), (1, .int a1), (2, .int a2), (4, .int 0)]) hx hb dX3_placeTold_42 hl (k := 5) rfl (by rw [ev24]; rfl) (by decide) rfl (fun ls hl => ?_)
        refine lv_goto (tgt := 8) hx hb dX3_placeTold_45 (by decide) ?_
        exact ih_8 v23 v24 hF _ (lv_sub hl [2, 3, 4, 1, 5, 0] rfl)
  · intro w1 w2 h9
    have h9 : lp_X3_placeTold_8 0 x a1 a2 w1 w2 = some r := h9
    rw [lp_X3_placeTold_8] at h9
    cases h9

def f_X3_barrelTold (x : tc_Y) (a1 : Int32) (a2 : Int32) : Option (Int32) := (if ¬ a1 < 0 ∧ a1.toNatClampNeg < 40 then (if (x 4 a1.toNatClampNeg) < 0 then (if (0 : Int32) = (0 : Int32) then (if (0 : Int32) = (0 : Int32) then Option.bind (f_X3_craneOf x a1) (fun r6 => (if (x 4 a1.toNatClampNeg) = (-2) then (if ¬ a2 < 0 ∧ a2.toNatClampNeg < 5 then some ((upd (upd (upd (upd (upd (fun _ : Nat => (0 : Int32)) (0 : Int32).toNatClampNeg (x 3 a1.toNatClampNeg)) (1 : Int32).toNatClampNeg (-1)) (2 : Int32).toNatClampNeg 0) (3 : Int32).toNatClampNeg r6) (4 : Int32).toNatClampNeg 1) a2.toNatClampNeg) else none) else (if ¬ a2 < 0 ∧ a2.toNatClampNeg < 5 then some ((upd (upd (upd (upd (upd (fun _ : Nat => (0 : Int32)) (0 : Int32).toNatClampNeg (x 3 a1.toNatClampNeg)) (1 : Int32).toNatClampNeg (-1)) (2 : Int32).toNatClampNeg 0) (3 : Int32).toNatClampNeg r6) (4 : Int32).toNatClampNeg 0) a2.toNatClampNeg) else none))) else Option.bind (f_X3_high x (x 4 a1.toNatClampNeg)) (fun r11 => Option.bind (f_X3_craneOf x a1) (fun r13 => (if (x 4 a1.toNatClampNeg) = (-2) then (if ¬ a2 < 0 ∧ a2.toNatClampNeg < 5 then some ((upd (upd (upd (upd (upd (fun _ : Nat => (0 : Int32)) (0 : Int32).toNatClampNeg (x 3 a1.toNatClampNeg)) (1 : Int32).toNatClampNeg (-1)) (2 : Int32).toNatClampNeg ((r11 - 1) - (x 5 a1.toNatClampNeg))) (3 : Int32).toNatClampNeg r13) (4 : Int32).toNatClampNeg 1) a2.toNatClampNeg) else none) else (if ¬ a2 < 0 ∧ a2.toNatClampNeg < 5 then some ((upd (upd (upd (upd (upd (fun _ : Nat => (0 : Int32)) (0 : Int32).toNatClampNeg (x 3 a1.toNatClampNeg)) (1 : Int32).toNatClampNeg (-1)) (2 : Int32).toNatClampNeg ((r11 - 1) - (x 5 a1.toNatClampNeg))) (3 : Int32).toNatClampNeg r13) (4 : Int32).toNatClampNeg 0) a2.toNatClampNeg) else none))))) else (if (0 : Int32) = (0 : Int32) then Option.bind (f_X3_craneOf x a1) (fun r19 => (if (x 4 a1.toNatClampNeg) = (-2) then (if ¬ a2 < 0 ∧ a2.toNatClampNeg < 5 then some ((upd (upd (upd (upd (upd (fun _ : Nat => (0 : Int32)) (0 : Int32).toNatClampNeg (x 3 a1.toNatClampNeg)) (1 : Int32).toNatClampNeg (x 4 a1.toNatClampNeg)) (2 : Int32).toNatClampNeg 0) (3 : Int32).toNatClampNeg r19) (4 : Int32).toNatClampNeg 1) a2.toNatClampNeg) else none) else (if ¬ a2 < 0 ∧ a2.toNatClampNeg < 5 then some ((upd (upd (upd (upd (upd (fun _ : Nat => (0 : Int32)) (0 : Int32).toNatClampNeg (x 3 a1.toNatClampNeg)) (1 : Int32).toNatClampNeg (x 4 a1.toNatClampNeg)) (2 : Int32).toNatClampNeg 0) (3 : Int32).toNatClampNeg r19) (4 : Int32).toNatClampNeg 0) a2.toNatClampNeg) else none))) else Option.bind (f_X3_high x (x 4 a1.toNatClampNeg)) (fun r24 => Option.bind (f_X3_craneOf x a1) (fun r26 => (if (x 4 a1.toNatClampNeg) = (-2) then (if ¬ a2 < 0 ∧ a2.toNatClampNeg < 5 then some ((upd (upd (upd (upd (upd (fun _ : Nat => (0 : Int32)) (0 : Int32).toNatClampNeg (x 3 a1.toNatClampNeg)) (1 : Int32).toNatClampNeg (x 4 a1.toNatClampNeg)) (2 : Int32).toNatClampNeg ((r24 - 1) - (x 5 a1.toNatClampNeg))) (3 : Int32).toNatClampNeg r26) (4 : Int32).toNatClampNeg 1) a2.toNatClampNeg) else none) else (if ¬ a2 < 0 ∧ a2.toNatClampNeg < 5 then some ((upd (upd (upd (upd (upd (fun _ : Nat => (0 : Int32)) (0 : Int32).toNatClampNeg (x 3 a1.toNatClampNeg)) (1 : Int32).toNatClampNeg (x 4 a1.toNatClampNeg)) (2 : Int32).toNatClampNeg ((r24 - 1) - (x 5 a1.toNatClampNeg))) (3 : Int32).toNatClampNeg r26) (4 : Int32).toNatClampNeg 0) a2.toNatClampNeg) else none)))))) else (if (1 : Int32) = (0 : Int32) then (if (1 : Int32) = (0 : Int32) then Option.bind (f_X3_craneOf x a1) (fun r34 => (if (x 4 a1.toNatClampNeg) = (-2) then (if ¬ a2 < 0 ∧ a2.toNatClampNeg < 5 then some ((upd (upd (upd (upd (upd (fun _ : Nat => (0 : Int32)) (0 : Int32).toNatClampNeg (x 3 a1.toNatClampNeg)) (1 : Int32).toNatClampNeg (-1)) (2 : Int32).toNatClampNeg 0) (3 : Int32).toNatClampNeg r34) (4 : Int32).toNatClampNeg 1) a2.toNatClampNeg) else none) else (if ¬ a2 < 0 ∧ a2.toNatClampNeg < 5 then some ((upd (upd (upd (upd (upd (fun _ : Nat => (0 : Int32)) (0 : Int32).toNatClampNeg (x 3 a1.toNatClampNeg)) (1 : Int32).toNatClampNeg (-1)) (2 : Int32).toNatClampNeg 0) (3 : Int32).toNatClampNeg r34) (4 : Int32).toNatClampNeg 0) a2.toNatClampNeg) else none))) else Option.bind (f_X3_high x (x 4 a1.toNatClampNeg)) (fun r39 => Option.bind (f_X3_craneOf x a1) (fun r41 => (if (x 4 a1.toNatClampNeg) = (-2) then (if ¬ a2 < 0 ∧ a2.toNatClampNeg < 5 then some ((upd (upd (upd (upd (upd (fun _ : Nat => (0 : Int32)) (0 : Int32).toNatClampNeg (x 3 a1.toNatClampNeg)) (1 : Int32).toNatClampNeg (-1)) (2 : Int32).toNatClampNeg ((r39 - 1) - (x 5 a1.toNatClampNeg))) (3 : Int32).toNatClampNeg r41) (4 : Int32).toNatClampNeg 1) a2.toNatClampNeg) else none) else (if ¬ a2 < 0 ∧ a2.toNatClampNeg < 5 then some ((upd (upd (upd (upd (upd (fun _ : Nat => (0 : Int32)) (0 : Int32).toNatClampNeg (x 3 a1.toNatClampNeg)) (1 : Int32).toNatClampNeg (-1)) (2 : Int32).toNatClampNeg ((r39 - 1) - (x 5 a1.toNatClampNeg))) (3 : Int32).toNatClampNeg r41) (4 : Int32).toNatClampNeg 0) a2.toNatClampNeg) else none))))) else (if (1 : Int32) = (0 : Int32) then Option.bind (f_X3_craneOf x a1) (fun r47 => (if (x 4 a1.toNatClampNeg) = (-2) then (if ¬ a2 < 0 ∧ a2.toNatClampNeg < 5 then some ((upd (upd (upd (upd (upd (fun _ : Nat => (0 : Int32)) (0 : Int32).toNatClampNeg (x 3 a1.toNatClampNeg)) (1 : Int32).toNatClampNeg (x 4 a1.toNatClampNeg)) (2 : Int32).toNatClampNeg 0) (3 : Int32).toNatClampNeg r47) (4 : Int32).toNatClampNeg 1) a2.toNatClampNeg) else none) else (if ¬ a2 < 0 ∧ a2.toNatClampNeg < 5 then some ((upd (upd (upd (upd (upd (fun _ : Nat => (0 : Int32)) (0 : Int32).toNatClampNeg (x 3 a1.toNatClampNeg)) (1 : Int32).toNatClampNeg (x 4 a1.toNatClampNeg)) (2 : Int32).toNatClampNeg 0) (3 : Int32).toNatClampNeg r47) (4 : Int32).toNatClampNeg 0) a2.toNatClampNeg) else none))) else Option.bind (f_X3_high x (x 4 a1.toNatClampNeg)) (fun r52 => Option.bind (f_X3_craneOf x a1) (fun r54 => (if (x 4 a1.toNatClampNeg) = (-2) then (if ¬ a2 < 0 ∧ a2.toNatClampNeg < 5 then some ((upd (upd (upd (upd (upd (fun _ : Nat => (0 : Int32)) (0 : Int32).toNatClampNeg (x 3 a1.toNatClampNeg)) (1 : Int32).toNatClampNeg (x 4 a1.toNatClampNeg)) (2 : Int32).toNatClampNeg ((r52 - 1) - (x 5 a1.toNatClampNeg))) (3 : Int32).toNatClampNeg r54) (4 : Int32).toNatClampNeg 1) a2.toNatClampNeg) else none) else (if ¬ a2 < 0 ∧ a2.toNatClampNeg < 5 then some ((upd (upd (upd (upd (upd (fun _ : Nat => (0 : Int32)) (0 : Int32).toNatClampNeg (x 3 a1.toNatClampNeg)) (1 : Int32).toNatClampNeg (x 4 a1.toNatClampNeg)) (2 : Int32).toNatClampNeg ((r52 - 1) - (x 5 a1.toNatClampNeg))) (3 : Int32).toNatClampNeg r54) (4 : Int32).toNatClampNeg 0) a2.toNatClampNeg) else none))))))) else none)
set_option maxHeartbeats 4000000 in
set_option maxRecDepth 100000 in
theorem mt_X3_barrelTold (l : Launch) (D : va_G) (cU cO cI : ClassId) (A : Nat → Prop) (E : Nat → Nat) (x : tc_Y) (a1 : Int32) (a2 : Int32) (r : Int32) (hF : f_X3_barrelTold x a1 a2 = some r) : Met l yX3_barrelTold wsX3_barrelTold ({ frames := 1, cells := 1, slots := 5, locals := 23 } : Room) (va_Pc [.ref (E 0), .int a1, .int a2] (fun U => tc_WM D cI A E x U.heap ∧ tc_KM D cU cO cI A U)) (tc_Qw (some (.int r)) (tc_WM D cI A E x) A) 1 5 A := by
  refine Met.ofW (cc := cX3_barrelTold) (maxL := 5) (ret := (some .int)) (by decide) rfl ?_
  intro p e s m args below meth c s₁ B hml hv
  obtain ⟨rfl, hW, hKM⟩ := hv
  have hx := B.exec
  have hb := B.bytes
  have hr := B.returns
  have hts := atoms_spec (ws := wsX3_barrelTold) B.pre
  have hown : s.vm.findClass RX3 = some m.cls := findClass_of_methodNamed B.named
  have hlocks := B.notSynchronized
  have hK := hKM.1
  have hA := hKM.2
  have hinX3 : ∀ w ∈ wsX30, w ∈ wsX3_barrelTold := fun w9 h9 => List.mem_cons_of_mem _ (List.mem_append_right _ h9)
  have hS : va_S A s.heap s.heap [] := va_S.rf
  have hl := lv_entry ([.ref (E 0), .int a1, .int a2]) (n := 5) (Nat.le_of_ble_eq_true rfl)
  rw [lg_entry_eq]
  generalize (lg_sl ([.ref (E 0), .int a1, .int a2]) ++ List.replicate (5 - (lg_sl ([.ref (E 0), .int a1, .int a2])).length) Slot.unset).toArray = ls at hl ⊢
  have hl : lv_has ls 5 [(0, .ref (E 0)), (1, .int a1), (2, .int a2)] := hl
  refine lv_aload_n hx hb dX3_barrelTold_0 rfl (lv_at hl 0 rfl) ?_
  refine tc_get (v := .ref (E 4)) hx hb hts hinX3 hown hK (hW.1) (C := RX3) (T := TX3) (N := 15) rfl 4 (by decide) (hts (.fieldLink RX3 13 "TreadCranesModel" "at" "[I") (List.mem_of_getElem? (i := 1) rfl)) (fun _ h9 => h9) rfl dX3_barrelTold_1 ?_
  refine lv_iload_n hx hb dX3_barrelTold_4 rfl (lv_at hl 1 rfl) ?_
  obtain ⟨g1, hF⟩ := tc_ob hF
  refine tc_iald (f := x 4) hx hb hK (hW.lo ⟨by decide, by decide⟩) 2 rfl g1 dX3_barrelTold_5 ?_
  refine lv_if_lt (tgt := 13) hx hb dX3_barrelTold_6 (by decide) (fun c2 => ?_) (fun c2 => ?_)
  · have hF := tc_it hF c2
    refine lv_iconst (v := 0) hx hb dX3_barrelTold_13 (by decide) ?_
    refine lv_istore_n (lv' := [(3, .int 0), (0, .ref (E 0)), (1, .int a1), (2, .int a2)]) hx hb dX3_barrelTold_14 rfl hl (by decide) rfl (fun ls hl => ?_)
    refine lv_iconst (v := 5) hx hb dX3_barrelTold_15 (by decide) ?_
    refine tc_newI (N := 5) hx hb (hts (.arrayClass .int) (List.mem_of_getElem? (i := 2) rfl)) hS hK hA (by decide) (by decide) (by decide) (Nat.le_of_ble_eq_true rfl) (Nat.le_of_ble_eq_true rfl) dX3_barrelTold_16 2 rfl (fun q3 H hq9 hq_q3 et_q3 z1 o1 hS => ?_)
    have hn_q3 := hW.ne hq9
    have hW := hW.grown o1
    refine lv_dup hx hb dX3_barrelTold_18 rfl ?_
    refine lv_iconst (v := 0) hx hb dX3_barrelTold_19 (by decide) ?_
    refine lv_aload_n hx hb dX3_barrelTold_20 rfl (lv_at hl 1 rfl) ?_
    refine tc_get (v := .ref (E 3)) hx hb hts hinX3 hown hK (hW.1) (C := RX3) (T := TX3) (N := 15) rfl 3 (by decide) (hts (.fieldLink RX3 9 "TreadCranesModel" "weight" "[I") (List.mem_of_getElem? (i := 3) rfl)) (fun _ h9 => h9) rfl dX3_barrelTold_21 ?_
    refine lv_iload_n hx hb dX3_barrelTold_24 rfl (lv_at hl 2 rfl) ?_
    refine tc_iald (f := x 3) hx hb hK (hW.lo ⟨by decide, by decide⟩) 2 rfl g1 dX3_barrelTold_25 ?_
    refine tc_iast hx hb hK et_q3 hS hq_q3 2 rfl (by decide) dX3_barrelTold_26 (fun H locs et_q3 z1 o1 hS => ?_)
    have hW := hW.kept2 (fun j9 hj9 => o1 _ (hn_q3 j9 hj9))
    refine lv_dup hx hb dX3_barrelTold_27 rfl ?_
    refine lv_iconst (v := 1) hx hb dX3_barrelTold_28 (by decide) ?_
    refine lv_iload_n hx hb dX3_barrelTold_29 rfl (lv_at hl 0 rfl) ?_
    refine lv_if_eq (tgt := 42) hx hb dX3_barrelTold_30 (by decide) (fun c4 => ?_) (fun c4 => ?_)
    · have hF := tc_it hF c4
      refine lv_iconst (v := (-1)) hx hb dX3_barrelTold_42 (by decide) ?_
      refine tc_iast hx hb hK et_q3 hS hq_q3 2 rfl (by decide) dX3_barrelTold_43 (fun H locs et_q3 z1 o1 hS => ?_)
      have hW := hW.kept2 (fun j9 hj9 => o1 _ (hn_q3 j9 hj9))
      refine lv_dup hx hb dX3_barrelTold_44 rfl ?_
      refine lv_iconst (v := 2) hx hb dX3_barrelTold_45 (by decide) ?_
      refine lv_iload_n hx hb dX3_barrelTold_46 rfl (lv_at hl 0 rfl) ?_
      refine lv_if_eq (tgt := 72) hx hb dX3_barrelTold_47 (by decide) (fun c5 => ?_) (fun c5 => ?_)
      · have hF := tc_it hF c5
        refine lv_iconst (v := 0) hx hb dX3_barrelTold_72 (by decide) ?_
        refine tc_iast hx hb hK et_q3 hS hq_q3 2 rfl (by decide) dX3_barrelTold_73 (fun H locs et_q3 z1 o1 hS => ?_)
        have hW := hW.kept2 (fun j9 hj9 => o1 _ (hn_q3 j9 hj9))
        refine lv_dup hx hb dX3_barrelTold_74 rfl ?_
        refine lv_iconst (v := 3) hx hb dX3_barrelTold_75 (by decide) ?_
        refine lv_aload_n hx hb dX3_barrelTold_76 rfl (lv_at hl 1 rfl) ?_
        refine lv_iload_n hx hb dX3_barrelTold_77 rfl (lv_at hl 2 rfl) ?_
        obtain ⟨r6, h7, hF⟩ := tc_bi hF
        refine tc_cr (W.runV (As := [.int a1]) (rest := [.int 3, .ref q3, .ref q3]) ⟨hx, hb, hml, hown, hts⟩ (mt_X3_craneOf l D cU cO cI A E x a1 r6 h7) (cwV 1 hts gX3_barrelTold_X3_craneOf rfl rfl rfl (by decide +kernel) ⟨Nat.le_of_ble_eq_true rfl, Nat.le_of_ble_eq_true rfl⟩) ⟨fun a U g mk q => ⟨q.1, q.2.1, va_K.moved (Vm.Alike.refl U.vm) q.2.2⟩, tc_rcv (hW.1) hK rfl, fun U hU hW9 => ⟨rfl, by rw [hU]; exact hW, va_K.moved hW9.alike hK⟩⟩ rfl rfl hl.1 rfl (lv_room (Nat.le_of_ble_eq_true rfl)) dX3_barrelTold_78 ⟨Nat.le_of_ble_eq_true rfl, Nat.le_of_ble_eq_true rfl⟩) ?_
        refine tc_iast hx hb hK et_q3 hS hq_q3 2 rfl (by decide) dX3_barrelTold_81 (fun H locs et_q3 z1 o1 hS => ?_)
        have hW := hW.kept2 (fun j9 hj9 => o1 _ (hn_q3 j9 hj9))
        refine lv_dup hx hb dX3_barrelTold_82 rfl ?_
        refine lv_iconst (v := 4) hx hb dX3_barrelTold_83 (by decide) ?_
        refine lv_aload_n hx hb dX3_barrelTold_84 rfl (lv_at hl 1 rfl) ?_
        refine tc_get (v := .ref (E 4)) hx hb hts hinX3 hown hK (hW.1) (C := RX3) (T := TX3) (N := 15) rfl 4 (by decide) (hts (.fieldLink RX3 13 "TreadCranesModel" "at" "[I") (List.mem_of_getElem? (i := 1) rfl)) (fun _ h9 => h9) rfl dX3_barrelTold_85 ?_
        refine lv_iload_n hx hb dX3_barrelTold_88 rfl (lv_at hl 2 rfl) ?_
        refine tc_iald (f := x 4) hx hb hK (hW.lo ⟨by decide, by decide⟩) 2 rfl g1 dX3_barrelTold_89 ?_
        refine lv_bipush (v := (-2)) hx hb dX3_barrelTold_90 (by decide) ?_
        refine lv_icmp_ne (tgt := 99) hx hb dX3_barrelTold_92 (by decide) (fun c8 => ?_) (fun c8 => ?_)
        · have hF := tc_if hF c8
          refine lv_iconst (v := 0) hx hb dX3_barrelTold_99 (by decide) ?_
          refine tc_iast hx hb hK et_q3 hS hq_q3 2 rfl (by decide) dX3_barrelTold_100 (fun H locs et_q3 z1 o1 hS => ?_)
          have hW := hW.kept2 (fun j9 hj9 => o1 _ (hn_q3 j9 hj9))
          refine lv_astore (lv' := [(4, .ref q3), (3, .int 0), (0, .ref (E 0)), (1, .int a1), (2, .int a2)]) hx hb dX3_barrelTold_101 hl (by decide) rfl (fun ls hl => ?_)
          refine lv_aload hx hb dX3_barrelTold_103 (lv_at hl 0 rfl) ?_
          refine lv_iload_n hx hb dX3_barrelTold_105 rfl (lv_at hl 4 rfl) ?_
          obtain ⟨g9, hF⟩ := tc_ob hF
          refine tc_iald hx hb hK et_q3 2 rfl g9 dX3_barrelTold_106 ?_
          have h91 := Option.some.inj hF
          refine W.widen (k := 1) (n := 5) (Nat.le_of_ble_eq_true rfl) (Nat.le_of_ble_eq_true rfl) ?_
          exact W.iret hx hb hr (fun t ht hW9 => ⟨⟨by rw [← h91], by rw [ht]; exact hW⟩, tc_F hS ht⟩) hS.2.2 dX3_barrelTold_107
        · have hF := tc_it hF c8
          refine lv_iconst (v := 1) hx hb dX3_barrelTold_95 (by decide) ?_
          refine lv_goto (tgt := 100) hx hb dX3_barrelTold_96 (by decide) ?_
          refine tc_iast hx hb hK et_q3 hS hq_q3 2 rfl (by decide) dX3_barrelTold_100 (fun H locs et_q3 z1 o1 hS => ?_)
          have hW := hW.kept2 (fun j9 hj9 => o1 _ (hn_q3 j9 hj9))
          refine lv_astore (lv' := [(4, .ref q3), (3, .int 0), (0, .ref (E 0)), (1, .int a1), (2, .int a2)]) hx hb dX3_barrelTold_101 hl (by decide) rfl (fun ls hl => ?_)
          refine lv_aload hx hb dX3_barrelTold_103 (lv_at hl 0 rfl) ?_
          refine lv_iload_n hx hb dX3_barrelTold_105 rfl (lv_at hl 4 rfl) ?_
          obtain ⟨g10, hF⟩ := tc_ob hF
          refine tc_iald hx hb hK et_q3 2 rfl g10 dX3_barrelTold_106 ?_
          have h91 := Option.some.inj hF
          refine W.widen (k := 1) (n := 5) (Nat.le_of_ble_eq_true rfl) (Nat.le_of_ble_eq_true rfl) ?_
          exact W.iret hx hb hr (fun t ht hW9 => ⟨⟨by rw [← h91], by rw [ht]; exact hW⟩, tc_F hS ht⟩) hS.2.2 dX3_barrelTold_107
      · have hF := tc_if hF c5
        refine lv_aload_n hx hb dX3_barrelTold_50 rfl (lv_at hl 1 rfl) ?_
        refine lv_aload_n hx hb dX3_barrelTold_51 rfl (lv_at hl 1 rfl) ?_
        refine tc_get (v := .ref (E 4)) hx hb hts hinX3 hown hK (hW.1) (C := RX3) (T := TX3) (N := 15) rfl 4 (by decide) (hts (.fieldLink RX3 13 "TreadCranesModel" "at" "[I") (List.mem_of_getElem? (i := 1) rfl)) (fun _ h9 => h9) rfl dX3_barrelTold_52 ?_
        refine lv_iload_n hx hb dX3_barrelTold_55 rfl (lv_at hl 2 rfl) ?_
        refine tc_iald (f := x 4) hx hb hK (hW.lo ⟨by decide, by decide⟩) 2 rfl g1 dX3_barrelTold_56 ?_
        obtain ⟨r11, h12, hF⟩ := tc_bi hF
        refine tc_cr (W.runV (As := [.int (x 4 a1.toNatClampNeg)]) (rest := [.int 2, .ref q3, .ref q3]) ⟨hx, hb, hml, hown, hts⟩ (mt_X3_high l D cU cO cI A E x (x 4 a1.toNatClampNeg) r11 h12) (cwV 1 hts gX3_barrelTold_X3_high rfl rfl rfl (by decide +kernel) ⟨Nat.le_of_ble_eq_true rfl, Nat.le_of_ble_eq_true rfl⟩) ⟨fun a U g mk q => ⟨q.1, q.2.1, va_K.moved (Vm.Alike.refl U.vm) q.2.2⟩, tc_rcv (hW.1) hK rfl, fun U hU hW9 => ⟨rfl, by rw [hU]; exact hW, va_K.moved hW9.alike hK⟩⟩ rfl rfl hl.1 rfl (lv_room (Nat.le_of_ble_eq_true rfl)) dX3_barrelTold_57 ⟨Nat.le_of_ble_eq_true rfl, Nat.le_of_ble_eq_true rfl⟩) ?_
        refine lv_iconst (v := 1) hx hb dX3_barrelTold_60 (by decide) ?_
        refine lv_isub hx hb dX3_barrelTold_61 ?_
        refine lv_aload_n hx hb dX3_barrelTold_62 rfl (lv_at hl 1 rfl) ?_
        refine tc_get (v := .ref (E 5)) hx hb hts hinX3 hown hK (hW.1) (C := RX3) (T := TX3) (N := 15) rfl 5 (by decide) (hts (.fieldLink RX3 16 "TreadCranesModel" "below" "[I") (List.mem_of_getElem? (i := 4) rfl)) (fun _ h9 => h9) rfl dX3_barrelTold_63 ?_
        refine lv_iload_n hx hb dX3_barrelTold_66 rfl (lv_at hl 2 rfl) ?_
        refine tc_iald (f := x 5) hx hb hK (hW.lo ⟨by decide, by decide⟩) 2 rfl g1 dX3_barrelTold_67 ?_
        refine lv_isub hx hb dX3_barrelTold_68 ?_
        refine lv_goto (tgt := 73) hx hb dX3_barrelTold_69 (by decide) ?_
        refine tc_iast hx hb hK et_q3 hS hq_q3 2 rfl (by decide) dX3_barrelTold_73 (fun H locs et_q3 z1 o1 hS => ?_)
        have hW := hW.kept2 (fun j9 hj9 => o1 _ (hn_q3 j9 hj9))
        refine lv_dup hx hb dX3_barrelTold_74 rfl ?_
        refine lv_iconst (v := 3) hx hb dX3_barrelTold_75 (by decide) ?_
        refine lv_aload_n hx hb dX3_barrelTold_76 rfl (lv_at hl 1 rfl) ?_
        refine lv_iload_n hx hb dX3_barrelTold_77 rfl (lv_at hl 2 rfl) ?_
        obtain ⟨r13, h14, hF⟩ := tc_bi hF
        refine tc_cr (W.runV (As := [.int a1]) (rest := [.int 3, .ref q3, .ref q3]) ⟨hx, hb, hml, hown, hts⟩ (mt_X3_craneOf l D cU cO cI A E x a1 r13 h14) (cwV 1 hts gX3_barrelTold_X3_craneOf rfl rfl rfl (by decide +kernel) ⟨Nat.le_of_ble_eq_true rfl, Nat.le_of_ble_eq_true rfl⟩) ⟨fun a U g mk q => ⟨q.1, q.2.1, va_K.moved (Vm.Alike.refl U.vm) q.2.2⟩, tc_rcv (hW.1) hK rfl, fun U hU hW9 => ⟨rfl, by rw [hU]; exact hW, va_K.moved hW9.alike hK⟩⟩ rfl rfl hl.1 rfl (lv_room (Nat.le_of_ble_eq_true rfl)) dX3_barrelTold_78 ⟨Nat.le_of_ble_eq_true rfl, Nat.le_of_ble_eq_true rfl⟩) ?_
        refine tc_iast hx hb hK et_q3 hS hq_q3 2 rfl (by decide) dX3_barrelTold_81 (fun H locs et_q3 z1 o1 hS => ?_)
        have hW := hW.kept2 (fun j9 hj9 => o1 _ (hn_q3 j9 hj9))
        refine lv_dup hx hb dX3_barrelTold_82 rfl ?_
        refine lv_iconst (v := 4) hx hb dX3_barrelTold_83 (by decide) ?_
        refine lv_aload_n hx hb dX3_barrelTold_84 rfl (lv_at hl 1 rfl) ?_
        refine tc_get (v := .ref (E 4)) hx hb hts hinX3 hown hK (hW.1) (C := RX3) (T := TX3) (N := 15) rfl 4 (by decide) (hts (.fieldLink RX3 13 "TreadCranesModel" "at" "[I") (List.mem_of_getElem? (i := 1) rfl)) (fun _ h9 => h9) rfl dX3_barrelTold_85 ?_
        refine lv_iload_n hx hb dX3_barrelTold_88 rfl (lv_at hl 2 rfl) ?_
        refine tc_iald (f := x 4) hx hb hK (hW.lo ⟨by decide, by decide⟩) 2 rfl g1 dX3_barrelTold_89 ?_
        refine lv_bipush (v := (-2)) hx hb dX3_barrelTold_90 (by decide) ?_
        refine lv_icmp_ne (tgt := 99) hx hb dX3_barrelTold_92 (by decide) (fun c15 => ?_) (fun c15 => ?_)
        · have hF := tc_if hF c15
          refine lv_iconst (v := 0) hx hb dX3_barrelTold_99 (by decide) ?_
          refine tc_iast hx hb hK et_q3 hS hq_q3 2 rfl (by decide) dX3_barrelTold_100 (fun H locs et_q3 z1 o1 hS => ?_)
          have hW := hW.kept2 (fun j9 hj9 => o1 _ (hn_q3 j9 hj9))
          refine lv_astore (lv' := [(4, .ref q3), (3, .int 0), (0, .ref (E 0)), (1, .int a1), (2, .int a2)]) hx hb dX3_barrelTold_101 hl (by decide) rfl (fun ls hl => ?_)
          refine lv_aload hx hb dX3_barrelTold_103 (lv_at hl 0 rfl) ?_
          refine lv_iload_n hx hb dX3_barrelTold_105 rfl (lv_at hl 4 rfl) ?_
          obtain ⟨g16, hF⟩ := tc_ob hF
          refine tc_iald hx hb hK et_q3 2 rfl g16 dX3_barrelTold_106 ?_
          have h91 := Option.some.inj hF
          refine W.widen (k := 1) (n := 5) (Nat.le_of_ble_eq_true rfl) (Nat.le_of_ble_eq_true rfl) ?_
          exact W.iret hx hb hr (fun t ht hW9 => ⟨⟨by rw [← h91], by rw [ht]; exact hW⟩, tc_F hS ht⟩) hS.2.2 dX3_barrelTold_107
        · have hF := tc_it hF c15
          refine lv_iconst (v := 1) hx hb dX3_barrelTold_95 (by decide) ?_
          refine lv_goto (tgt := 100) hx hb dX3_barrelTold_96 (by decide) ?_
          refine tc_iast hx hb hK et_q3 hS hq_q3 2 rfl (by decide) dX3_barrelTold_100 (fun H locs et_q3 z1 o1 hS => ?_)
          have hW := hW.kept2 (fun j9 hj9 => o1 _ (hn_q3 j9 hj9))
          refine lv_astore (lv' := [(4, .ref q3), (3, .int 0), (0, .ref (E 0)), (1, .int a1), (2, .int a2)]) hx hb dX3_barrelTold_101 hl (by decide) rfl (fun ls hl => ?_)
          refine lv_aload hx hb dX3_barrelTold_103 (lv_at hl 0 rfl) ?_
          refine lv_iload_n hx hb dX3_barrelTold_105 rfl (lv_at hl 4 rfl) ?_
          obtain ⟨g17, hF⟩ := tc_ob hF
          refine tc_iald hx hb hK et_q3 2 rfl g17 dX3_barrelTold_106 ?_
          have h91 := Option.some.inj hF
          refine W.widen (k := 1) (n := 5) (Nat.le_of_ble_eq_true rfl) (Nat.le_of_ble_eq_true rfl) ?_
          exact W.iret hx hb hr (fun t ht hW9 => ⟨⟨by rw [← h91], by rw [ht]; exact hW⟩, tc_F hS ht⟩) hS.2.2 dX3_barrelTold_107
    · have hF := tc_if hF c4
      refine lv_aload_n hx hb dX3_barrelTold_33 rfl (lv_at hl 1 rfl) ?_
      refine tc_get (v := .ref (E 4)) hx hb hts hinX3 hown hK (hW.1) (C := RX3) (T := TX3) (N := 15) rfl 4 (by decide) (hts (.fieldLink RX3 13 "TreadCranesModel" "at" "[I") (List.mem_of_getElem? (i := 1) rfl)) (fun _ h9 => h9) rfl dX3_barrelTold_34 ?_
      refine lv_iload_n hx hb dX3_barrelTold_37 rfl (lv_at hl 2 rfl) ?_
      refine tc_iald (f := x 4) hx hb hK (hW.lo ⟨by decide, by decide⟩) 2 rfl g1 dX3_barrelTold_38 ?_
      refine lv_goto (tgt := 43) hx hb dX3_barrelTold_39 (by decide) ?_
      refine tc_iast hx hb hK et_q3 hS hq_q3 2 rfl (by decide) dX3_barrelTold_43 (fun H locs et_q3 z1 o1 hS => ?_)
      have hW := hW.kept2 (fun j9 hj9 => o1 _ (hn_q3 j9 hj9))
      refine lv_dup hx hb dX3_barrelTold_44 rfl ?_
      refine lv_iconst (v := 2) hx hb dX3_barrelTold_45 (by decide) ?_
      refine lv_iload_n hx hb dX3_barrelTold_46 rfl (lv_at hl 0 rfl) ?_
      refine lv_if_eq (tgt := 72) hx hb dX3_barrelTold_47 (by decide) (fun c18 => ?_) (fun c18 => ?_)
      · have hF := tc_it hF c18
        refine lv_iconst (v := 0) hx hb dX3_barrelTold_72 (by decide) ?_
        refine tc_iast hx hb hK et_q3 hS hq_q3 2 rfl (by decide) dX3_barrelTold_73 (fun H locs et_q3 z1 o1 hS => ?_)
        have hW := hW.kept2 (fun j9 hj9 => o1 _ (hn_q3 j9 hj9))
        refine lv_dup hx hb dX3_barrelTold_74 rfl ?_
        refine lv_iconst (v := 3) hx hb dX3_barrelTold_75 (by decide) ?_
        refine lv_aload_n hx hb dX3_barrelTold_76 rfl (lv_at hl 1 rfl) ?_
        refine lv_iload_n hx hb dX3_barrelTold_77 rfl (lv_at hl 2 rfl) ?_
        obtain ⟨r19, h20, hF⟩ := tc_bi hF
        refine tc_cr (W.runV (As := [.int a1]) (rest := [.int 3, .ref q3, .ref q3]) ⟨hx, hb, hml, hown, hts⟩ (mt_X3_craneOf l D cU cO cI A E x a1 r19 h20) (cwV 1 hts gX3_barrelTold_X3_craneOf rfl rfl rfl (by decide +kernel) ⟨Nat.le_of_ble_eq_true rfl, Nat.le_of_ble_eq_true rfl⟩) ⟨fun a U g mk q => ⟨q.1, q.2.1, va_K.moved (Vm.Alike.refl U.vm) q.2.2⟩, tc_rcv (hW.1) hK rfl, fun U hU hW9 => ⟨rfl, by rw [hU]; exact hW, va_K.moved hW9.alike hK⟩⟩ rfl rfl hl.1 rfl (lv_room (Nat.le_of_ble_eq_true rfl)) dX3_barrelTold_78 ⟨Nat.le_of_ble_eq_true rfl, Nat.le_of_ble_eq_true rfl⟩) ?_
        refine tc_iast hx hb hK et_q3 hS hq_q3 2 rfl (by decide) dX3_barrelTold_81 (fun H locs et_q3 z1 o1 hS => ?_)
        have hW := hW.kept2 (fun j9 hj9 => o1 _ (hn_q3 j9 hj9))
        refine lv_dup hx hb dX3_barrelTold_82 rfl ?_
        refine lv_iconst (v := 4) hx hb dX3_barrelTold_83 (by decide) ?_
        refine lv_aload_n hx hb dX3_barrelTold_84 rfl (lv_at hl 1 rfl) ?_
        refine tc_get (v := .ref (E 4)) hx hb hts hinX3 hown hK (hW.1) (C := RX3) (T := TX3) (N := 15) rfl 4 (by decide) (hts (.fieldLink RX3 13 "TreadCranesModel" "at" "[I") (List.mem_of_getElem? (i := 1) rfl)) (fun _ h9 => h9) rfl dX3_barrelTold_85 ?_
        refine lv_iload_n hx hb dX3_barrelTold_88 rfl (lv_at hl 2 rfl) ?_
        refine tc_iald (f := x 4) hx hb hK (hW.lo ⟨by decide, by decide⟩) 2 rfl g1 dX3_barrelTold_89 ?_
        refine lv_bipush (v := (-2)) hx hb dX3_barrelTold_90 (by decide) ?_
        refine lv_icmp_ne (tgt := 99) hx hb dX3_barrelTold_92 (by decide) (fun c21 => ?_) (fun c21 => ?_)
        · have hF := tc_if hF c21
          refine lv_iconst (v := 0) hx hb dX3_barrelTold_99 (by decide) ?_
          refine tc_iast hx hb hK et_q3 hS hq_q3 2 rfl (by decide) dX3_barrelTold_100 (fun H locs et_q3 z1 o1 hS => ?_)
          have hW := hW.kept2 (fun j9 hj9 => o1 _ (hn_q3 j9 hj9))
          refine lv_astore (lv' := [(4, .ref q3), (3, .int 0), (0, .ref (E 0)), (1, .int a1), (2, .int a2)]) hx hb dX3_barrelTold_101 hl (by decide) rfl (fun ls hl => ?_)
          refine lv_aload hx hb dX3_barrelTold_103 (lv_at hl 0 rfl) ?_
          refine lv_iload_n hx hb dX3_barrelTold_105 rfl (lv_at hl 4 rfl) ?_
          obtain ⟨g22, hF⟩ := tc_ob hF
          refine tc_iald hx hb hK et_q3 2 rfl g22 dX3_barrelTold_106 ?_
          have h91 := Option.some.inj hF
          refine W.widen (k := 1) (n := 5) (Nat.le_of_ble_eq_true rfl) (Nat.le_of_ble_eq_true rfl) ?_
          exact W.iret hx hb hr (fun t ht hW9 => ⟨⟨by rw [← h91], by rw [ht]; exact hW⟩, tc_F hS ht⟩) hS.2.2 dX3_barrelTold_107
        · have hF := tc_it hF c21
          refine lv_iconst (v := 1) hx hb dX3_barrelTold_95 (by decide) ?_
          refine lv_goto (tgt := 100) hx hb dX3_barrelTold_96 (by decide) ?_
          refine tc_iast hx hb hK et_q3 hS hq_q3 2 rfl (by decide) dX3_barrelTold_100 (fun H locs et_q3 z1 o1 hS => ?_)
          have hW := hW.kept2 (fun j9 hj9 => o1 _ (hn_q3 j9 hj9))
          refine lv_astore (lv' := [(4, .ref q3), (3, .int 0), (0, .ref (E 0)), (1, .int a1), (2, .int a2)]) hx hb dX3_barrelTold_101 hl (by decide) rfl (fun ls hl => ?_)
          refine lv_aload hx hb dX3_barrelTold_103 (lv_at hl 0 rfl) ?_
          refine lv_iload_n hx hb dX3_barrelTold_105 rfl (lv_at hl 4 rfl) ?_
          obtain ⟨g23, hF⟩ := tc_ob hF
          refine tc_iald hx hb hK et_q3 2 rfl g23 dX3_barrelTold_106 ?_
          have h91 := Option.some.inj hF
          refine W.widen (k := 1) (n := 5) (Nat.le_of_ble_eq_true rfl) (Nat.le_of_ble_eq_true rfl) ?_
          exact W.iret hx hb hr (fun t ht hW9 => ⟨⟨by rw [← h91], by rw [ht]; exact hW⟩, tc_F hS ht⟩) hS.2.2 dX3_barrelTold_107
      · have hF := tc_if hF c18
        refine lv_aload_n hx hb dX3_barrelTold_50 rfl (lv_at hl 1 rfl) ?_
        refine lv_aload_n hx hb dX3_barrelTold_51 rfl (lv_at hl 1 rfl) ?_
        refine tc_get (v := .ref (E 4)) hx hb hts hinX3 hown hK (hW.1) (C := RX3) (T := TX3) (N := 15) rfl 4 (by decide) (hts (.fieldLink RX3 13 "TreadCranesModel" "at" "[I") (List.mem_of_getElem? (i := 1) rfl)) (fun _ h9 => h9) rfl dX3_barrelTold_52 ?_
        refine lv_iload_n hx hb dX3_barrelTold_55 rfl (lv_at hl 2 rfl) ?_
        refine tc_iald (f := x 4) hx hb hK (hW.lo ⟨by decide, by decide⟩) 2 rfl g1 dX3_barrelTold_56 ?_
        obtain ⟨r24, h25, hF⟩ := tc_bi hF
        refine tc_cr (W.runV (As := [.int (x 4 a1.toNatClampNeg)]) (rest := [.int 2, .ref q3, .ref q3]) ⟨hx, hb, hml, hown, hts⟩ (mt_X3_high l D cU cO cI A E x (x 4 a1.toNatClampNeg) r24 h25) (cwV 1 hts gX3_barrelTold_X3_high rfl rfl rfl (by decide +kernel) ⟨Nat.le_of_ble_eq_true rfl, Nat.le_of_ble_eq_true rfl⟩) ⟨fun a U g mk q => ⟨q.1, q.2.1, va_K.moved (Vm.Alike.refl U.vm) q.2.2⟩, tc_rcv (hW.1) hK rfl, fun U hU hW9 => ⟨rfl, by rw [hU]; exact hW, va_K.moved hW9.alike hK⟩⟩ rfl rfl hl.1 rfl (lv_room (Nat.le_of_ble_eq_true rfl)) dX3_barrelTold_57 ⟨Nat.le_of_ble_eq_true rfl, Nat.le_of_ble_eq_true rfl⟩) ?_
        refine lv_iconst (v := 1) hx hb dX3_barrelTold_60 (by decide) ?_
        refine lv_isub hx hb dX3_barrelTold_61 ?_
        refine lv_aload_n hx hb dX3_barrelTold_62 rfl (lv_at hl 1 rfl) ?_
        refine tc_get (v := .ref (E 5)) hx hb hts hinX3 hown hK (hW.1) (C := RX3) (T := TX3) (N := 15) rfl 5 (by decide) (hts (.fieldLink RX3 16 "TreadCranesModel" "below" "[I") (List.mem_of_getElem? (i := 4) rfl)) (fun _ h9 => h9) rfl dX3_barrelTold_63 ?_
        refine lv_iload_n hx hb dX3_barrelTold_66 rfl (lv_at hl 2 rfl) ?_
        refine tc_iald (f := x 5) hx hb hK (hW.lo ⟨by decide, by decide⟩) 2 rfl g1 dX3_barrelTold_67 ?_
        refine lv_isub hx hb dX3_barrelTold_68 ?_
        refine lv_goto (tgt := 73) hx hb dX3_barrelTold_69 (by decide) ?_
        refine tc_iast hx hb hK et_q3 hS hq_q3 2 rfl (by decide) dX3_barrelTold_73 (fun H locs et_q3 z1 o1 hS => ?_)
        have hW := hW.kept2 (fun j9 hj9 => o1 _ (hn_q3 j9 hj9))
        refine lv_dup hx hb dX3_barrelTold_74 rfl ?_
        refine lv_iconst (v := 3) hx hb dX3_barrelTold_75 (by decide) ?_
        refine lv_aload_n hx hb dX3_barrelTold_76 rfl (lv_at hl 1 rfl) ?_
        refine lv_iload_n hx hb dX3_barrelTold_77 rfl (lv_at hl 2 rfl) ?_
        obtain ⟨r26, h27, hF⟩ := tc_bi hF
        refine tc_cr (W.runV (As := [.int a1]) (rest := [.int 3, .ref q3, .ref q3]) ⟨hx, hb, hml, hown, hts⟩ (mt_X3_craneOf l D cU cO cI A E x a1 r26 h27) (cwV 1 hts gX3_barrelTold_X3_craneOf rfl rfl rfl (by decide +kernel) ⟨Nat.le_of_ble_eq_true rfl, Nat.le_of_ble_eq_true rfl⟩) ⟨fun a U g mk q => ⟨q.1, q.2.1, va_K.moved (Vm.Alike.refl U.vm) q.2.2⟩, tc_rcv (hW.1) hK rfl, fun U hU hW9 => ⟨rfl, by rw [hU]; exact hW, va_K.moved hW9.alike hK⟩⟩ rfl rfl hl.1 rfl (lv_room (Nat.le_of_ble_eq_true rfl)) dX3_barrelTold_78 ⟨Nat.le_of_ble_eq_true rfl, Nat.le_of_ble_eq_true rfl⟩) ?_
        refine tc_iast hx hb hK et_q3 hS hq_q3 2 rfl (by decide) dX3_barrelTold_81 (fun H locs et_q3 z1 o1 hS => ?_)
        have hW := hW.kept2 (fun j9 hj9 => o1 _ (hn_q3 j9 hj9))
        refine lv_dup hx hb dX3_barrelTold_82 rfl ?_
        refine lv_iconst (v := 4) hx hb dX3_barrelTold_83 (by decide) ?_
        refine lv_aload_n hx hb dX3_barrelTold_84 rfl (lv_at hl 1 rfl) ?_
        refine tc_get (v := .ref (E 4)) hx hb hts hinX3 hown hK (hW.1) (C := RX3) (T := TX3) (N := 15) rfl 4 (by decide) (hts (.fieldLink RX3 13 "TreadCranesModel" "at" "[I") (List.mem_of_getElem? (i := 1) rfl)) (fun _ h9 => h9) rfl dX3_barrelTold_85 ?_
        refine lv_iload_n hx hb dX3_barrelTold_88 rfl (lv_at hl 2 rfl) ?_
        refine tc_iald (f := x 4) hx hb hK (hW.lo ⟨by decide, by decide⟩) 2 rfl g1 dX3_barrelTold_89 ?_
        refine lv_bipush (v := (-2)) hx hb dX3_barrelTold_90 (by decide) ?_
        refine lv_icmp_ne (tgt := 99) hx hb dX3_barrelTold_92 (by decide) (fun c28 => ?_) (fun c28 => ?_)
        · have hF := tc_if hF c28
          refine lv_iconst (v := 0) hx hb dX3_barrelTold_99 (by decide) ?_
          refine tc_iast hx hb hK et_q3 hS hq_q3 2 rfl (by decide) dX3_barrelTold_100 (fun H locs et_q3 z1 o1 hS => ?_)
          have hW := hW.kept2 (fun j9 hj9 => o1 _ (hn_q3 j9 hj9))
          refine lv_astore (lv' := [(4, .ref q3), (3, .int 0), (0, .ref (E 0)), (1, .int a1), (2, .int a2)]) hx hb dX3_barrelTold_101 hl (by decide) rfl (fun ls hl => ?_)
          refine lv_aload hx hb dX3_barrelTold_103 (lv_at hl 0 rfl) ?_
          refine lv_iload_n hx hb dX3_barrelTold_105 rfl (lv_at hl 4 rfl) ?_
          obtain ⟨g29, hF⟩ := tc_ob hF
          refine tc_iald hx hb hK et_q3 2 rfl g29 dX3_barrelTold_106 ?_
          have h91 := Option.some.inj hF
          refine W.widen (k := 1) (n := 5) (Nat.le_of_ble_eq_true rfl) (Nat.le_of_ble_eq_true rfl) ?_
          exact W.iret hx hb hr (fun t ht hW9 => ⟨⟨by rw [← h91], by rw [ht]; exact hW⟩, tc_F hS ht⟩) hS.2.2 dX3_barrelTold_107
        · have hF := tc_it hF c28
          refine lv_iconst (v := 1) hx hb dX3_barrelTold_95 (by decide) ?_
          refine lv_goto (tgt := 100) hx hb dX3_barrelTold_96 (by decide) ?_
          refine tc_iast hx hb hK et_q3 hS hq_q3 2 rfl (by decide) dX3_barrelTold_100 (fun H locs et_q3 z1 o1 hS => ?_)
          have hW := hW.kept2 (fun j9 hj9 => o1 _ (hn_q3 j9 hj9))
          refine lv_astore (lv' := [(4, .ref q3), (3, .int 0), (0, .ref (E 0)), (1, .int a1), (2, .int a2)]) hx hb dX3_barrelTold_101 hl (by decide) rfl (fun ls hl => ?_)
          refine lv_aload hx hb dX3_barrelTold_103 (lv_at hl 0 rfl) ?_
          refine lv_iload_n hx hb dX3_barrelTold_105 rfl (lv_at hl 4 rfl) ?_
          obtain ⟨g30, hF⟩ := tc_ob hF
          refine tc_iald hx hb hK et_q3 2 rfl g30 dX3_barrelTold_106 ?_
          have h91 := Option.some.inj hF
          refine W.widen (k := 1) (n := 5) (Nat.le_of_ble_eq_true rfl) (Nat.le_of_ble_eq_true rfl) ?_
          exact W.iret hx hb hr (fun t ht hW9 => ⟨⟨by rw [← h91], by rw [ht]; exact hW⟩, tc_F hS ht⟩) hS.2.2 dX3_barrelTold_107
  · have hF := tc_if hF c2
    refine lv_iconst (v := 1) hx hb dX3_barrelTold_9 (by decide) ?_
    refine lv_goto (tgt := 14) hx hb dX3_barrelTold_10 (by decide) ?_
    refine lv_istore_n (lv' := [(3, .int 1), (0, .ref (E 0)), (1, .int a1), (2, .int a2)]) hx hb dX3_barrelTold_14 rfl hl (by decide) rfl (fun ls hl => ?_)
    refine lv_iconst (v := 5) hx hb dX3_barrelTold_15 (by decide) ?_
    refine tc_newI (N := 5) hx hb (hts (.arrayClass .int) (List.mem_of_getElem? (i := 2) rfl)) hS hK hA (by decide) (by decide) (by decide) (Nat.le_of_ble_eq_true rfl) (Nat.le_of_ble_eq_true rfl) dX3_barrelTold_16 2 rfl (fun q31 H hq9 hq_q31 et_q31 z1 o1 hS => ?_)
    have hn_q31 := hW.ne hq9
    have hW := hW.grown o1
    refine lv_dup hx hb dX3_barrelTold_18 rfl ?_
    refine lv_iconst (v := 0) hx hb dX3_barrelTold_19 (by decide) ?_
    refine lv_aload_n hx hb dX3_barrelTold_20 rfl (lv_at hl 1 rfl) ?_
    refine tc_get (v := .ref (E 3)) hx hb hts hinX3 hown hK (hW.1) (C := RX3) (T := TX3) (N := 15) rfl 3 (by decide) (hts (.fieldLink RX3 9 "TreadCranesModel" "weight" "[I") (List.mem_of_getElem? (i := 3) rfl)) (fun _ h9 => h9) rfl dX3_barrelTold_21 ?_
    refine lv_iload_n hx hb dX3_barrelTold_24 rfl (lv_at hl 2 rfl) ?_
    refine tc_iald (f := x 3) hx hb hK (hW.lo ⟨by decide, by decide⟩) 2 rfl g1 dX3_barrelTold_25 ?_
    refine tc_iast hx hb hK et_q31 hS hq_q31 2 rfl (by decide) dX3_barrelTold_26 (fun H locs et_q31 z1 o1 hS => ?_)
    have hW := hW.kept2 (fun j9 hj9 => o1 _ (hn_q31 j9 hj9))
    refine lv_dup hx hb dX3_barrelTold_27 rfl ?_
    refine lv_iconst (v := 1) hx hb dX3_barrelTold_28 (by decide) ?_
    refine lv_iload_n hx hb dX3_barrelTold_29 rfl (lv_at hl 0 rfl) ?_
    refine lv_if_eq (tgt := 42) hx hb dX3_barrelTold_30 (by decide) (fun c32 => ?_) (fun c32 => ?_)
    · have hF := tc_it hF c32
      refine lv_iconst (v := (-1)) hx hb dX3_barrelTold_42 (by decide) ?_
      refine tc_iast hx hb hK et_q31 hS hq_q31 2 rfl (by decide) dX3_barrelTold_43 (fun H locs et_q31 z1 o1 hS => ?_)
      have hW := hW.kept2 (fun j9 hj9 => o1 _ (hn_q31 j9 hj9))
      refine lv_dup hx hb dX3_barrelTold_44 rfl ?_
      refine lv_iconst (v := 2) hx hb dX3_barrelTold_45 (by decide) ?_
      refine lv_iload_n hx hb dX3_barrelTold_46 rfl (lv_at hl 0 rfl) ?_
      refine lv_if_eq (tgt := 72) hx hb dX3_barrelTold_47 (by decide) (fun c33 => ?_) (fun c33 => ?_)
      · have hF := tc_it hF c33
        refine lv_iconst (v := 0) hx hb dX3_barrelTold_72 (by decide) ?_
        refine tc_iast hx hb hK et_q31 hS hq_q31 2 rfl (by decide) dX3_barrelTold_73 (fun H locs et_q31 z1 o1 hS => ?_)
        have hW := hW.kept2 (fun j9 hj9 => o1 _ (hn_q31 j9 hj9))
        refine lv_dup hx hb dX3_barrelTold_74 rfl ?_
        refine lv_iconst (v := 3) hx hb dX3_barrelTold_75 (by decide) ?_
        refine lv_aload_n hx hb dX3_barrelTold_76 rfl (lv_at hl 1 rfl) ?_
        refine lv_iload_n hx hb dX3_barrelTold_77 rfl (lv_at hl 2 rfl) ?_
        obtain ⟨r34, h35, hF⟩ := tc_bi hF
        refine tc_cr (W.runV (As := [.int a1]) (rest := [.int 3, .ref q31, .ref q31]) ⟨hx, hb, hml, hown, hts⟩ (mt_X3_craneOf l D cU cO cI A E x a1 r34 h35) (cwV 1 hts gX3_barrelTold_X3_craneOf rfl rfl rfl (by decide +kernel) ⟨Nat.le_of_ble_eq_true rfl, Nat.le_of_ble_eq_true rfl⟩) ⟨fun a U g mk q => ⟨q.1, q.2.1, va_K.moved (Vm.Alike.refl U.vm) q.2.2⟩, tc_rcv (hW.1) hK rfl, fun U hU hW9 => ⟨rfl, by rw [hU]; exact hW, va_K.moved hW9.alike hK⟩⟩ rfl rfl hl.1 rfl (lv_room (Nat.le_of_ble_eq_true rfl)) dX3_barrelTold_78 ⟨Nat.le_of_ble_eq_true rfl, Nat.le_of_ble_eq_true rfl⟩) ?_
        refine tc_iast hx hb hK et_q31 hS hq_q31 2 rfl (by decide) dX3_barrelTold_81 (fun H locs et_q31 z1 o1 hS => ?_)
        have hW := hW.kept2 (fun j9 hj9 => o1 _ (hn_q31 j9 hj9))
        refine lv_dup hx hb dX3_barrelTold_82 rfl ?_
        refine lv_iconst (v := 4) hx hb dX3_barrelTold_83 (by decide) ?_
        refine lv_aload_n hx hb dX3_barrelTold_84 rfl (lv_at hl 1 rfl) ?_
        refine tc_get (v := .ref (E 4)) hx hb hts hinX3 hown hK (hW.1) (C := RX3) (T := TX3) (N := 15) rfl 4 (by decide) (hts (.fieldLink RX3 13 "TreadCranesModel" "at" "[I") (List.mem_of_getElem? (i := 1) rfl)) (fun _ h9 => h9) rfl dX3_barrelTold_85 ?_
        refine lv_iload_n hx hb dX3_barrelTold_88 rfl (lv_at hl 2 rfl) ?_
        refine tc_iald (f := x 4) hx hb hK (hW.lo ⟨by decide, by decide⟩) 2 rfl g1 dX3_barrelTold_89 ?_
        refine lv_bipush (v := (-2)) hx hb dX3_barrelTold_90 (by decide) ?_
        refine lv_icmp_ne (tgt := 99) hx hb dX3_barrelTold_92 (by decide) (fun c36 => ?_) (fun c36 => ?_)
        · have hF := tc_if hF c36
          refine lv_iconst (v := 0) hx hb dX3_barrelTold_99 (by decide) ?_
          refine tc_iast hx hb hK et_q31 hS hq_q31 2 rfl (by decide) dX3_barrelTold_100 (fun H locs et_q31 z1 o1 hS => ?_)
          have hW := hW.kept2 (fun j9 hj9 => o1 _ (hn_q31 j9 hj9))
          refine lv_astore (lv' := [(4, .ref q31), (3, .int 1), (0, .ref (E 0)), (1, .int a1), (2, .int a2)]) hx hb dX3_barrelTold_101 hl (by decide) rfl (fun ls hl => ?_)
          refine lv_aload hx hb dX3_barrelTold_103 (lv_at hl 0 rfl) ?_
          refine lv_iload_n hx hb dX3_barrelTold_105 rfl (lv_at hl 4 rfl) ?_
          obtain ⟨g37, hF⟩ := tc_ob hF
          refine tc_iald hx hb hK et_q31 2 rfl g37 dX3_barrelTold_106 ?_
          have h91 := Option.some.inj hF
          refine W.widen (k := 1) (n := 5) (Nat.le_of_ble_eq_true rfl) (Nat.le_of_ble_eq_true rfl) ?_
          exact W.iret hx hb hr (fun t ht hW9 => ⟨⟨by rw [← h91], by rw [ht]; exact hW⟩, tc_F hS ht⟩) hS.2.2 dX3_barrelTold_107
        · have hF := tc_it hF c36
          refine lv_iconst (v := 1) hx hb dX3_barrelTold_95 (by decide) ?_
          refine lv_goto (tgt := 100) hx hb dX3_barrelTold_96 (by decide) ?_
          refine tc_iast hx hb hK et_q31 hS hq_q31 2 rfl (by decide) dX3_barrelTold_100 (fun H locs et_q31 z1 o1 hS => ?_)
          have hW := hW.kept2 (fun j9 hj9 => o1 _ (hn_q31 j9 hj9))
          refine lv_astore (lv' := [(4, .ref q31), (3, .int 1), (0, .ref (E 0)), (1, .int a1), (2, .int a2)]) hx hb dX3_barrelTold_101 hl (by decide) rfl (fun ls hl => ?_)
          refine lv_aload hx hb dX3_barrelTold_103 (lv_at hl 0 rfl) ?_
          refine lv_iload_n hx hb dX3_barrelTold_105 rfl (lv_at hl 4 rfl) ?_
          obtain ⟨g38, hF⟩ := tc_ob hF
          refine tc_iald hx hb hK et_q31 2 rfl g38 dX3_barrelTold_106 ?_
          have h91 := Option.some.inj hF
          refine W.widen (k := 1) (n := 5) (Nat.le_of_ble_eq_true rfl) (Nat.le_of_ble_eq_true rfl) ?_
          exact W.iret hx hb hr (fun t ht hW9 => ⟨⟨by rw [← h91], by rw [ht]; exact hW⟩, tc_F hS ht⟩) hS.2.2 dX3_barrelTold_107
      · have hF := tc_if hF c33
        refine lv_aload_n hx hb dX3_barrelTold_50 rfl (lv_at hl 1 rfl) ?_
        refine lv_aload_n hx hb dX3_barrelTold_51 rfl (lv_at hl 1 rfl) ?_
        refine tc_get (v := .ref (E 4)) hx hb hts hinX3 hown hK (hW.1) (C := RX3) (T := TX3) (N := 15) rfl 4 (by decide) (hts (.fieldLink RX3 13 "TreadCranesModel" "at" "[I") (List.mem_of_getElem? (i := 1) rfl)) (fun _ h9 => h9) rfl dX3_barrelTold_52 ?_
        refine lv_iload_n hx hb dX3_barrelTold_55 rfl (lv_at hl 2 rfl) ?_
        refine tc_iald (f := x 4) hx hb hK (hW.lo ⟨by decide, by decide⟩) 2 rfl g1 dX3_barrelTold_56 ?_
        obtain ⟨r39, h40, hF⟩ := tc_bi hF
        refine tc_cr (W.runV (As := [.int (x 4 a1.toNatClampNeg)]) (rest := [.int 2, .ref q31, .ref q31]) ⟨hx, hb, hml, hown, hts⟩ (mt_X3_high l D cU cO cI A E x (x 4 a1.toNatClampNeg) r39 h40) (cwV 1 hts gX3_barrelTold_X3_high rfl rfl rfl (by decide +kernel) ⟨Nat.le_of_ble_eq_true rfl, Nat.le_of_ble_eq_true rfl⟩) ⟨fun a U g mk q => ⟨q.1, q.2.1, va_K.moved (Vm.Alike.refl U.vm) q.2.2⟩, tc_rcv (hW.1) hK rfl, fun U hU hW9 => ⟨rfl, by rw [hU]; exact hW, va_K.moved hW9.alike hK⟩⟩ rfl rfl hl.1 rfl (lv_room (Nat.le_of_ble_eq_true rfl)) dX3_barrelTold_57 ⟨Nat.le_of_ble_eq_true rfl, Nat.le_of_ble_eq_true rfl⟩) ?_
        refine lv_iconst (v := 1) hx hb dX3_barrelTold_60 (by decide) ?_
        refine lv_isub hx hb dX3_barrelTold_61 ?_
        refine lv_aload_n hx hb dX3_barrelTold_62 rfl (lv_at hl 1 rfl) ?_
        refine tc_get (v := .ref (E 5)) hx hb hts hinX3 hown hK (hW.1) (C := RX3) (T := TX3) (N := 15) rfl 5 (by decide) (hts (.fieldLink RX3 16 "TreadCranesModel" "below" "[I") (List.mem_of_getElem? (i := 4) rfl)) (fun _ h9 => h9) rfl dX3_barrelTold_63 ?_
        refine lv_iload_n hx hb dX3_barrelTold_66 rfl (lv_at hl 2 rfl) ?_
        refine tc_iald (f := x 5) hx hb hK (hW.lo ⟨by decide, by decide⟩) 2 rfl g1 dX3_barrelTold_67 ?_
        refine lv_isub hx hb dX3_barrelTold_68 ?_
        refine lv_goto (tgt := 73) hx hb dX3_barrelTold_69 (by decide) ?_
        refine tc_iast hx hb hK et_q31 hS hq_q31 2 rfl (by decide) dX3_barrelTold_73 (fun H locs et_q31 z1 o1 hS => ?_)
        have hW := hW.kept2 (fun j9 hj9 => o1 _ (hn_q31 j9 hj9))
        refine lv_dup hx hb dX3_barrelTold_74 rfl ?_
        refine lv_iconst (v := 3) hx hb dX3_barrelTold_75 (by decide) ?_
        refine lv_aload_n hx hb dX3_barrelTold_76 rfl (lv_at hl 1 rfl) ?_
        refine lv_iload_n hx hb dX3_barrelTold_77 rfl (lv_at hl 2 rfl) ?_
        obtain ⟨r41, h42, hF⟩ := tc_bi hF
        refine tc_cr (W.runV (As := [.int a1]) (rest := [.int 3, .ref q31, .ref q31]) ⟨hx, hb, hml, hown, hts⟩ (mt_X3_craneOf l D cU cO cI A E x a1 r41 h42) (cwV 1 hts gX3_barrelTold_X3_craneOf rfl rfl rfl (by decide +kernel) ⟨Nat.le_of_ble_eq_true rfl, Nat.le_of_ble_eq_true rfl⟩) ⟨fun a U g mk q => ⟨q.1, q.2.1, va_K.moved (Vm.Alike.refl U.vm) q.2.2⟩, tc_rcv (hW.1) hK rfl, fun U hU hW9 => ⟨rfl, by rw [hU]; exact hW, va_K.moved hW9.alike hK⟩⟩ rfl rfl hl.1 rfl (lv_room (Nat.le_of_ble_eq_true rfl)) dX3_barrelTold_78 ⟨Nat.le_of_ble_eq_true rfl, Nat.le_of_ble_eq_true rfl⟩) ?_
        refine tc_iast hx hb hK et_q31 hS hq_q31 2 rfl (by decide) dX3_barrelTold_81 (fun H locs et_q31 z1 o1 hS => ?_)
        have hW := hW.kept2 (fun j9 hj9 => o1 _ (hn_q31 j9 hj9))
        refine lv_dup hx hb dX3_barrelTold_82 rfl ?_
        refine lv_iconst (v := 4) hx hb dX3_barrelTold_83 (by decide) ?_
        refine lv_aload_n hx hb dX3_barrelTold_84 rfl (lv_at hl 1 rfl) ?_
        refine tc_get (v := .ref (E 4)) hx hb hts hinX3 hown hK (hW.1) (C := RX3) (T := TX3) (N := 15) rfl 4 (by decide) (hts (.fieldLink RX3 13 "TreadCranesModel" "at" "[I") (List.mem_of_getElem? (i := 1) rfl)) (fun _ h9 => h9) rfl dX3_barrelTold_85 ?_
        refine lv_iload_n hx hb dX3_barrelTold_88 rfl (lv_at hl 2 rfl) ?_
        refine tc_iald (f := x 4) hx hb hK (hW.lo ⟨by decide, by decide⟩) 2 rfl g1 dX3_barrelTold_89 ?_
        refine lv_bipush (v := (-2)) hx hb dX3_barrelTold_90 (by decide) ?_
        refine lv_icmp_ne (tgt := 99) hx hb dX3_barrelTold_92 (by decide) (fun c43 => ?_) (fun c43 => ?_)
        · have hF := tc_if hF c43
          refine lv_iconst (v := 0) hx hb dX3_barrelTold_99 (by decide) ?_
          refine tc_iast hx hb hK et_q31 hS hq_q31 2 rfl (by decide) dX3_barrelTold_100 (fun H locs et_q31 z1 o1 hS => ?_)
          have hW := hW.kept2 (fun j9 hj9 => o1 _ (hn_q31 j9 hj9))
          refine lv_astore (lv' := [(4, .ref q31), (3, .int 1), (0, .ref (E 0)), (1, .int a1), (2, .int a2)]) hx hb dX3_barrelTold_101 hl (by decide) rfl (fun ls hl => ?_)
          refine lv_aload hx hb dX3_barrelTold_103 (lv_at hl 0 rfl) ?_
          refine lv_iload_n hx hb dX3_barrelTold_105 rfl (lv_at hl 4 rfl) ?_
          obtain ⟨g44, hF⟩ := tc_ob hF
          refine tc_iald hx hb hK et_q31 2 rfl g44 dX3_barrelTold_106 ?_
          have h91 := Option.some.inj hF
          refine W.widen (k := 1) (n := 5) (Nat.le_of_ble_eq_true rfl) (Nat.le_of_ble_eq_true rfl) ?_
          exact W.iret hx hb hr (fun t ht hW9 => ⟨⟨by rw [← h91], by rw [ht]; exact hW⟩, tc_F hS ht⟩) hS.2.2 dX3_barrelTold_107
        · have hF := tc_it hF c43
          refine lv_iconst (v := 1) hx hb dX3_barrelTold_95 (by decide) ?_
          refine lv_goto (tgt := 100) hx hb dX3_barrelTold_96 (by decide) ?_
          refine tc_iast hx hb hK et_q31 hS hq_q31 2 rfl (by decide) dX3_barrelTold_100 (fun H locs et_q31 z1 o1 hS => ?_)
          have hW := hW.kept2 (fun j9 hj9 => o1 _ (hn_q31 j9 hj9))
          refine lv_astore (lv' := [(4, .ref q31), (3, .int 1), (0, .ref (E 0)), (1, .int a1), (2, .int a2)]) hx hb dX3_barrelTold_101 hl (by decide) rfl (fun ls hl => ?_)
          refine lv_aload hx hb dX3_barrelTold_103 (lv_at hl 0 rfl) ?_
          refine lv_iload_n hx hb dX3_barrelTold_105 rfl (lv_at hl 4 rfl) ?_
          obtain ⟨g45, hF⟩ := tc_ob hF
          refine tc_iald hx hb hK et_q31 2 rfl g45 dX3_barrelTold_106 ?_
          have h91 := Option.some.inj hF
          refine W.widen (k := 1) (n := 5) (Nat.le_of_ble_eq_true rfl) (Nat.le_of_ble_eq_true rfl) ?_
          exact W.iret hx hb hr (fun t ht hW9 => ⟨⟨by rw [← h91], by rw [ht]; exact hW⟩, tc_F hS ht⟩) hS.2.2 dX3_barrelTold_107
    · have hF := tc_if hF c32
      refine lv_aload_n hx hb dX3_barrelTold_33 rfl (lv_at hl 1 rfl) ?_
      refine tc_get (v := .ref (E 4)) hx hb hts hinX3 hown hK (hW.1) (C := RX3) (T := TX3) (N := 15) rfl 4 (by decide) (hts (.fieldLink RX3 13 "TreadCranesModel" "at" "[I") (List.mem_of_getElem? (i := 1) rfl)) (fun _ h9 => h9) rfl dX3_barrelTold_34 ?_
      refine lv_iload_n hx hb dX3_barrelTold_37 rfl (lv_at hl 2 rfl) ?_
      refine tc_iald (f := x 4) hx hb hK (hW.lo ⟨by decide, by decide⟩) 2 rfl g1 dX3_barrelTold_38 ?_
      refine lv_goto (tgt := 43) hx hb dX3_barrelTold_39 (by decide) ?_
      refine tc_iast hx hb hK et_q31 hS hq_q31 2 rfl (by decide) dX3_barrelTold_43 (fun H locs et_q31 z1 o1 hS => ?_)
      have hW := hW.kept2 (fun j9 hj9 => o1 _ (hn_q31 j9 hj9))
      refine lv_dup hx hb dX3_barrelTold_44 rfl ?_
      refine lv_iconst (v := 2) hx hb dX3_barrelTold_45 (by decide) ?_
      refine lv_iload_n hx hb dX3_barrelTold_46 rfl (lv_at hl 0 rfl) ?_
      refine lv_if_eq (tgt := 72) hx hb dX3_barrelTold_47 (by decide) (fun c46 => ?_) (fun c46 => ?_)
      · have hF := tc_it hF c46
        refine lv_iconst (v := 0) hx hb dX3_barrelTold_72 (by decide) ?_
        refine tc_iast hx hb hK et_q31 hS hq_q31 2 rfl (by decide) dX3_barrelTold_73 (fun H locs et_q31 z1 o1 hS => ?_)
        have hW := hW.kept2 (fun j9 hj9 => o1 _ (hn_q31 j9 hj9))
        refine lv_dup hx hb dX3_barrelTold_74 rfl ?_
        refine lv_iconst (v := 3) hx hb dX3_barrelTold_75 (by decide) ?_
        refine lv_aload_n hx hb dX3_barrelTold_76 rfl (lv_at hl 1 rfl) ?_
        refine lv_iload_n hx hb dX3_barrelTold_77 rfl (lv_at hl 2 rfl) ?_
        obtain ⟨r47, h48, hF⟩ := tc_bi hF
        refine tc_cr (W.runV (As := [.int a1]) (rest := [.int 3, .ref q31, .ref q31]) ⟨hx, hb, hml, hown, hts⟩ (mt_X3_craneOf l D cU cO cI A E x a1 r47 h48) (cwV 1 hts gX3_barrelTold_X3_craneOf rfl rfl rfl (by decide +kernel) ⟨Nat.le_of_ble_eq_true rfl, Nat.le_of_ble_eq_true rfl⟩) ⟨fun a U g mk q => ⟨q.1, q.2.1, va_K.moved (Vm.Alike.refl U.vm) q.2.2⟩, tc_rcv (hW.1) hK rfl, fun U hU hW9 => ⟨rfl, by rw [hU]; exact hW, va_K.moved hW9.alike hK⟩⟩ rfl rfl hl.1 rfl (lv_room (Nat.le_of_ble_eq_true rfl)) dX3_barrelTold_78 ⟨Nat.le_of_ble_eq_true rfl, Nat.le_of_ble_eq_true rfl⟩) ?_
        refine tc_iast hx hb hK et_q31 hS hq_q31 2 rfl (by decide) dX3_barrelTold_81 (fun H locs et_q31 z1 o1 hS => ?_)
        have hW := hW.kept2 (fun j9 hj9 => o1 _ (hn_q31 j9 hj9))
        refine lv_dup hx hb dX3_barrelTold_82 rfl ?_
        refine lv_iconst (v := 4) hx hb dX3_barrelTold_83 (by decide) ?_
        refine lv_aload_n hx hb dX3_barrelTold_84 rfl (lv_at hl 1 rfl) ?_
        refine tc_get (v := .ref (E 4)) hx hb hts hinX3 hown hK (hW.1) (C := RX3) (T := TX3) (N := 15) rfl 4 (by decide) (hts (.fieldLink RX3 13 "TreadCranesModel" "at" "[I") (List.mem_of_getElem? (i := 1) rfl)) (fun _ h9 => h9) rfl dX3_barrelTold_85 ?_
        refine lv_iload_n hx hb dX3_barrelTold_88 rfl (lv_at hl 2 rfl) ?_
        refine tc_iald (f := x 4) hx hb hK (hW.lo ⟨by decide, by decide⟩) 2 rfl g1 dX3_barrelTold_89 ?_
        refine lv_bipush (v := (-2)) hx hb dX3_barrelTold_90 (by decide) ?_
        refine lv_icmp_ne (tgt := 99) hx hb dX3_barrelTold_92 (by decide) (fun c49 => ?_) (fun c49 => ?_)
        · have hF := tc_if hF c49
          refine lv_iconst (v := 0) hx hb dX3_barrelTold_99 (by decide) ?_
          refine tc_iast hx hb hK et_q31 hS hq_q31 2 rfl (by decide) dX3_barrelTold_100 (fun H locs et_q31 z1 o1 hS => ?_)
          have hW := hW.kept2 (fun j9 hj9 => o1 _ (hn_q31 j9 hj9))
          refine lv_astore (lv' := [(4, .ref q31), (3, .int 1), (0, .ref (E 0)), (1, .int a1), (2, .int a2)]) hx hb dX3_barrelTold_101 hl (by decide) rfl (fun ls hl => ?_)
          refine lv_aload hx hb dX3_barrelTold_103 (lv_at hl 0 rfl) ?_
          refine lv_iload_n hx hb dX3_barrelTold_105 rfl (lv_at hl 4 rfl) ?_
          obtain ⟨g50, hF⟩ := tc_ob hF
          refine tc_iald hx hb hK et_q31 2 rfl g50 dX3_barrelTold_106 ?_
          have h91 := Option.some.inj hF
          refine W.widen (k := 1) (n := 5) (Nat.le_of_ble_eq_true rfl) (Nat.le_of_ble_eq_true rfl) ?_
          exact W.iret hx hb hr (fun t ht hW9 => ⟨⟨by rw [← h91], by rw [ht]; exact hW⟩, tc_F hS ht⟩) hS.2.2 dX3_barrelTold_107
        · have hF := tc_it hF c49
          refine lv_iconst (v := 1) hx hb dX3_barrelTold_95 (by decide) ?_
          refine lv_goto (tgt := 100) hx hb dX3_barrelTold_96 (by decide) ?_
          refine tc_iast hx hb hK et_q31 hS hq_q31 2 rfl (by decide) dX3_barrelTold_100 (fun H locs et_q31 z1 o1 hS => ?_)
          have hW := hW.kept2 (fun j9 hj9 => o1 _ (hn_q31 j9 hj9))
          refine lv_astore (lv' := [(4, .ref q31), (3, .int 1), (0, .ref (E 0)), (1, .int a1), (2, .int a2)]) hx hb dX3_barrelTold_101 hl (by decide) rfl (fun ls hl => ?_)
          refine lv_aload hx hb dX3_barrelTold_103 (lv_at hl 0 rfl) ?_
          refine lv_iload_n hx hb dX3_barrelTold_105 rfl (lv_at hl 4 rfl) ?_
          obtain ⟨g51, hF⟩ := tc_ob hF
          refine tc_iald hx hb hK et_q31 2 rfl g51 dX3_barrelTold_106 ?_
          have h91 := Option.some.inj hF
          refine W.widen (k := 1) (n := 5) (Nat.le_of_ble_eq_true rfl) (Nat.le_of_ble_eq_true rfl) ?_
          exact W.iret hx hb hr (fun t ht hW9 => ⟨⟨by rw [← h91], by rw [ht]; exact hW⟩, tc_F hS ht⟩) hS.2.2 dX3_barrelTold_107
      · have hF := tc_if hF c46
        refine lv_aload_n hx hb dX3_barrelTold_50 rfl (lv_at hl 1 rfl) ?_
        refine lv_aload_n hx hb dX3_barrelTold_51 rfl (lv_at hl 1 rfl) ?_
        refine tc_get (v := .ref (E 4)) hx hb hts hinX3 hown hK (hW.1) (C := RX3) (T := TX3) (N := 15) rfl 4 (by decide) (hts (.fieldLink RX3 13 "TreadCranesModel" "at" "[I") (List.mem_of_getElem? (i := 1) rfl)) (fun _ h9 => h9) rfl dX3_barrelTold_52 ?_
        refine lv_iload_n hx hb dX3_barrelTold_55 rfl (lv_at hl 2 rfl) ?_
        refine tc_iald (f := x 4) hx hb hK (hW.lo ⟨by decide, by decide⟩) 2 rfl g1 dX3_barrelTold_56 ?_
        obtain ⟨r52, h53, hF⟩ := tc_bi hF
        refine tc_cr (W.runV (As := [.int (x 4 a1.toNatClampNeg)]) (rest := [.int 2, .ref q31, .ref q31]) ⟨hx, hb, hml, hown, hts⟩ (mt_X3_high l D cU cO cI A E x (x 4 a1.toNatClampNeg) r52 h53) (cwV 1 hts gX3_barrelTold_X3_high rfl rfl rfl (by decide +kernel) ⟨Nat.le_of_ble_eq_true rfl, Nat.le_of_ble_eq_true rfl⟩) ⟨fun a U g mk q => ⟨q.1, q.2.1, va_K.moved (Vm.Alike.refl U.vm) q.2.2⟩, tc_rcv (hW.1) hK rfl, fun U hU hW9 => ⟨rfl, by rw [hU]; exact hW, va_K.moved hW9.alike hK⟩⟩ rfl rfl hl.1 rfl (lv_room (Nat.le_of_ble_eq_true rfl)) dX3_barrelTold_57 ⟨Nat.le_of_ble_eq_true rfl, Nat.le_of_ble_eq_true rfl⟩) ?_
        refine lv_iconst (v := 1) hx hb dX3_barrelTold_60 (by decide) ?_
        refine lv_isub hx hb dX3_barrelTold_61 ?_
        refine lv_aload_n hx hb dX3_barrelTold_62 rfl (lv_at hl 1 rfl) ?_
        refine tc_get (v := .ref (E 5)) hx hb hts hinX3 hown hK (hW.1) (C := RX3) (T := TX3) (N := 15) rfl 5 (by decide) (hts (.fieldLink RX3 16 "TreadCranesModel" "below" "[I") (List.mem_of_getElem? (i := 4) rfl)) (fun _ h9 => h9) rfl dX3_barrelTold_63 ?_
        refine lv_iload_n hx hb dX3_barrelTold_66 rfl (lv_at hl 2 rfl) ?_
        refine tc_iald (f := x 5) hx hb hK (hW.lo ⟨by decide, by decide⟩) 2 rfl g1 dX3_barrelTold_67 ?_
        refine lv_isub hx hb dX3_barrelTold_68 ?_
        refine lv_goto (tgt := 73) hx hb dX3_barrelTold_69 (by decide) ?_
        refine tc_iast hx hb hK et_q31 hS hq_q31 2 rfl (by decide) dX3_barrelTold_73 (fun H locs et_q31 z1 o1 hS => ?_)
        have hW := hW.kept2 (fun j9 hj9 => o1 _ (hn_q31 j9 hj9))
        refine lv_dup hx hb dX3_barrelTold_74 rfl ?_
        refine lv_iconst (v := 3) hx hb dX3_barrelTold_75 (by decide) ?_
        refine lv_aload_n hx hb dX3_barrelTold_76 rfl (lv_at hl 1 rfl) ?_
        refine lv_iload_n hx hb dX3_barrelTold_77 rfl (lv_at hl 2 rfl) ?_
        obtain ⟨r54, h55, hF⟩ := tc_bi hF
        refine tc_cr (W.runV (As := [.int a1]) (rest := [.int 3, .ref q31, .ref q31]) ⟨hx, hb, hml, hown, hts⟩ (mt_X3_craneOf l D cU cO cI A E x a1 r54 h55) (cwV 1 hts gX3_barrelTold_X3_craneOf rfl rfl rfl (by decide +kernel) ⟨Nat.le_of_ble_eq_true rfl, Nat.le_of_ble_eq_true rfl⟩) ⟨fun a U g mk q => ⟨q.1, q.2.1, va_K.moved (Vm.Alike.refl U.vm) q.2.2⟩, tc_rcv (hW.1) hK rfl, fun U hU hW9 => ⟨rfl, by rw [hU]; exact hW, va_K.moved hW9.alike hK⟩⟩ rfl rfl hl.1 rfl (lv_room (Nat.le_of_ble_eq_true rfl)) dX3_barrelTold_78 ⟨Nat.le_of_ble_eq_true rfl, Nat.le_of_ble_eq_true rfl⟩) ?_
        refine tc_iast hx hb hK et_q31 hS hq_q31 2 rfl (by decide) dX3_barrelTold_81 (fun H locs et_q31 z1 o1 hS => ?_)
        have hW := hW.kept2 (fun j9 hj9 => o1 _ (hn_q31 j9 hj9))
        refine lv_dup hx hb dX3_barrelTold_82 rfl ?_
        refine lv_iconst (v := 4) hx hb dX3_barrelTold_83 (by decide) ?_
        refine lv_aload_n hx hb dX3_barrelTold_84 rfl (lv_at hl 1 rfl) ?_
        refine tc_get (v := .ref (E 4)) hx hb hts hinX3 hown hK (hW.1) (C := RX3) (T := TX3) (N := 15) rfl 4 (by decide) (hts (.fieldLink RX3 13 "TreadCranesModel" "at" "[I") (List.mem_of_getElem? (i := 1) rfl)) (fun _ h9 => h9) rfl dX3_barrelTold_85 ?_
        refine lv_iload_n hx hb dX3_barrelTold_88 rfl (lv_at hl 2 rfl) ?_
        refine tc_iald (f := x 4) hx hb hK (hW.lo ⟨by decide, by decide⟩) 2 rfl g1 dX3_barrelTold_89 ?_
        refine lv_bipush (v := (-2)) hx hb dX3_barrelTold_90 (by decide) ?_
        refine lv_icmp_ne (tgt := 99) hx hb dX3_barrelTold_92 (by decide) (fun c56 => ?_) (fun c56 => ?_)
        · have hF := tc_if hF c56
          refine lv_iconst (v := 0) hx hb dX3_barrelTold_99 (by decide) ?_
          refine tc_iast hx hb hK et_q31 hS hq_q31 2 rfl (by decide) dX3_barrelTold_100 (fun H locs et_q31 z1 o1 hS => ?_)
          have hW := hW.kept2 (fun j9 hj9 => o1 _ (hn_q31 j9 hj9))
          refine lv_astore (lv' := [(4, .ref q31), (3, .int 1), (0, .ref (E 0)), (1, .int a1), (2, .int a2)]) hx hb dX3_barrelTold_101 hl (by decide) rfl (fun ls hl => ?_)
          refine lv_aload hx hb dX3_barrelTold_103 (lv_at hl 0 rfl) ?_
          refine lv_iload_n hx hb dX3_barrelTold_105 rfl (lv_at hl 4 rfl) ?_
          obtain ⟨g57, hF⟩ := tc_ob hF
          refine tc_iald hx hb hK et_q31 2 rfl g57 dX3_barrelTold_106 ?_
          have h91 := Option.some.inj hF
          refine W.widen (k := 1) (n := 5) (Nat.le_of_ble_eq_true rfl) (Nat.le_of_ble_eq_true rfl) ?_
          exact W.iret hx hb hr (fun t ht hW9 => ⟨⟨by rw [← h91], by rw [ht]; exact hW⟩, tc_F hS ht⟩) hS.2.2 dX3_barrelTold_107
        · have hF := tc_it hF c56
          refine lv_iconst (v := 1) hx hb dX3_barrelTold_95 (by decide) ?_
          refine lv_goto (tgt := 100) hx hb dX3_barrelTold_96 (by decide) ?_
          refine tc_iast hx hb hK et_q31 hS hq_q31 2 rfl (by decide) dX3_barrelTold_100 (fun H locs et_q31 z1 o1 hS => ?_)
          have hW := hW.kept2 (fun j9 hj9 => o1 _ (hn_q31 j9 hj9))
          refine lv_astore (lv' := [(4, .ref q31), (3, .int 1), (0, .ref (E 0)), (1, .int a1), (2, .int a2)]) hx hb dX3_barrelTold_101 hl (by decide) rfl (fun ls hl => ?_)
          refine lv_aload hx hb dX3_barrelTold_103 (lv_at hl 0 rfl) ?_
          refine lv_iload_n hx hb dX3_barrelTold_105 rfl (lv_at hl 4 rfl) ?_
          obtain ⟨g58, hF⟩ := tc_ob hF
          refine tc_iald hx hb hK et_q31 2 rfl g58 dX3_barrelTold_106 ?_
          have h91 := Option.some.inj hF
          refine W.widen (k := 1) (n := 5) (Nat.le_of_ble_eq_true rfl) (Nat.le_of_ble_eq_true rfl) ?_
          exact W.iret hx hb hr (fun t ht hW9 => ⟨⟨by rw [← h91], by rw [ht]; exact hW⟩, tc_F hS ht⟩) hS.2.2 dX3_barrelTold_107

def f_X3_craneTold (x : tc_Y) (a1 : Int32) (a2 : Int32) : Option (Int32) := (if ¬ a1 < 0 ∧ a1.toNatClampNeg < 5 then Option.bind (f_X3_strength x a1) (fun r3 => (if ¬ a2 < 0 ∧ a2.toNatClampNeg < 9 then some ((upd (upd (upd (upd (upd (upd (upd (upd (upd (fun _ : Nat => (0 : Int32)) (0 : Int32).toNatClampNeg (x 7 a1.toNatClampNeg)) (1 : Int32).toNatClampNeg (x 8 a1.toNatClampNeg)) (2 : Int32).toNatClampNeg (x 9 a1.toNatClampNeg)) (3 : Int32).toNatClampNeg (x 10 a1.toNatClampNeg)) (4 : Int32).toNatClampNeg (x 11 a1.toNatClampNeg)) (5 : Int32).toNatClampNeg (x 12 a1.toNatClampNeg)) (6 : Int32).toNatClampNeg (x 13 a1.toNatClampNeg)) (7 : Int32).toNatClampNeg (x 14 a1.toNatClampNeg)) (8 : Int32).toNatClampNeg r3) a2.toNatClampNeg) else none)) else none)
set_option maxHeartbeats 4000000 in
set_option maxRecDepth 100000 in
theorem mt_X3_craneTold (l : Launch) (D : va_G) (cU cO cI : ClassId) (A : Nat → Prop) (E : Nat → Nat) (x : tc_Y) (a1 : Int32) (a2 : Int32) (r : Int32) (hF : f_X3_craneTold x a1 a2 = some r) : Met l yX3_craneTold wsX3_craneTold ({ frames := 1, cells := 1, slots := 9, locals := 21 } : Room) (va_Pc [.ref (E 0), .int a1, .int a2] (fun U => tc_WM D cI A E x U.heap ∧ tc_KM D cU cO cI A U)) (tc_Qw (some (.int r)) (tc_WM D cI A E x) A) 1 9 A := by
  refine Met.ofW (cc := cX3_craneTold) (maxL := 4) (ret := (some .int)) (by decide) rfl ?_
  intro p e s m args below meth c s₁ B hml hv
  obtain ⟨rfl, hW, hKM⟩ := hv
  have hx := B.exec
  have hb := B.bytes
  have hr := B.returns
  have hts := atoms_spec (ws := wsX3_craneTold) B.pre
  have hown : s.vm.findClass RX3 = some m.cls := findClass_of_methodNamed B.named
  have hlocks := B.notSynchronized
  have hK := hKM.1
  have hA := hKM.2
  have hinX3 : ∀ w ∈ wsX30, w ∈ wsX3_craneTold := fun w9 h9 => List.mem_cons_of_mem _ (List.mem_append_right _ h9)
  have hS : va_S A s.heap s.heap [] := va_S.rf
  have hl := lv_entry ([.ref (E 0), .int a1, .int a2]) (n := 4) (Nat.le_of_ble_eq_true rfl)
  rw [lg_entry_eq]
  generalize (lg_sl ([.ref (E 0), .int a1, .int a2]) ++ List.replicate (4 - (lg_sl ([.ref (E 0), .int a1, .int a2])).length) Slot.unset).toArray = ls at hl ⊢
  have hl : lv_has ls 4 [(0, .ref (E 0)), (1, .int a1), (2, .int a2)] := hl
  refine lv_bipush (v := 9) hx hb dX3_craneTold_0 (by decide) ?_
  refine tc_newI (N := 9) hx hb (hts (.arrayClass .int) (List.mem_of_getElem? (i := 1) rfl)) hS hK hA (by decide) (by decide) (by decide) (Nat.le_of_ble_eq_true rfl) (Nat.le_of_ble_eq_true rfl) dX3_craneTold_2 2 rfl (fun q1 H hq9 hq_q1 et_q1 z1 o1 hS => ?_)
  have hn_q1 := hW.ne hq9
  have hW := hW.grown o1
  refine lv_dup hx hb dX3_craneTold_4 rfl ?_
  refine lv_iconst (v := 0) hx hb dX3_craneTold_5 (by decide) ?_
  refine lv_aload_n hx hb dX3_craneTold_6 rfl (lv_at hl 0 rfl) ?_
  refine tc_get (v := .ref (E 7)) hx hb hts hinX3 hown hK (hW.1) (C := RX3) (T := TX3) (N := 15) rfl 7 (by decide) (hts (.fieldLink RX3 19 "TreadCranesModel" "post" "[I") (List.mem_of_getElem? (i := 2) rfl)) (fun _ h9 => h9) rfl dX3_craneTold_7 ?_
  refine lv_iload_n hx hb dX3_craneTold_10 rfl (lv_at hl 1 rfl) ?_
  obtain ⟨g2, hF⟩ := tc_ob hF
  refine tc_iald (f := x 7) hx hb hK (hW.hi ⟨by decide, by decide⟩) 2 rfl g2 dX3_craneTold_11 ?_
  refine tc_iast hx hb hK et_q1 hS hq_q1 2 rfl (by decide) dX3_craneTold_12 (fun H locs et_q1 z1 o1 hS => ?_)
  have hW := hW.kept2 (fun j9 hj9 => o1 _ (hn_q1 j9 hj9))
  refine lv_dup hx hb dX3_craneTold_13 rfl ?_
  refine lv_iconst (v := 1) hx hb dX3_craneTold_14 (by decide) ?_
  refine lv_aload_n hx hb dX3_craneTold_15 rfl (lv_at hl 0 rfl) ?_
  refine tc_get (v := .ref (E 8)) hx hb hts hinX3 hown hK (hW.1) (C := RX3) (T := TX3) (N := 15) rfl 8 (by decide) (hts (.fieldLink RX3 22 "TreadCranesModel" "reach" "[I") (List.mem_of_getElem? (i := 3) rfl)) (fun _ h9 => h9) rfl dX3_craneTold_16 ?_
  refine lv_iload_n hx hb dX3_craneTold_19 rfl (lv_at hl 1 rfl) ?_
  refine tc_iald (f := x 8) hx hb hK (hW.hi ⟨by decide, by decide⟩) 2 rfl g2 dX3_craneTold_20 ?_
  refine tc_iast hx hb hK et_q1 hS hq_q1 2 rfl (by decide) dX3_craneTold_21 (fun H locs et_q1 z1 o1 hS => ?_)
  have hW := hW.kept2 (fun j9 hj9 => o1 _ (hn_q1 j9 hj9))
  refine lv_dup hx hb dX3_craneTold_22 rfl ?_
  refine lv_iconst (v := 2) hx hb dX3_craneTold_23 (by decide) ?_
  refine lv_aload_n hx hb dX3_craneTold_24 rfl (lv_at hl 0 rfl) ?_
  refine tc_get (v := .ref (E 9)) hx hb hts hinX3 hown hK (hW.1) (C := RX3) (T := TX3) (N := 15) rfl 9 (by decide) (hts (.fieldLink RX3 25 "TreadCranesModel" "drum" "[I") (List.mem_of_getElem? (i := 4) rfl)) (fun _ h9 => h9) rfl dX3_craneTold_25 ?_
  refine lv_iload_n hx hb dX3_craneTold_28 rfl (lv_at hl 1 rfl) ?_
  refine tc_iald (f := x 9) hx hb hK (hW.hi ⟨by decide, by decide⟩) 2 rfl g2 dX3_craneTold_29 ?_
  refine tc_iast hx hb hK et_q1 hS hq_q1 2 rfl (by decide) dX3_craneTold_30 (fun H locs et_q1 z1 o1 hS => ?_)
  have hW := hW.kept2 (fun j9 hj9 => o1 _ (hn_q1 j9 hj9))
  refine lv_dup hx hb dX3_craneTold_31 rfl ?_
  refine lv_iconst (v := 3) hx hb dX3_craneTold_32 (by decide) ?_
  refine lv_aload_n hx hb dX3_craneTold_33 rfl (lv_at hl 0 rfl) ?_
  refine tc_get (v := .ref (E 10)) hx hb hts hinX3 hown hK (hW.1) (C := RX3) (T := TX3) (N := 15) rfl 10 (by decide) (hts (.fieldLink RX3 28 "TreadCranesModel" "walkers" "[I") (List.mem_of_getElem? (i := 5) rfl)) (fun _ h9 => h9) rfl dX3_craneTold_34 ?_
  refine lv_iload_n hx hb dX3_craneTold_37 rfl (lv_at hl 1 rfl) ?_
  refine tc_iald (f := x 10) hx hb hK (hW.hi ⟨by decide, by decide⟩) 2 rfl g2 dX3_craneTold_38 ?_
  refine tc_iast hx hb hK et_q1 hS hq_q1 2 rfl (by decide) dX3_craneTold_39 (fun H locs et_q1 z1 o1 hS => ?_)
  have hW := hW.kept2 (fun j9 hj9 => o1 _ (hn_q1 j9 hj9))
  refine lv_dup hx hb dX3_craneTold_40 rfl ?_
  refine lv_iconst (v := 4) hx hb dX3_craneTold_41 (by decide) ?_
  refine lv_aload_n hx hb dX3_craneTold_42 rfl (lv_at hl 0 rfl) ?_
  refine tc_get (v := .ref (E 11)) hx hb hts hinX3 hown hK (hW.1) (C := RX3) (T := TX3) (N := 15) rfl 11 (by decide) (hts (.fieldLink RX3 31 "TreadCranesModel" "worn" "[I") (List.mem_of_getElem? (i := 6) rfl)) (fun _ h9 => h9) rfl dX3_craneTold_43 ?_
  refine lv_iload_n hx hb dX3_craneTold_46 rfl (lv_at hl 1 rfl) ?_
  refine tc_iald (f := x 11) hx hb hK (hW.hi ⟨by decide, by decide⟩) 2 rfl g2 dX3_craneTold_47 ?_
  refine tc_iast hx hb hK et_q1 hS hq_q1 2 rfl (by decide) dX3_craneTold_48 (fun H locs et_q1 z1 o1 hS => ?_)
  have hW := hW.kept2 (fun j9 hj9 => o1 _ (hn_q1 j9 hj9))
  refine lv_dup hx hb dX3_craneTold_49 rfl ?_
  refine lv_iconst (v := 5) hx hb dX3_craneTold_50 (by decide) ?_
  refine lv_aload_n hx hb dX3_craneTold_51 rfl (lv_at hl 0 rfl) ?_
  refine tc_get (v := .ref (E 12)) hx hb hts hinX3 hown hK (hW.1) (C := RX3) (T := TX3) (N := 15) rfl 12 (by decide) (hts (.fieldLink RX3 34 "TreadCranesModel" "hook" "[I") (List.mem_of_getElem? (i := 7) rfl)) (fun _ h9 => h9) rfl dX3_craneTold_52 ?_
  refine lv_iload_n hx hb dX3_craneTold_55 rfl (lv_at hl 1 rfl) ?_
  refine tc_iald (f := x 12) hx hb hK (hW.hi ⟨by decide, by decide⟩) 2 rfl g2 dX3_craneTold_56 ?_
  refine tc_iast hx hb hK et_q1 hS hq_q1 2 rfl (by decide) dX3_craneTold_57 (fun H locs et_q1 z1 o1 hS => ?_)
  have hW := hW.kept2 (fun j9 hj9 => o1 _ (hn_q1 j9 hj9))
  refine lv_dup hx hb dX3_craneTold_58 rfl ?_
  refine lv_bipush (v := 6) hx hb dX3_craneTold_59 (by decide) ?_
  refine lv_aload_n hx hb dX3_craneTold_61 rfl (lv_at hl 0 rfl) ?_
  refine tc_get (v := .ref (E 13)) hx hb hts hinX3 hown hK (hW.1) (C := RX3) (T := TX3) (N := 15) rfl 13 (by decide) (hts (.fieldLink RX3 37 "TreadCranesModel" "height" "[I") (List.mem_of_getElem? (i := 8) rfl)) (fun _ h9 => h9) rfl dX3_craneTold_62 ?_
  refine lv_iload_n hx hb dX3_craneTold_65 rfl (lv_at hl 1 rfl) ?_
  refine tc_iald (f := x 13) hx hb hK (hW.hi ⟨by decide, by decide⟩) 2 rfl g2 dX3_craneTold_66 ?_
  refine tc_iast hx hb hK et_q1 hS hq_q1 2 rfl (by decide) dX3_craneTold_67 (fun H locs et_q1 z1 o1 hS => ?_)
  have hW := hW.kept2 (fun j9 hj9 => o1 _ (hn_q1 j9 hj9))
  refine lv_dup hx hb dX3_craneTold_68 rfl ?_
  refine lv_bipush (v := 7) hx hb dX3_craneTold_69 (by decide) ?_
  refine lv_aload_n hx hb dX3_craneTold_71 rfl (lv_at hl 0 rfl) ?_
  refine tc_get (v := .ref (E 14)) hx hb hts hinX3 hown hK (hW.1) (C := RX3) (T := TX3) (N := 15) rfl 14 (by decide) (hts (.fieldLink RX3 40 "TreadCranesModel" "load" "[I") (List.mem_of_getElem? (i := 9) rfl)) (fun _ h9 => h9) rfl dX3_craneTold_72 ?_
  refine lv_iload_n hx hb dX3_craneTold_75 rfl (lv_at hl 1 rfl) ?_
  refine tc_iald (f := x 14) hx hb hK (hW.hi ⟨by decide, by decide⟩) 2 rfl g2 dX3_craneTold_76 ?_
  refine tc_iast hx hb hK et_q1 hS hq_q1 2 rfl (by decide) dX3_craneTold_77 (fun H locs et_q1 z1 o1 hS => ?_)
  have hW := hW.kept2 (fun j9 hj9 => o1 _ (hn_q1 j9 hj9))
  refine lv_dup hx hb dX3_craneTold_78 rfl ?_
  refine lv_bipush (v := 8) hx hb dX3_craneTold_79 (by decide) ?_
  refine lv_aload_n hx hb dX3_craneTold_81 rfl (lv_at hl 0 rfl) ?_
  refine lv_iload_n hx hb dX3_craneTold_82 rfl (lv_at hl 1 rfl) ?_
  obtain ⟨r3, h4, hF⟩ := tc_bi hF
  refine tc_cr (W.runV (As := [.int a1]) (rest := [.int 8, .ref q1, .ref q1]) ⟨hx, hb, hml, hown, hts⟩ (mt_X3_strength l D cU cO cI A E x a1 r3 h4) (cwV 1 hts gX3_craneTold_X3_strength rfl rfl rfl (by decide +kernel) ⟨Nat.le_of_ble_eq_true rfl, Nat.le_of_ble_eq_true rfl⟩) ⟨fun a U g mk q => ⟨q.1, q.2.1, va_K.moved (Vm.Alike.refl U.vm) q.2.2⟩, tc_rcv (hW.1) hK rfl, fun U hU hW9 => ⟨rfl, by rw [hU]; exact hW, va_K.moved hW9.alike hK⟩⟩ rfl rfl hl.1 rfl (lv_room (Nat.le_of_ble_eq_true rfl)) dX3_craneTold_83 ⟨Nat.le_of_ble_eq_true rfl, Nat.le_of_ble_eq_true rfl⟩) ?_
  refine tc_iast hx hb hK et_q1 hS hq_q1 2 rfl (by decide) dX3_craneTold_86 (fun H locs et_q1 z1 o1 hS => ?_)
  have hW := hW.kept2 (fun j9 hj9 => o1 _ (hn_q1 j9 hj9))
  refine lv_astore_n (lv' := [(3, .ref q1), (0, .ref (E 0)), (1, .int a1), (2, .int a2)]) hx hb dX3_craneTold_87 rfl hl (by decide) rfl (fun ls hl => ?_)
  refine lv_aload_n hx hb dX3_craneTold_88 rfl (lv_at hl 0 rfl) ?_
  refine lv_iload_n hx hb dX3_craneTold_89 rfl (lv_at hl 3 rfl) ?_
  obtain ⟨g5, hF⟩ := tc_ob hF
  refine tc_iald hx hb hK et_q1 2 rfl g5 dX3_craneTold_90 ?_
  have h91 := Option.some.inj hF
  refine W.widen (k := 1) (n := 9) (Nat.le_of_ble_eq_true rfl) (Nat.le_of_ble_eq_true rfl) ?_
  exact W.iret hx hb hr (fun t ht hW9 => ⟨⟨by rw [← h91], by rw [ht]; exact hW⟩, tc_F hS ht⟩) hS.2.2 dX3_craneTold_91

def lp_X3_counted_7 : Nat → tc_Y → Int32 → Int32 → Int32 → Int32 → Option (Int32)
  | 0, _, _, _, _, _ => none
  | n_7 + 1, x, a1, w1, w2, w3 => (if (x 2 0) ≤ w3 then Option.bind (f_X3_highest x 0 15 (-1)) (fun r6 => (if ¬ a1 < 0 ∧ a1.toNatClampNeg < 7 then some ((upd (upd (upd (upd (upd (upd (upd (fun _ : Nat => (0 : Int32)) (0 : Int32).toNatClampNeg (x 1 0)) (1 : Int32).toNatClampNeg (x 2 0)) (2 : Int32).toNatClampNeg w1) (3 : Int32).toNatClampNeg w2) (4 : Int32).toNatClampNeg (((x 2 0) - w1) - w2)) (5 : Int32).toNatClampNeg (x 6 0)) (6 : Int32).toNatClampNeg r6) a1.toNatClampNeg) else none)) else (if ¬ w3 < 0 ∧ w3.toNatClampNeg < 40 then (if (x 4 w3.toNatClampNeg) < 0 then tc_let (w1 + 0) (fun v11 => (if (x 4 w3.toNatClampNeg) = (-1) then tc_let (w2 + 1) (fun v15 => tc_let (w3 + 1) (fun v16 => lp_X3_counted_7 n_7 x a1 v11 v15 v16)) else tc_let (w2 + 0) (fun v13 => tc_let (w3 + 1) (fun v14 => lp_X3_counted_7 n_7 x a1 v11 v13 v14)))) else tc_let (w1 + 1) (fun v17 => (if (x 4 w3.toNatClampNeg) = (-1) then tc_let (w2 + 1) (fun v21 => tc_let (w3 + 1) (fun v22 => lp_X3_counted_7 n_7 x a1 v17 v21 v22)) else tc_let (w2 + 0) (fun v19 => tc_let (w3 + 1) (fun v20 => lp_X3_counted_7 n_7 x a1 v17 v19 v20))))) else none))
def f_X3_counted (x : tc_Y) (a1 : Int32) : Option (Int32) := lp_X3_counted_7 100 x a1 0 0 0
set_option maxHeartbeats 4000000 in
set_option maxRecDepth 100000 in
theorem mt_X3_counted (l : Launch) (D : va_G) (cU cO cI : ClassId) (A : Nat → Prop) (E : Nat → Nat) (x : tc_Y) (a1 : Int32) (r : Int32) (hF : f_X3_counted x a1 = some r) : Met l yX3_counted wsX3_counted ({ frames := 2, cells := 1, slots := 7, locals := 48 } : Room) (va_Pc [.ref (E 0), .int a1] (fun U => tc_WM D cI A E x U.heap ∧ tc_KM D cU cO cI A U)) (tc_Qw (some (.int r)) (tc_WM D cI A E x) A) 1 7 A := by
  refine Met.ofW (cc := cX3_counted) (maxL := 5) (ret := (some .int)) (by decide) rfl ?_
  intro p e s m args below meth c s₁ B hml hv
  obtain ⟨rfl, hW, hKM⟩ := hv
  have hx := B.exec
  have hb := B.bytes
  have hr := B.returns
  have hts := atoms_spec (ws := wsX3_counted) B.pre
  have hown : s.vm.findClass RX3 = some m.cls := findClass_of_methodNamed B.named
  have hlocks := B.notSynchronized
  have hK := hKM.1
  have hA := hKM.2
  have hinX3 : ∀ w ∈ wsX30, w ∈ wsX3_counted := fun w9 h9 => List.mem_cons_of_mem _ (List.mem_append_right _ h9)
  have hS : va_S A s.heap s.heap [] := va_S.rf
  have hl := lv_entry ([.ref (E 0), .int a1]) (n := 5) (Nat.le_of_ble_eq_true rfl)
  rw [lg_entry_eq]
  generalize (lg_sl ([.ref (E 0), .int a1]) ++ List.replicate (5 - (lg_sl ([.ref (E 0), .int a1])).length) Slot.unset).toArray = ls at hl ⊢
  have hl : lv_has ls 5 [(0, .ref (E 0)), (1, .int a1)] := hl
  refine lv_iconst (v := 0) hx hb dX3_counted_0 (by decide) ?_
  refine lv_istore_n (lv' := [(2, .int 0), (0, .ref (E 0)), (1, .int a1)]) hx hb dX3_counted_1 rfl hl (by decide) rfl (fun ls hl => ?_)
  refine lv_iconst (v := 0) hx hb dX3_counted_2 (by decide) ?_
  refine lv_istore_n (lv' := [(3, .int 0), (2, .int 0), (0, .ref (E 0)), (1, .int a1)]) hx hb dX3_counted_3 rfl hl (by decide) rfl (fun ls hl => ?_)
  refine lv_iconst (v := 0) hx hb dX3_counted_4 (by decide) ?_
  refine lv_istore (lv' := [(4, .int 0), (3, .int 0), (2, .int 0), (0, .ref (E 0)), (1, .int a1)]) hx hb dX3_counted_5 hl (by decide) rfl (fun ls hl => ?_)
  refine tc_lp3 (fun n w1 w2 w3 => lp_X3_counted_7 n x a1 w1 w2 w3) (fun w1 w2 w3 => [(0, .ref (E 0)), (1, .int a1), (2, .int w1), (3, .int w2), (4, .int w3)]) 100 0 0 0 ?_ ?_ hF (lv_sub hl [3, 4, 2, 1, 0] rfl)
  · intro n_7 w1 w2 w3 ih_7 hF ls hl
    have hF : lp_X3_counted_7 (n_7 + 1) x a1 w1 w2 w3 = some r := hF
    rw [lp_X3_counted_7] at hF
    refine lv_iload hx hb dX3_counted_7 (lv_at hl 4 rfl) ?_
    refine lv_aload_n hx hb dX3_counted_9 rfl (lv_at hl 0 rfl) ?_
    refine tc_get (v := .int (x 2 0)) hx hb hts hinX3 hown hK (hW.1) (C := RX3) (T := TX3) (N := 15) rfl 2 (by decide) (hts (.fieldLink RX3 54 "TreadCranesModel" "barrels" "I") (List.mem_of_getElem? (i := 1) rfl)) (fun _ h9 => h9) rfl dX3_counted_10 ?_
    refine lv_icmp_ge (tgt := 59) hx hb dX3_counted_13 (by decide) (fun c4 => ?_) (fun c4 => ?_)
    · have hF := tc_it hF c4
      refine lv_bipush (v := 7) hx hb dX3_counted_59 (by decide) ?_
      refine tc_newI (N := 7) hx hb (hts (.arrayClass .int) (List.mem_of_getElem? (i := 3) rfl)) hS hK hA (by decide) (by decide) (by decide) (Nat.le_of_ble_eq_true rfl) (Nat.le_of_ble_eq_true rfl) dX3_counted_61 2 rfl (fun q5 H hq9 hq_q5 et_q5 z1 o1 hS => ?_)
      have hn_q5 := hW.ne hq9
      have hW := hW.grown o1
      refine lv_dup hx hb dX3_counted_63 rfl ?_
      refine lv_iconst (v := 0) hx hb dX3_counted_64 (by decide) ?_
      refine lv_aload_n hx hb dX3_counted_65 rfl (lv_at hl 0 rfl) ?_
      refine tc_get (v := .int (x 1 0)) hx hb hts hinX3 hown hK (hW.1) (C := RX3) (T := TX3) (N := 15) rfl 1 (by decide) (hts (.fieldLink RX3 97 "TreadCranesModel" "ticks" "I") (List.mem_of_getElem? (i := 4) rfl)) (fun _ h9 => h9) rfl dX3_counted_66 ?_
      refine tc_iast hx hb hK et_q5 hS hq_q5 2 rfl (by decide) dX3_counted_69 (fun H locs et_q5 z1 o1 hS => ?_)
      have hW := hW.kept2 (fun j9 hj9 => o1 _ (hn_q5 j9 hj9))
      refine lv_dup hx hb dX3_counted_70 rfl ?_
      refine lv_iconst (v := 1) hx hb dX3_counted_71 (by decide) ?_
      refine lv_aload_n hx hb dX3_counted_72 rfl (lv_at hl 0 rfl) ?_
      refine tc_get (v := .int (x 2 0)) hx hb hts hinX3 hown hK (hW.1) (C := RX3) (T := TX3) (N := 15) rfl 2 (by decide) (hts (.fieldLink RX3 54 "TreadCranesModel" "barrels" "I") (List.mem_of_getElem? (i := 1) rfl)) (fun _ h9 => h9) rfl dX3_counted_73 ?_
      refine tc_iast hx hb hK et_q5 hS hq_q5 2 rfl (by decide) dX3_counted_76 (fun H locs et_q5 z1 o1 hS => ?_)
      have hW := hW.kept2 (fun j9 hj9 => o1 _ (hn_q5 j9 hj9))
      refine lv_dup hx hb dX3_counted_77 rfl ?_
      refine lv_iconst (v := 2) hx hb dX3_counted_78 (by decide) ?_
      refine lv_iload_n hx hb dX3_counted_79 rfl (lv_at hl 2 rfl) ?_
      refine tc_iast hx hb hK et_q5 hS hq_q5 2 rfl (by decide) dX3_counted_80 (fun H locs et_q5 z1 o1 hS => ?_)
      have hW := hW.kept2 (fun j9 hj9 => o1 _ (hn_q5 j9 hj9))
      refine lv_dup hx hb dX3_counted_81 rfl ?_
      refine lv_iconst (v := 3) hx hb dX3_counted_82 (by decide) ?_
      refine lv_iload_n hx hb dX3_counted_83 rfl (lv_at hl 3 rfl) ?_
      refine tc_iast hx hb hK et_q5 hS hq_q5 2 rfl (by decide) dX3_counted_84 (fun H locs et_q5 z1 o1 hS => ?_)
      have hW := hW.kept2 (fun j9 hj9 => o1 _ (hn_q5 j9 hj9))
      refine lv_dup hx hb dX3_counted_85 rfl ?_
      refine lv_iconst (v := 4) hx hb dX3_counted_86 (by decide) ?_
      refine lv_aload_n hx hb dX3_counted_87 rfl (lv_at hl 0 rfl) ?_
      refine tc_get (v := .int (x 2 0)) hx hb hts hinX3 hown hK (hW.1) (C := RX3) (T := TX3) (N := 15) rfl 2 (by decide) (hts (.fieldLink RX3 54 "TreadCranesModel" "barrels" "I") (List.mem_of_getElem? (i := 1) rfl)) (fun _ h9 => h9) rfl dX3_counted_88 ?_
      refine lv_iload_n hx hb dX3_counted_91 rfl (lv_at hl 2 rfl) ?_
      refine lv_isub hx hb dX3_counted_92 ?_
      refine lv_iload_n hx hb dX3_counted_93 rfl (lv_at hl 3 rfl) ?_
      refine lv_isub hx hb dX3_counted_94 ?_
      refine tc_iast hx hb hK et_q5 hS hq_q5 2 rfl (by decide) dX3_counted_95 (fun H locs et_q5 z1 o1 hS => ?_)
      have hW := hW.kept2 (fun j9 hj9 => o1 _ (hn_q5 j9 hj9))
      refine lv_dup hx hb dX3_counted_96 rfl ?_
      refine lv_iconst (v := 5) hx hb dX3_counted_97 (by decide) ?_
      refine lv_aload_n hx hb dX3_counted_98 rfl (lv_at hl 0 rfl) ?_
      refine tc_get (v := .int (x 6 0)) hx hb hts hinX3 hown hK (hW.1) (C := RX3) (T := TX3) (N := 15) rfl 6 (by decide) (hts (.fieldLink RX3 51 "TreadCranesModel" "cranes" "I") (List.mem_of_getElem? (i := 5) rfl)) (fun _ h9 => h9) rfl dX3_counted_99 ?_
      refine tc_iast hx hb hK et_q5 hS hq_q5 2 rfl (by decide) dX3_counted_102 (fun H locs et_q5 z1 o1 hS => ?_)
      have hW := hW.kept2 (fun j9 hj9 => o1 _ (hn_q5 j9 hj9))
      refine lv_dup hx hb dX3_counted_103 rfl ?_
      refine lv_bipush (v := 6) hx hb dX3_counted_104 (by decide) ?_
      refine lv_aload_n hx hb dX3_counted_106 rfl (lv_at hl 0 rfl) ?_
      refine lv_iconst (v := 0) hx hb dX3_counted_107 (by decide) ?_
      refine lv_bipush (v := 15) hx hb dX3_counted_108 (by decide) ?_
      refine lv_iconst (v := (-1)) hx hb dX3_counted_110 (by decide) ?_
      obtain ⟨r6, h7, hF⟩ := tc_bi hF
      refine tc_cr (W.runV (As := [.int 0, .int 15, .int (-1)]) (rest := [.int 6, .ref q5, .ref q5]) ⟨hx, hb, hml, hown, hts⟩ (mt_X3_highest l D cU cO cI A E x 0 15 (-1) r6 h7) (cwV 3 hts gX3_counted_X3_highest rfl rfl rfl (by decide +kernel) ⟨Nat.le_of_ble_eq_true rfl, Nat.le_of_ble_eq_true rfl⟩) ⟨fun a U g mk q => ⟨q.1, q.2.1, va_K.moved (Vm.Alike.refl U.vm) q.2.2⟩, tc_rcv (hW.1) hK rfl, fun U hU hW9 => ⟨rfl, by rw [hU]; exact hW, va_K.moved hW9.alike hK⟩⟩ rfl rfl hl.1 rfl (lv_room (Nat.le_of_ble_eq_true rfl)) dX3_counted_111 ⟨Nat.le_of_ble_eq_true rfl, Nat.le_of_ble_eq_true rfl⟩) ?_
      refine tc_iast hx hb hK et_q5 hS hq_q5 2 rfl (by decide) dX3_counted_114 (fun H locs et_q5 z1 o1 hS => ?_)
      have hW := hW.kept2 (fun j9 hj9 => o1 _ (hn_q5 j9 hj9))
      refine lv_astore (lv' := [(4, .ref q5), (0, .ref (E 0)), (1, .int a1), (2, .int w1), (3, .int w2)]) hx hb dX3_counted_115 hl (by decide) rfl (fun ls hl => ?_)
      refine lv_aload hx hb dX3_counted_117 (lv_at hl 0 rfl) ?_
      refine lv_iload_n hx hb dX3_counted_119 rfl (lv_at hl 2 rfl) ?_
      obtain ⟨g8, hF⟩ := tc_ob hF
      refine tc_iald hx hb hK et_q5 2 rfl g8 dX3_counted_120 ?_
      have h91 := Option.some.inj hF
      refine W.widen (k := 1) (n := 7) (Nat.le_of_ble_eq_true rfl) (Nat.le_of_ble_eq_true rfl) ?_
      exact W.iret hx hb hr (fun t ht hW9 => ⟨⟨by rw [← h91], by rw [ht]; exact hW⟩, tc_F hS ht⟩) hS.2.2 dX3_counted_121
    · have hF := tc_if hF c4
      refine lv_iload_n hx hb dX3_counted_16 rfl (lv_at hl 2 rfl) ?_
      refine lv_aload_n hx hb dX3_counted_17 rfl (lv_at hl 0 rfl) ?_
      refine tc_get (v := .ref (E 4)) hx hb hts hinX3 hown hK (hW.1) (C := RX3) (T := TX3) (N := 15) rfl 4 (by decide) (hts (.fieldLink RX3 13 "TreadCranesModel" "at" "[I") (List.mem_of_getElem? (i := 2) rfl)) (fun _ h9 => h9) rfl dX3_counted_18 ?_
      refine lv_iload hx hb dX3_counted_21 (lv_at hl 4 rfl) ?_
      obtain ⟨g9, hF⟩ := tc_ob hF
      refine tc_iald (f := x 4) hx hb hK (hW.lo ⟨by decide, by decide⟩) 2 rfl g9 dX3_counted_23 ?_
      refine lv_if_lt (tgt := 31) hx hb dX3_counted_24 (by decide) (fun c10 => ?_) (fun c10 => ?_)
      · have hF := tc_it hF c10
        refine lv_iconst (v := 0) hx hb dX3_counted_31 (by decide) ?_
        refine lv_iadd hx hb dX3_counted_32 ?_
        refine lv_topi (fun v11 ev11 => ?_)
        have hF := tc_lt hF ev11
        refine lv_istore_n (lv' := [(2, .int v11), (0, .ref (E 0)), (1, .int a1), (3, .int w2), (4, .int w3)]) hx hb dX3_counted_33 rfl hl (by decide) rfl (fun ls hl => ?_)
        refine lv_iload_n hx hb dX3_counted_34 rfl (lv_at hl 3 rfl) ?_
        refine lv_aload_n hx hb dX3_counted_35 rfl (lv_at hl 1 rfl) ?_
        refine tc_get (v := .ref (E 4)) hx hb hts hinX3 hown hK (hW.1) (C := RX3) (T := TX3) (N := 15) rfl 4 (by decide) (hts (.fieldLink RX3 13 "TreadCranesModel" "at" "[I") (List.mem_of_getElem? (i := 2) rfl)) (fun _ h9 => h9) rfl dX3_counted_36 ?_
        refine lv_iload hx hb dX3_counted_39 (lv_at hl 4 rfl) ?_
        refine tc_iald (f := x 4) hx hb hK (hW.lo ⟨by decide, by decide⟩) 2 rfl g9 dX3_counted_41 ?_
        refine lv_iconst (v := (-1)) hx hb dX3_counted_42 (by decide) ?_
        refine lv_icmp_ne (tgt := 50) hx hb dX3_counted_43 (by decide) (fun c12 => ?_) (fun c12 => ?_)
        · have hF := tc_if hF c12
          refine lv_iconst (v := 0) hx hb dX3_counted_50 (by decide) ?_
          refine lv_iadd hx hb dX3_counted_51 ?_
          refine lv_topi (fun v13 ev13 => ?_)
          have hF := tc_lt hF ev13
          refine lv_istore_n (lv' := [(3, .int v13), (2, .int v11), (0, .ref (E 0)), (1, .int a1), (4, .int w3)]) hx hb dX3_counted_52 rfl hl (by decide) rfl (fun ls hl => ?_)
          obtain ⟨v14, ev14⟩ : ∃ z : Int32, z = w3 + 1 := ⟨_, rfl⟩
          have hF := tc_lt hF ev14
          refine lv_iinc (v := v14) (lv' := [(4, .int v14), (3, .int v13), (2, .int v11), (0, .ref (E 0)), (1, .int a1)]) hx hb dX3_counted_53 hl (k := 4) rfl (by rw [ev14]; rfl) (by decide) rfl (fun ls hl => ?_)
          refine lv_goto (tgt := 7) hx hb dX3_counted_56 (by decide) ?_
          exact ih_7 v11 v13 v14 hF _ (lv_sub hl [3, 4, 2, 1, 0] rfl)
        · have hF := tc_it hF c12
          refine lv_iconst (v := 1) hx hb dX3_counted_46 (by decide) ?_
          refine lv_goto (tgt := 51) hx hb dX3_counted_47 (by decide) ?_
          refine lv_iadd hx hb dX3_counted_51 ?_
          refine lv_topi (fun v15 ev15 => ?_)
          have hF := tc_lt hF ev15
          refine lv_istore_n (lv' := [(3, .int v15), (2, .int v11), (0, .ref (E 0)), (1, .int a1), (4, .int w3)]) hx hb dX3_counted_52 rfl hl (by decide) rfl (fun ls hl => ?_)
          obtain ⟨v16, ev16⟩ : ∃ z : Int32, z = w3 + 1 := ⟨_, rfl⟩
          have hF := tc_lt hF ev16
          refine lv_iinc (v := v16) (lv' := [(4, .int v16), (3, .int v15), (2, .int v11), (0, .ref (E 0)), (1, .int a1)]) hx hb dX3_counted_53 hl (k := 4) rfl (by rw [ev16]; rfl) (by decide) rfl (fun ls hl => ?_)
          refine lv_goto (tgt := 7) hx hb dX3_counted_56 (by decide) ?_
          exact ih_7 v11 v15 v16 hF _ (lv_sub hl [3, 4, 2, 1, 0] rfl)
      · have hF := tc_if hF c10
        refine lv_iconst (v := 1) hx hb dX3_counted_27 (by decide) ?_
        refine lv_goto (tgt := 32) hx hb dX3_counted_28 (by decide) ?_
        refine lv_iadd hx hb dX3_counted_32 ?_
        refine lv_topi (fun v17 ev17 => ?_)
        have hF := tc_lt hF ev17
        refine lv_istore_n (lv' := [(2, .int v17), (0, .ref (E 0)), (1, .int a1), (3, .int w2), (4, .int w3)]) hx hb dX3_counted_33 rfl hl (by decide) rfl (fun ls hl => ?_)
        refine lv_iload_n hx hb dX3_counted_34 rfl (lv_at hl 3 rfl) ?_
        refine lv_aload_n hx hb dX3_counted_35 rfl (lv_at hl 1 rfl) ?_
        refine tc_get (v := .ref (E 4)) hx hb hts hinX3 hown hK (hW.1) (C := RX3) (T := TX3) (N := 15) rfl 4 (by decide) (hts (.fieldLink RX3 13 "TreadCranesModel" "at" "[I") (List.mem_of_getElem? (i := 2) rfl)) (fun _ h9 => h9) rfl dX3_counted_36 ?_
        refine lv_iload hx hb dX3_counted_39 (lv_at hl 4 rfl) ?_
        refine tc_iald (f := x 4) hx hb hK (hW.lo ⟨by decide, by decide⟩) 2 rfl g9 dX3_counted_41 ?_
        refine lv_iconst (v := (-1)) hx hb dX3_counted_42 (by decide) ?_
        refine lv_icmp_ne (tgt := 50) hx hb dX3_counted_43 (by decide) (fun c18 => ?_) (fun c18 => ?_)
        · have hF := tc_if hF c18
          refine lv_iconst (v := 0) hx hb dX3_counted_50 (by decide) ?_
          refine lv_iadd hx hb dX3_counted_51 ?_
          refine lv_topi (fun v19 ev19 => ?_)
          have hF := tc_lt hF ev19
          refine lv_istore_n (lv' := [(3, .int v19), (2, .int v17), (0, .ref (E 0)), (1, .int a1), (4, .int w3)]) hx hb dX3_counted_52 rfl hl (by decide) rfl (fun ls hl => ?_)
          obtain ⟨v20, ev20⟩ : ∃ z : Int32, z = w3 + 1 := ⟨_, rfl⟩
          have hF := tc_lt hF ev20
          refine lv_iinc (v := v20) (lv' := [(4, .int v20), (3, .int v19), (2, .int v17), (0, .ref (E 0)), (1, .int a1)]) hx hb dX3_counted_53 hl (k := 4) rfl (by rw [ev20]; rfl) (by decide) rfl (fun ls hl => ?_)
          refine lv_goto (tgt := 7) hx hb dX3_counted_56 (by decide) ?_
          exact ih_7 v17 v19 v20 hF _ (lv_sub hl [3, 4, 2, 1, 0] rfl)
        · have hF := tc_it hF c18
          refine lv_iconst (v := 1) hx hb dX3_counted_46 (by decide) ?_
          refine lv_goto (tgt := 51) hx hb dX3_counted_47 (by decide) ?_
          refine lv_iadd hx hb dX3_counted_51 ?_
          refine lv_topi (fun v21 ev21 => ?_)
          have hF := tc_lt hF ev21
          refine lv_istore_n (lv' := [(3, .int v21), (2, .int v17), (0, .ref (E 0)), (1, .int a1), (4, .int w3)]) hx hb dX3_counted_52 rfl hl (by decide) rfl (fun ls hl => ?_)
          obtain ⟨v22, ev22⟩ : ∃ z : Int32, z = w3 + 1 := ⟨_, rfl⟩
          have hF := tc_lt hF ev22
          refine lv_iinc (v := v22) (lv' := [(4, .int v22), (3, .int v21), (2, .int v17), (0, .ref (E 0)), (1, .int a1)]) hx hb dX3_counted_53 hl (k := 4) rfl (by rw [ev22]; rfl) (by decide) rfl (fun ls hl => ?_)
          refine lv_goto (tgt := 7) hx hb dX3_counted_56 (by decide) ?_
          exact ih_7 v17 v21 v22 hF _ (lv_sub hl [3, 4, 2, 1, 0] rfl)
  · intro w1 w2 w3 h9
    have h9 : lp_X3_counted_7 0 x a1 w1 w2 w3 = some r := h9
    rw [lp_X3_counted_7] at h9
    cases h9

def f_X3_place (x : tc_Y) (a1 : Int32) (a2 : Int32) : Option (Int32 × tc_Y) := tc_let (tc_ym x 0 0 0) (fun x1 => Option.bind (f_X3_isPlace a1) (fun r2 => (if r2 = 0 then tc_b2 (f_X3_no x1 1) (fun r5 x6 => some (r5, x6)) else Option.bind (f_X3_isIn a2 0 3) (fun r8 => (if r8 = 0 then tc_b2 (f_X3_no x1 1) (fun r11 x12 => some (r11, x12)) else Option.bind (f_X3_placeTold x1 a1 a2) (fun r14 => some (r14, x1)))))))
set_option maxHeartbeats 4000000 in
set_option maxRecDepth 100000 in
theorem mt_X3_place (l : Launch) (D : va_G) (cU cO cI : ClassId) (A : Nat → Prop) (E : Nat → Nat) (x : tc_Y) (a1 : Int32) (a2 : Int32) (r : Int32) (z : tc_Y) (hF : f_X3_place x a1 a2 = some (r, z)) : Met l yX3_place wsX3_place ({ frames := 3, cells := 1, slots := 4, locals := 70 } : Room) (va_Pc [.ref (E 0), .int a1, .int a2] (fun U => tc_WM D cI A E x U.heap ∧ tc_KM D cU cO cI A U)) (tc_Qw (some (.int r)) (tc_WM D cI A E z) A) 1 4 A := by
  refine Met.ofW (cc := cX3_place) (maxL := 3) (ret := (some .int)) (by decide) rfl ?_
  intro p e s m args below meth c s₁ B hml hv
  obtain ⟨rfl, hW, hKM⟩ := hv
  have hx := B.exec
  have hb := B.bytes
  have hr := B.returns
  have hts := atoms_spec (ws := wsX3_place) B.pre
  have hown : s.vm.findClass RX3 = some m.cls := findClass_of_methodNamed B.named
  have hlocks := B.notSynchronized
  have hK := hKM.1
  have hA := hKM.2
  have hinX3 : ∀ w ∈ wsX30, w ∈ wsX3_place := fun w9 h9 => List.mem_cons_of_mem _ (List.mem_append_right _ h9)
  have hS : va_S A s.heap s.heap [] := va_S.rf
  have hl := lv_entry ([.ref (E 0), .int a1, .int a2]) (n := 3) (Nat.le_of_ble_eq_true rfl)
  rw [lg_entry_eq]
  generalize (lg_sl ([.ref (E 0), .int a1, .int a2]) ++ List.replicate (3 - (lg_sl ([.ref (E 0), .int a1, .int a2])).length) Slot.unset).toArray = ls at hl ⊢
  have hl : lv_has ls 3 [(0, .ref (E 0)), (1, .int a1), (2, .int a2)] := hl
  refine lv_aload_n hx hb dX3_place_0 rfl (lv_at hl 0 rfl) ?_
  refine lv_iconst (v := 0) hx hb dX3_place_1 (by decide) ?_
  refine tc_put (v := .int 0) (ty := .int) hx hb hts hinX3 tyX3 tyX3_ok nmX3 hown hK (hW.1) hS (hW.own (Or.inl rfl)) (C := RX3) (T := TX3) (N := 15) rfl 0 (by decide) (hts (.fieldLink RX3 43 "TreadCranesModel" "thrown" "I") (List.mem_of_getElem? (i := 1) rfl)) (fun _ h9 => h9) rfl (by decide +kernel) rfl rfl (Nat.le_of_ble_eq_true rfl) dX3_place_2 (fun H locs e1 z1 o1 hS => ?_)
  obtain ⟨x1, ex1⟩ : ∃ z : tc_Y, z = tc_ym x 0 0 0 := ⟨_, rfl⟩
  have hF := tc_lt hF ex1
  have hW : tc_WM D cI A E x1 H := by rw [ex1]; exact hW.sf (Or.inl rfl) (by rw [tc_m0]; exact e1) o1
  refine lv_iload_n hx hb dX3_place_5 rfl (lv_at hl 1 rfl) ?_
  obtain ⟨r2, h3, hF⟩ := tc_bi hF
  refine tc_cr (W.runS (As := [.int a1]) (rest := []) ⟨hx, hb, hml, hown, hts⟩ (mt_X3_isPlace l   a1 r2 h3) (va_cwS 1 hts gX3_place_X3_isPlace rfl rfl rfl (by decide +kernel) ⟨Nat.le_of_ble_eq_true rfl, Nat.le_of_ble_eq_true rfl⟩) ⟨fun a U g mk q => q, fun U hU hW9 => ⟨rfl, trivial⟩⟩ rfl rfl hl.1 rfl (lv_room (Nat.le_of_ble_eq_true rfl)) dX3_place_6 ⟨Nat.le_of_ble_eq_true rfl, Nat.le_of_ble_eq_true rfl⟩) ?_
  refine lv_if_eq (tgt := 30) hx hb dX3_place_9 (by decide) (fun c4 => ?_) (fun c4 => ?_)
  · have hF := tc_it hF c4
    refine lv_aload_n hx hb dX3_place_30 rfl (lv_at hl 0 rfl) ?_
    refine lv_iconst (v := 1) hx hb dX3_place_31 (by decide) ?_
    obtain ⟨r5, x6, h7, hF⟩ := tc_bi2 hF
    refine tc_cw (va_runV (As := [.int 1]) (rest := []) ⟨hx, hb, hml, hown, hts⟩ (mt_X3_no l D cU cO cI A E x1 1 r5 x6 h7) (cwV 1 hts gX3_place_X3_no rfl rfl rfl (by decide +kernel) ⟨Nat.le_of_ble_eq_true rfl, Nat.le_of_ble_eq_true rfl⟩) ⟨fun a U g mk q => ⟨q.1, q.2.1, q.2.2.call⟩, tc_rcv (hW.1) hK rfl, fun U hU hW9 => ⟨rfl, by rw [hU]; exact hW, hKM.go hS hU hW9⟩⟩ rfl rfl hl.1 rfl (lv_room (Nat.le_of_ble_eq_true rfl)) dX3_place_32 ⟨Nat.le_of_ble_eq_true rfl, Nat.le_of_ble_eq_true rfl⟩) hS (fun _ _ h => h) (fun _ h => h) (fun H locs hW z1 o1 hS => ?_)
    obtain ⟨h91, h92⟩ := tc_pr2 (Option.some.inj hF)
    refine W.widen (k := 1) (n := 4) (Nat.le_of_ble_eq_true rfl) (Nat.le_of_ble_eq_true rfl) ?_
    exact W.iret hx hb hr (fun t ht hW9 => ⟨⟨by rw [← h91], by rw [← h92, ht]; exact hW⟩, tc_F hS ht⟩) hS.2.2 dX3_place_35
  · have hF := tc_if hF c4
    refine lv_iload_n hx hb dX3_place_12 rfl (lv_at hl 2 rfl) ?_
    refine lv_iconst (v := 0) hx hb dX3_place_13 (by decide) ?_
    refine lv_iconst (v := 3) hx hb dX3_place_14 (by decide) ?_
    obtain ⟨r8, h9, hF⟩ := tc_bi hF
    refine tc_cr (W.runS (As := [.int a2, .int 0, .int 3]) (rest := []) ⟨hx, hb, hml, hown, hts⟩ (mt_X3_isIn l   a2 0 3 r8 h9) (va_cwS 3 hts gX3_place_X3_isIn rfl rfl rfl (by decide +kernel) ⟨Nat.le_of_ble_eq_true rfl, Nat.le_of_ble_eq_true rfl⟩) ⟨fun a U g mk q => q, fun U hU hW9 => ⟨rfl, trivial⟩⟩ rfl rfl hl.1 rfl (lv_room (Nat.le_of_ble_eq_true rfl)) dX3_place_15 ⟨Nat.le_of_ble_eq_true rfl, Nat.le_of_ble_eq_true rfl⟩) ?_
    refine lv_if_eq (tgt := 30) hx hb dX3_place_18 (by decide) (fun c10 => ?_) (fun c10 => ?_)
    · have hF := tc_it hF c10
      refine lv_aload_n hx hb dX3_place_30 rfl (lv_at hl 0 rfl) ?_
      refine lv_iconst (v := 1) hx hb dX3_place_31 (by decide) ?_
      obtain ⟨r11, x12, h13, hF⟩ := tc_bi2 hF
      refine tc_cw (va_runV (As := [.int 1]) (rest := []) ⟨hx, hb, hml, hown, hts⟩ (mt_X3_no l D cU cO cI A E x1 1 r11 x12 h13) (cwV 1 hts gX3_place_X3_no rfl rfl rfl (by decide +kernel) ⟨Nat.le_of_ble_eq_true rfl, Nat.le_of_ble_eq_true rfl⟩) ⟨fun a U g mk q => ⟨q.1, q.2.1, q.2.2.call⟩, tc_rcv (hW.1) hK rfl, fun U hU hW9 => ⟨rfl, by rw [hU]; exact hW, hKM.go hS hU hW9⟩⟩ rfl rfl hl.1 rfl (lv_room (Nat.le_of_ble_eq_true rfl)) dX3_place_32 ⟨Nat.le_of_ble_eq_true rfl, Nat.le_of_ble_eq_true rfl⟩) hS (fun _ _ h => h) (fun _ h => h) (fun H locs hW z1 o1 hS => ?_)
      obtain ⟨h91, h92⟩ := tc_pr2 (Option.some.inj hF)
      refine W.widen (k := 1) (n := 4) (Nat.le_of_ble_eq_true rfl) (Nat.le_of_ble_eq_true rfl) ?_
      exact W.iret hx hb hr (fun t ht hW9 => ⟨⟨by rw [← h91], by rw [← h92, ht]; exact hW⟩, tc_F hS ht⟩) hS.2.2 dX3_place_35
    · have hF := tc_if hF c10
      refine lv_aload_n hx hb dX3_place_21 rfl (lv_at hl 0 rfl) ?_
      refine lv_iload_n hx hb dX3_place_22 rfl (lv_at hl 1 rfl) ?_
      refine lv_iload_n hx hb dX3_place_23 rfl (lv_at hl 2 rfl) ?_
      obtain ⟨r14, h15, hF⟩ := tc_bi hF
      refine tc_cw (va_runV (As := [.int a1, .int a2]) (rest := []) ⟨hx, hb, hml, hown, hts⟩ (mt_X3_placeTold l D cU cO cI A E x1 a1 a2 r14 h15) (cwV 2 hts gX3_place_X3_placeTold rfl rfl rfl (by decide +kernel) ⟨Nat.le_of_ble_eq_true rfl, Nat.le_of_ble_eq_true rfl⟩) ⟨fun a U g mk q => ⟨q.1, q.2.1, q.2.2.call⟩, tc_rcv (hW.1) hK rfl, fun U hU hW9 => ⟨rfl, by rw [hU]; exact hW, hKM.go hS hU hW9⟩⟩ rfl rfl hl.1 rfl (lv_room (Nat.le_of_ble_eq_true rfl)) dX3_place_24 ⟨Nat.le_of_ble_eq_true rfl, Nat.le_of_ble_eq_true rfl⟩) hS (fun _ _ h => h) (fun _ h => h) (fun H locs hW z1 o1 hS => ?_)
      refine lv_goto (tgt := 35) hx hb dX3_place_27 (by decide) ?_
      obtain ⟨h91, h92⟩ := tc_pr2 (Option.some.inj hF)
      refine W.widen (k := 1) (n := 4) (Nat.le_of_ble_eq_true rfl) (Nat.le_of_ble_eq_true rfl) ?_
      exact W.iret hx hb hr (fun t ht hW9 => ⟨⟨by rw [← h91], by rw [← h92, ht]; exact hW⟩, tc_F hS ht⟩) hS.2.2 dX3_place_35

def f_X3_barrel (x : tc_Y) (a1 : Int32) (a2 : Int32) : Option (Int32 × tc_Y) := tc_let (tc_ym x 0 0 0) (fun x1 => Option.bind (f_X3_isIn a1 0 ((x1 2 0) - 1)) (fun r2 => (if r2 = 0 then tc_b2 (f_X3_no x1 1) (fun r5 x6 => some (r5, x6)) else Option.bind (f_X3_isIn a2 0 4) (fun r8 => (if r8 = 0 then tc_b2 (f_X3_no x1 1) (fun r11 x12 => some (r11, x12)) else Option.bind (f_X3_barrelTold x1 a1 a2) (fun r14 => some (r14, x1)))))))
set_option maxHeartbeats 4000000 in
set_option maxRecDepth 100000 in
theorem mt_X3_barrel (l : Launch) (D : va_G) (cU cO cI : ClassId) (A : Nat → Prop) (E : Nat → Nat) (x : tc_Y) (a1 : Int32) (a2 : Int32) (r : Int32) (z : tc_Y) (hF : f_X3_barrel x a1 a2 = some (r, z)) : Met l yX3_barrel wsX3_barrel ({ frames := 2, cells := 1, slots := 5, locals := 47 } : Room) (va_Pc [.ref (E 0), .int a1, .int a2] (fun U => tc_WM D cI A E x U.heap ∧ tc_KM D cU cO cI A U)) (tc_Qw (some (.int r)) (tc_WM D cI A E z) A) 1 5 A := by
  refine Met.ofW (cc := cX3_barrel) (maxL := 3) (ret := (some .int)) (by decide) rfl ?_
  intro p e s m args below meth c s₁ B hml hv
  obtain ⟨rfl, hW, hKM⟩ := hv
  have hx := B.exec
  have hb := B.bytes
  have hr := B.returns
  have hts := atoms_spec (ws := wsX3_barrel) B.pre
  have hown : s.vm.findClass RX3 = some m.cls := findClass_of_methodNamed B.named
  have hlocks := B.notSynchronized
  have hK := hKM.1
  have hA := hKM.2
  have hinX3 : ∀ w ∈ wsX30, w ∈ wsX3_barrel := fun w9 h9 => List.mem_cons_of_mem _ (List.mem_append_right _ h9)
  have hS : va_S A s.heap s.heap [] := va_S.rf
  have hl := lv_entry ([.ref (E 0), .int a1, .int a2]) (n := 3) (Nat.le_of_ble_eq_true rfl)
  rw [lg_entry_eq]
  generalize (lg_sl ([.ref (E 0), .int a1, .int a2]) ++ List.replicate (3 - (lg_sl ([.ref (E 0), .int a1, .int a2])).length) Slot.unset).toArray = ls at hl ⊢
  have hl : lv_has ls 3 [(0, .ref (E 0)), (1, .int a1), (2, .int a2)] := hl
  refine lv_aload_n hx hb dX3_barrel_0 rfl (lv_at hl 0 rfl) ?_
  refine lv_iconst (v := 0) hx hb dX3_barrel_1 (by decide) ?_
  refine tc_put (v := .int 0) (ty := .int) hx hb hts hinX3 tyX3 tyX3_ok nmX3 hown hK (hW.1) hS (hW.own (Or.inl rfl)) (C := RX3) (T := TX3) (N := 15) rfl 0 (by decide) (hts (.fieldLink RX3 43 "TreadCranesModel" "thrown" "I") (List.mem_of_getElem? (i := 1) rfl)) (fun _ h9 => h9) rfl (by decide +kernel) rfl rfl (Nat.le_of_ble_eq_true rfl) dX3_barrel_2 (fun H locs e1 z1 o1 hS => ?_)
  obtain ⟨x1, ex1⟩ : ∃ z : tc_Y, z = tc_ym x 0 0 0 := ⟨_, rfl⟩
  have hF := tc_lt hF ex1
  have hW : tc_WM D cI A E x1 H := by rw [ex1]; exact hW.sf (Or.inl rfl) (by rw [tc_m0]; exact e1) o1
  refine lv_iload_n hx hb dX3_barrel_5 rfl (lv_at hl 1 rfl) ?_
  refine lv_iconst (v := 0) hx hb dX3_barrel_6 (by decide) ?_
  refine lv_aload_n hx hb dX3_barrel_7 rfl (lv_at hl 0 rfl) ?_
  refine tc_get (v := .int (x1 2 0)) hx hb hts hinX3 hown hK (hW.1) (C := RX3) (T := TX3) (N := 15) rfl 2 (by decide) (hts (.fieldLink RX3 54 "TreadCranesModel" "barrels" "I") (List.mem_of_getElem? (i := 2) rfl)) (fun _ h9 => h9) rfl dX3_barrel_8 ?_
  refine lv_iconst (v := 1) hx hb dX3_barrel_11 (by decide) ?_
  refine lv_isub hx hb dX3_barrel_12 ?_
  obtain ⟨r2, h3, hF⟩ := tc_bi hF
  refine tc_cr (W.runS (As := [.int a1, .int 0, .int ((x1 2 0) - 1)]) (rest := []) ⟨hx, hb, hml, hown, hts⟩ (mt_X3_isIn l   a1 0 ((x1 2 0) - 1) r2 h3) (va_cwS 3 hts gX3_barrel_X3_isIn rfl rfl rfl (by decide +kernel) ⟨Nat.le_of_ble_eq_true rfl, Nat.le_of_ble_eq_true rfl⟩) ⟨fun a U g mk q => q, fun U hU hW9 => ⟨rfl, trivial⟩⟩ rfl rfl hl.1 rfl (lv_room (Nat.le_of_ble_eq_true rfl)) dX3_barrel_13 ⟨Nat.le_of_ble_eq_true rfl, Nat.le_of_ble_eq_true rfl⟩) ?_
  refine lv_if_eq (tgt := 37) hx hb dX3_barrel_16 (by decide) (fun c4 => ?_) (fun c4 => ?_)
  · have hF := tc_it hF c4
    refine lv_aload_n hx hb dX3_barrel_37 rfl (lv_at hl 0 rfl) ?_
    refine lv_iconst (v := 1) hx hb dX3_barrel_38 (by decide) ?_
    obtain ⟨r5, x6, h7, hF⟩ := tc_bi2 hF
    refine tc_cw (va_runV (As := [.int 1]) (rest := []) ⟨hx, hb, hml, hown, hts⟩ (mt_X3_no l D cU cO cI A E x1 1 r5 x6 h7) (cwV 1 hts gX3_barrel_X3_no rfl rfl rfl (by decide +kernel) ⟨Nat.le_of_ble_eq_true rfl, Nat.le_of_ble_eq_true rfl⟩) ⟨fun a U g mk q => ⟨q.1, q.2.1, q.2.2.call⟩, tc_rcv (hW.1) hK rfl, fun U hU hW9 => ⟨rfl, by rw [hU]; exact hW, hKM.go hS hU hW9⟩⟩ rfl rfl hl.1 rfl (lv_room (Nat.le_of_ble_eq_true rfl)) dX3_barrel_39 ⟨Nat.le_of_ble_eq_true rfl, Nat.le_of_ble_eq_true rfl⟩) hS (fun _ _ h => h) (fun _ h => h) (fun H locs hW z1 o1 hS => ?_)
    obtain ⟨h91, h92⟩ := tc_pr2 (Option.some.inj hF)
    refine W.widen (k := 1) (n := 5) (Nat.le_of_ble_eq_true rfl) (Nat.le_of_ble_eq_true rfl) ?_
    exact W.iret hx hb hr (fun t ht hW9 => ⟨⟨by rw [← h91], by rw [← h92, ht]; exact hW⟩, tc_F hS ht⟩) hS.2.2 dX3_barrel_42
  · have hF := tc_if hF c4
    refine lv_iload_n hx hb dX3_barrel_19 rfl (lv_at hl 2 rfl) ?_
    refine lv_iconst (v := 0) hx hb dX3_barrel_20 (by decide) ?_
    refine lv_iconst (v := 4) hx hb dX3_barrel_21 (by decide) ?_
    obtain ⟨r8, h9, hF⟩ := tc_bi hF
    refine tc_cr (W.runS (As := [.int a2, .int 0, .int 4]) (rest := []) ⟨hx, hb, hml, hown, hts⟩ (mt_X3_isIn l   a2 0 4 r8 h9) (va_cwS 3 hts gX3_barrel_X3_isIn rfl rfl rfl (by decide +kernel) ⟨Nat.le_of_ble_eq_true rfl, Nat.le_of_ble_eq_true rfl⟩) ⟨fun a U g mk q => q, fun U hU hW9 => ⟨rfl, trivial⟩⟩ rfl rfl hl.1 rfl (lv_room (Nat.le_of_ble_eq_true rfl)) dX3_barrel_22 ⟨Nat.le_of_ble_eq_true rfl, Nat.le_of_ble_eq_true rfl⟩) ?_
    refine lv_if_eq (tgt := 37) hx hb dX3_barrel_25 (by decide) (fun c10 => ?_) (fun c10 => ?_)
    · have hF := tc_it hF c10
      refine lv_aload_n hx hb dX3_barrel_37 rfl (lv_at hl 0 rfl) ?_
      refine lv_iconst (v := 1) hx hb dX3_barrel_38 (by decide) ?_
      obtain ⟨r11, x12, h13, hF⟩ := tc_bi2 hF
      refine tc_cw (va_runV (As := [.int 1]) (rest := []) ⟨hx, hb, hml, hown, hts⟩ (mt_X3_no l D cU cO cI A E x1 1 r11 x12 h13) (cwV 1 hts gX3_barrel_X3_no rfl rfl rfl (by decide +kernel) ⟨Nat.le_of_ble_eq_true rfl, Nat.le_of_ble_eq_true rfl⟩) ⟨fun a U g mk q => ⟨q.1, q.2.1, q.2.2.call⟩, tc_rcv (hW.1) hK rfl, fun U hU hW9 => ⟨rfl, by rw [hU]; exact hW, hKM.go hS hU hW9⟩⟩ rfl rfl hl.1 rfl (lv_room (Nat.le_of_ble_eq_true rfl)) dX3_barrel_39 ⟨Nat.le_of_ble_eq_true rfl, Nat.le_of_ble_eq_true rfl⟩) hS (fun _ _ h => h) (fun _ h => h) (fun H locs hW z1 o1 hS => ?_)
      obtain ⟨h91, h92⟩ := tc_pr2 (Option.some.inj hF)
      refine W.widen (k := 1) (n := 5) (Nat.le_of_ble_eq_true rfl) (Nat.le_of_ble_eq_true rfl) ?_
      exact W.iret hx hb hr (fun t ht hW9 => ⟨⟨by rw [← h91], by rw [← h92, ht]; exact hW⟩, tc_F hS ht⟩) hS.2.2 dX3_barrel_42
    · have hF := tc_if hF c10
      refine lv_aload_n hx hb dX3_barrel_28 rfl (lv_at hl 0 rfl) ?_
      refine lv_iload_n hx hb dX3_barrel_29 rfl (lv_at hl 1 rfl) ?_
      refine lv_iload_n hx hb dX3_barrel_30 rfl (lv_at hl 2 rfl) ?_
      obtain ⟨r14, h15, hF⟩ := tc_bi hF
      refine tc_cw (va_runV (As := [.int a1, .int a2]) (rest := []) ⟨hx, hb, hml, hown, hts⟩ (mt_X3_barrelTold l D cU cO cI A E x1 a1 a2 r14 h15) (cwV 2 hts gX3_barrel_X3_barrelTold rfl rfl rfl (by decide +kernel) ⟨Nat.le_of_ble_eq_true rfl, Nat.le_of_ble_eq_true rfl⟩) ⟨fun a U g mk q => ⟨q.1, q.2.1, q.2.2.call⟩, tc_rcv (hW.1) hK rfl, fun U hU hW9 => ⟨rfl, by rw [hU]; exact hW, hKM.go hS hU hW9⟩⟩ rfl rfl hl.1 rfl (lv_room (Nat.le_of_ble_eq_true rfl)) dX3_barrel_31 ⟨Nat.le_of_ble_eq_true rfl, Nat.le_of_ble_eq_true rfl⟩) hS (fun _ _ h => h) (fun _ h => h) (fun H locs hW z1 o1 hS => ?_)
      refine lv_goto (tgt := 42) hx hb dX3_barrel_34 (by decide) ?_
      obtain ⟨h91, h92⟩ := tc_pr2 (Option.some.inj hF)
      refine W.widen (k := 1) (n := 5) (Nat.le_of_ble_eq_true rfl) (Nat.le_of_ble_eq_true rfl) ?_
      exact W.iret hx hb hr (fun t ht hW9 => ⟨⟨by rw [← h91], by rw [← h92, ht]; exact hW⟩, tc_F hS ht⟩) hS.2.2 dX3_barrel_42

def f_X3_crane (x : tc_Y) (a1 : Int32) (a2 : Int32) : Option (Int32 × tc_Y) := tc_let (tc_ym x 0 0 0) (fun x1 => Option.bind (f_X3_isCrane x1 a1) (fun r2 => (if r2 = 0 then tc_b2 (f_X3_no x1 1) (fun r5 x6 => some (r5, x6)) else Option.bind (f_X3_isIn a2 0 8) (fun r8 => (if r8 = 0 then tc_b2 (f_X3_no x1 1) (fun r11 x12 => some (r11, x12)) else Option.bind (f_X3_craneTold x1 a1 a2) (fun r14 => some (r14, x1)))))))
set_option maxHeartbeats 4000000 in
set_option maxRecDepth 100000 in
theorem mt_X3_crane (l : Launch) (D : va_G) (cU cO cI : ClassId) (A : Nat → Prop) (E : Nat → Nat) (x : tc_Y) (a1 : Int32) (a2 : Int32) (r : Int32) (z : tc_Y) (hF : f_X3_crane x a1 a2 = some (r, z)) : Met l yX3_crane wsX3_crane ({ frames := 2, cells := 1, slots := 9, locals := 44 } : Room) (va_Pc [.ref (E 0), .int a1, .int a2] (fun U => tc_WM D cI A E x U.heap ∧ tc_KM D cU cO cI A U)) (tc_Qw (some (.int r)) (tc_WM D cI A E z) A) 1 9 A := by
  refine Met.ofW (cc := cX3_crane) (maxL := 3) (ret := (some .int)) (by decide) rfl ?_
  intro p e s m args below meth c s₁ B hml hv
  obtain ⟨rfl, hW, hKM⟩ := hv
  have hx := B.exec
  have hb := B.bytes
  have hr := B.returns
  have hts := atoms_spec (ws := wsX3_crane) B.pre
  have hown : s.vm.findClass RX3 = some m.cls := findClass_of_methodNamed B.named
  have hlocks := B.notSynchronized
  have hK := hKM.1
  have hA := hKM.2
  have hinX3 : ∀ w ∈ wsX30, w ∈ wsX3_crane := fun w9 h9 => List.mem_cons_of_mem _ (List.mem_append_right _ h9)
  have hS : va_S A s.heap s.heap [] := va_S.rf
  have hl := lv_entry ([.ref (E 0), .int a1, .int a2]) (n := 3) (Nat.le_of_ble_eq_true rfl)
  rw [lg_entry_eq]
  generalize (lg_sl ([.ref (E 0), .int a1, .int a2]) ++ List.replicate (3 - (lg_sl ([.ref (E 0), .int a1, .int a2])).length) Slot.unset).toArray = ls at hl ⊢
  have hl : lv_has ls 3 [(0, .ref (E 0)), (1, .int a1), (2, .int a2)] := hl
  refine lv_aload_n hx hb dX3_crane_0 rfl (lv_at hl 0 rfl) ?_
  refine lv_iconst (v := 0) hx hb dX3_crane_1 (by decide) ?_
  refine tc_put (v := .int 0) (ty := .int) hx hb hts hinX3 tyX3 tyX3_ok nmX3 hown hK (hW.1) hS (hW.own (Or.inl rfl)) (C := RX3) (T := TX3) (N := 15) rfl 0 (by decide) (hts (.fieldLink RX3 43 "TreadCranesModel" "thrown" "I") (List.mem_of_getElem? (i := 1) rfl)) (fun _ h9 => h9) rfl (by decide +kernel) rfl rfl (Nat.le_of_ble_eq_true rfl) dX3_crane_2 (fun H locs e1 z1 o1 hS => ?_)
  obtain ⟨x1, ex1⟩ : ∃ z : tc_Y, z = tc_ym x 0 0 0 := ⟨_, rfl⟩
  have hF := tc_lt hF ex1
  have hW : tc_WM D cI A E x1 H := by rw [ex1]; exact hW.sf (Or.inl rfl) (by rw [tc_m0]; exact e1) o1
  refine lv_aload_n hx hb dX3_crane_5 rfl (lv_at hl 0 rfl) ?_
  refine lv_iload_n hx hb dX3_crane_6 rfl (lv_at hl 1 rfl) ?_
  obtain ⟨r2, h3, hF⟩ := tc_bi hF
  refine tc_cr (W.runV (As := [.int a1]) (rest := []) ⟨hx, hb, hml, hown, hts⟩ (mt_X3_isCrane l D cU cO cI A E x1 a1 r2 h3) (cwV 1 hts gX3_crane_X3_isCrane rfl rfl rfl (by decide +kernel) ⟨Nat.le_of_ble_eq_true rfl, Nat.le_of_ble_eq_true rfl⟩) ⟨fun a U g mk q => ⟨q.1, q.2.1, va_K.moved (Vm.Alike.refl U.vm) q.2.2⟩, tc_rcv (hW.1) hK rfl, fun U hU hW9 => ⟨rfl, by rw [hU]; exact hW, va_K.moved hW9.alike hK⟩⟩ rfl rfl hl.1 rfl (lv_room (Nat.le_of_ble_eq_true rfl)) dX3_crane_7 ⟨Nat.le_of_ble_eq_true rfl, Nat.le_of_ble_eq_true rfl⟩) ?_
  refine lv_if_eq (tgt := 32) hx hb dX3_crane_10 (by decide) (fun c4 => ?_) (fun c4 => ?_)
  · have hF := tc_it hF c4
    refine lv_aload_n hx hb dX3_crane_32 rfl (lv_at hl 0 rfl) ?_
    refine lv_iconst (v := 1) hx hb dX3_crane_33 (by decide) ?_
    obtain ⟨r5, x6, h7, hF⟩ := tc_bi2 hF
    refine tc_cw (va_runV (As := [.int 1]) (rest := []) ⟨hx, hb, hml, hown, hts⟩ (mt_X3_no l D cU cO cI A E x1 1 r5 x6 h7) (cwV 1 hts gX3_crane_X3_no rfl rfl rfl (by decide +kernel) ⟨Nat.le_of_ble_eq_true rfl, Nat.le_of_ble_eq_true rfl⟩) ⟨fun a U g mk q => ⟨q.1, q.2.1, q.2.2.call⟩, tc_rcv (hW.1) hK rfl, fun U hU hW9 => ⟨rfl, by rw [hU]; exact hW, hKM.go hS hU hW9⟩⟩ rfl rfl hl.1 rfl (lv_room (Nat.le_of_ble_eq_true rfl)) dX3_crane_34 ⟨Nat.le_of_ble_eq_true rfl, Nat.le_of_ble_eq_true rfl⟩) hS (fun _ _ h => h) (fun _ h => h) (fun H locs hW z1 o1 hS => ?_)
    obtain ⟨h91, h92⟩ := tc_pr2 (Option.some.inj hF)
    refine W.widen (k := 1) (n := 9) (Nat.le_of_ble_eq_true rfl) (Nat.le_of_ble_eq_true rfl) ?_
    exact W.iret hx hb hr (fun t ht hW9 => ⟨⟨by rw [← h91], by rw [← h92, ht]; exact hW⟩, tc_F hS ht⟩) hS.2.2 dX3_crane_37
  · have hF := tc_if hF c4
    refine lv_iload_n hx hb dX3_crane_13 rfl (lv_at hl 2 rfl) ?_
    refine lv_iconst (v := 0) hx hb dX3_crane_14 (by decide) ?_
    refine lv_bipush (v := 8) hx hb dX3_crane_15 (by decide) ?_
    obtain ⟨r8, h9, hF⟩ := tc_bi hF
    refine tc_cr (W.runS (As := [.int a2, .int 0, .int 8]) (rest := []) ⟨hx, hb, hml, hown, hts⟩ (mt_X3_isIn l   a2 0 8 r8 h9) (va_cwS 3 hts gX3_crane_X3_isIn rfl rfl rfl (by decide +kernel) ⟨Nat.le_of_ble_eq_true rfl, Nat.le_of_ble_eq_true rfl⟩) ⟨fun a U g mk q => q, fun U hU hW9 => ⟨rfl, trivial⟩⟩ rfl rfl hl.1 rfl (lv_room (Nat.le_of_ble_eq_true rfl)) dX3_crane_17 ⟨Nat.le_of_ble_eq_true rfl, Nat.le_of_ble_eq_true rfl⟩) ?_
    refine lv_if_eq (tgt := 32) hx hb dX3_crane_20 (by decide) (fun c10 => ?_) (fun c10 => ?_)
    · have hF := tc_it hF c10
      refine lv_aload_n hx hb dX3_crane_32 rfl (lv_at hl 0 rfl) ?_
      refine lv_iconst (v := 1) hx hb dX3_crane_33 (by decide) ?_
      obtain ⟨r11, x12, h13, hF⟩ := tc_bi2 hF
      refine tc_cw (va_runV (As := [.int 1]) (rest := []) ⟨hx, hb, hml, hown, hts⟩ (mt_X3_no l D cU cO cI A E x1 1 r11 x12 h13) (cwV 1 hts gX3_crane_X3_no rfl rfl rfl (by decide +kernel) ⟨Nat.le_of_ble_eq_true rfl, Nat.le_of_ble_eq_true rfl⟩) ⟨fun a U g mk q => ⟨q.1, q.2.1, q.2.2.call⟩, tc_rcv (hW.1) hK rfl, fun U hU hW9 => ⟨rfl, by rw [hU]; exact hW, hKM.go hS hU hW9⟩⟩ rfl rfl hl.1 rfl (lv_room (Nat.le_of_ble_eq_true rfl)) dX3_crane_34 ⟨Nat.le_of_ble_eq_true rfl, Nat.le_of_ble_eq_true rfl⟩) hS (fun _ _ h => h) (fun _ h => h) (fun H locs hW z1 o1 hS => ?_)
      obtain ⟨h91, h92⟩ := tc_pr2 (Option.some.inj hF)
      refine W.widen (k := 1) (n := 9) (Nat.le_of_ble_eq_true rfl) (Nat.le_of_ble_eq_true rfl) ?_
      exact W.iret hx hb hr (fun t ht hW9 => ⟨⟨by rw [← h91], by rw [← h92, ht]; exact hW⟩, tc_F hS ht⟩) hS.2.2 dX3_crane_37
    · have hF := tc_if hF c10
      refine lv_aload_n hx hb dX3_crane_23 rfl (lv_at hl 0 rfl) ?_
      refine lv_iload_n hx hb dX3_crane_24 rfl (lv_at hl 1 rfl) ?_
      refine lv_iload_n hx hb dX3_crane_25 rfl (lv_at hl 2 rfl) ?_
      obtain ⟨r14, h15, hF⟩ := tc_bi hF
      refine tc_cw (va_runV (As := [.int a1, .int a2]) (rest := []) ⟨hx, hb, hml, hown, hts⟩ (mt_X3_craneTold l D cU cO cI A E x1 a1 a2 r14 h15) (cwV 2 hts gX3_crane_X3_craneTold rfl rfl rfl (by decide +kernel) ⟨Nat.le_of_ble_eq_true rfl, Nat.le_of_ble_eq_true rfl⟩) ⟨fun a U g mk q => ⟨q.1, q.2.1, q.2.2.call⟩, tc_rcv (hW.1) hK rfl, fun U hU hW9 => ⟨rfl, by rw [hU]; exact hW, hKM.go hS hU hW9⟩⟩ rfl rfl hl.1 rfl (lv_room (Nat.le_of_ble_eq_true rfl)) dX3_crane_26 ⟨Nat.le_of_ble_eq_true rfl, Nat.le_of_ble_eq_true rfl⟩) hS (fun _ _ h => h) (fun _ h => h) (fun H locs hW z1 o1 hS => ?_)
      refine lv_goto (tgt := 37) hx hb dX3_crane_29 (by decide) ?_
      obtain ⟨h91, h92⟩ := tc_pr2 (Option.some.inj hF)
      refine W.widen (k := 1) (n := 9) (Nat.le_of_ble_eq_true rfl) (Nat.le_of_ble_eq_true rfl) ?_
      exact W.iret hx hb hr (fun t ht hW9 => ⟨⟨by rw [← h91], by rw [← h92, ht]; exact hW⟩, tc_F hS ht⟩) hS.2.2 dX3_crane_37

def f_X3_count (x : tc_Y) (a1 : Int32) : Option (Int32 × tc_Y) := tc_let (tc_ym x 0 0 0) (fun x1 => Option.bind (f_X3_isIn a1 0 6) (fun r2 => (if r2 = 0 then tc_b2 (f_X3_no x1 1) (fun r5 x6 => some (r5, x6)) else Option.bind (f_X3_counted x1 a1) (fun r8 => some (r8, x1)))))
set_option maxHeartbeats 4000000 in
set_option maxRecDepth 100000 in
theorem mt_X3_count (l : Launch) (D : va_G) (cU cO cI : ClassId) (A : Nat → Prop) (E : Nat → Nat) (x : tc_Y) (a1 : Int32) (r : Int32) (z : tc_Y) (hF : f_X3_count x a1 = some (r, z)) : Met l yX3_count wsX3_count ({ frames := 3, cells := 1, slots := 7, locals := 72 } : Room) (va_Pc [.ref (E 0), .int a1] (fun U => tc_WM D cI A E x U.heap ∧ tc_KM D cU cO cI A U)) (tc_Qw (some (.int r)) (tc_WM D cI A E z) A) 1 7 A := by
  refine Met.ofW (cc := cX3_count) (maxL := 2) (ret := (some .int)) (by decide) rfl ?_
  intro p e s m args below meth c s₁ B hml hv
  obtain ⟨rfl, hW, hKM⟩ := hv
  have hx := B.exec
  have hb := B.bytes
  have hr := B.returns
  have hts := atoms_spec (ws := wsX3_count) B.pre
  have hown : s.vm.findClass RX3 = some m.cls := findClass_of_methodNamed B.named
  have hlocks := B.notSynchronized
  have hK := hKM.1
  have hA := hKM.2
  have hinX3 : ∀ w ∈ wsX30, w ∈ wsX3_count := fun w9 h9 => List.mem_cons_of_mem _ (List.mem_append_right _ h9)
  have hS : va_S A s.heap s.heap [] := va_S.rf
  have hl := lv_entry ([.ref (E 0), .int a1]) (n := 2) (Nat.le_of_ble_eq_true rfl)
  rw [lg_entry_eq]
  generalize (lg_sl ([.ref (E 0), .int a1]) ++ List.replicate (2 - (lg_sl ([.ref (E 0), .int a1])).length) Slot.unset).toArray = ls at hl ⊢
  have hl : lv_has ls 2 [(0, .ref (E 0)), (1, .int a1)] := hl
  refine lv_aload_n hx hb dX3_count_0 rfl (lv_at hl 0 rfl) ?_
  refine lv_iconst (v := 0) hx hb dX3_count_1 (by decide) ?_
  refine tc_put (v := .int 0) (ty := .int) hx hb hts hinX3 tyX3 tyX3_ok nmX3 hown hK (hW.1) hS (hW.own (Or.inl rfl)) (C := RX3) (T := TX3) (N := 15) rfl 0 (by decide) (hts (.fieldLink RX3 43 "TreadCranesModel" "thrown" "I") (List.mem_of_getElem? (i := 1) rfl)) (fun _ h9 => h9) rfl (by decide +kernel) rfl rfl (Nat.le_of_ble_eq_true rfl) dX3_count_2 (fun H locs e1 z1 o1 hS => ?_)
  obtain ⟨x1, ex1⟩ : ∃ z : tc_Y, z = tc_ym x 0 0 0 := ⟨_, rfl⟩
  have hF := tc_lt hF ex1
  have hW : tc_WM D cI A E x1 H := by rw [ex1]; exact hW.sf (Or.inl rfl) (by rw [tc_m0]; exact e1) o1
  refine lv_iload_n hx hb dX3_count_5 rfl (lv_at hl 1 rfl) ?_
  refine lv_iconst (v := 0) hx hb dX3_count_6 (by decide) ?_
  refine lv_bipush (v := 6) hx hb dX3_count_7 (by decide) ?_
  obtain ⟨r2, h3, hF⟩ := tc_bi hF
  refine tc_cr (W.runS (As := [.int a1, .int 0, .int 6]) (rest := []) ⟨hx, hb, hml, hown, hts⟩ (mt_X3_isIn l   a1 0 6 r2 h3) (va_cwS 3 hts gX3_count_X3_isIn rfl rfl rfl (by decide +kernel) ⟨Nat.le_of_ble_eq_true rfl, Nat.le_of_ble_eq_true rfl⟩) ⟨fun a U g mk q => q, fun U hU hW9 => ⟨rfl, trivial⟩⟩ rfl rfl hl.1 rfl (lv_room (Nat.le_of_ble_eq_true rfl)) dX3_count_9 ⟨Nat.le_of_ble_eq_true rfl, Nat.le_of_ble_eq_true rfl⟩) ?_
  refine lv_if_eq (tgt := 23) hx hb dX3_count_12 (by decide) (fun c4 => ?_) (fun c4 => ?_)
  · have hF := tc_it hF c4
    refine lv_aload_n hx hb dX3_count_23 rfl (lv_at hl 0 rfl) ?_
    refine lv_iconst (v := 1) hx hb dX3_count_24 (by decide) ?_
    obtain ⟨r5, x6, h7, hF⟩ := tc_bi2 hF
    refine tc_cw (va_runV (As := [.int 1]) (rest := []) ⟨hx, hb, hml, hown, hts⟩ (mt_X3_no l D cU cO cI A E x1 1 r5 x6 h7) (cwV 1 hts gX3_count_X3_no rfl rfl rfl (by decide +kernel) ⟨Nat.le_of_ble_eq_true rfl, Nat.le_of_ble_eq_true rfl⟩) ⟨fun a U g mk q => ⟨q.1, q.2.1, q.2.2.call⟩, tc_rcv (hW.1) hK rfl, fun U hU hW9 => ⟨rfl, by rw [hU]; exact hW, hKM.go hS hU hW9⟩⟩ rfl rfl hl.1 rfl (lv_room (Nat.le_of_ble_eq_true rfl)) dX3_count_25 ⟨Nat.le_of_ble_eq_true rfl, Nat.le_of_ble_eq_true rfl⟩) hS (fun _ _ h => h) (fun _ h => h) (fun H locs hW z1 o1 hS => ?_)
    obtain ⟨h91, h92⟩ := tc_pr2 (Option.some.inj hF)
    refine W.widen (k := 1) (n := 7) (Nat.le_of_ble_eq_true rfl) (Nat.le_of_ble_eq_true rfl) ?_
    exact W.iret hx hb hr (fun t ht hW9 => ⟨⟨by rw [← h91], by rw [← h92, ht]; exact hW⟩, tc_F hS ht⟩) hS.2.2 dX3_count_28
  · have hF := tc_if hF c4
    refine lv_aload_n hx hb dX3_count_15 rfl (lv_at hl 0 rfl) ?_
    refine lv_iload_n hx hb dX3_count_16 rfl (lv_at hl 1 rfl) ?_
    obtain ⟨r8, h9, hF⟩ := tc_bi hF
    refine tc_cw (va_runV (As := [.int a1]) (rest := []) ⟨hx, hb, hml, hown, hts⟩ (mt_X3_counted l D cU cO cI A E x1 a1 r8 h9) (cwV 1 hts gX3_count_X3_counted rfl rfl rfl (by decide +kernel) ⟨Nat.le_of_ble_eq_true rfl, Nat.le_of_ble_eq_true rfl⟩) ⟨fun a U g mk q => ⟨q.1, q.2.1, q.2.2.call⟩, tc_rcv (hW.1) hK rfl, fun U hU hW9 => ⟨rfl, by rw [hU]; exact hW, hKM.go hS hU hW9⟩⟩ rfl rfl hl.1 rfl (lv_room (Nat.le_of_ble_eq_true rfl)) dX3_count_17 ⟨Nat.le_of_ble_eq_true rfl, Nat.le_of_ble_eq_true rfl⟩) hS (fun _ _ h => h) (fun _ h => h) (fun H locs hW z1 o1 hS => ?_)
    refine lv_goto (tgt := 28) hx hb dX3_count_20 (by decide) ?_
    obtain ⟨h91, h92⟩ := tc_pr2 (Option.some.inj hF)
    refine W.widen (k := 1) (n := 7) (Nat.le_of_ble_eq_true rfl) (Nat.le_of_ble_eq_true rfl) ?_
    exact W.iret hx hb hr (fun t ht hW9 => ⟨⟨by rw [← h91], by rw [← h92, ht]; exact hW⟩, tc_F hS ht⟩) hS.2.2 dX3_count_28
