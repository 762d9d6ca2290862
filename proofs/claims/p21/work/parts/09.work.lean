def f_X2_dropLoad (x : tc_X) (a1 : Nat) : Option (tc_X) := (if a1 < tc_nc x then (tc_oc (x.2.1 2 a1) (tc_let (tc_sr x 2 a1 none) (fun x4 => tc_let (tc_si x4 24 a1 99) (fun x6 => some x6))) (fun j3 => (if j3 < tc_nb x then tc_let (tc_si x 14 j3 (-1)) (fun x9 => tc_let (tc_si x9 15 j3 1) (fun x12 => tc_let (tc_sr x12 2 a1 none) (fun x15 => tc_let (tc_si x15 24 a1 99) (fun x18 => some x18)))) else none))) else none)
set_option maxHeartbeats 4000000 in
set_option maxRecDepth 100000 in
theorem mt_X2_dropLoad (l : Launch) (D : va_G) (cU cO cI : ClassId) (e0 : Nat) (A : Nat → Prop) (E : Nat → Nat) (x : tc_X) (a1 : Nat) (z : tc_X) (hF : f_X2_dropLoad x a1 = some z) : Met l yX2_dropLoad wsX2_dropLoad ({ frames := 0, cells := 0, slots := 0, locals := 0 } : Room) (va_Pc [.ref (E (46 + a1))] (fun U => tc_WC D cU cO e0 A E x U.heap ∧ tc_KX D cU cO cI e0 A U)) (tc_Qw none (tc_WC D cU cO e0 A E z) A) 0 0 A := by
  refine Met.ofW (cc := cX2_dropLoad) (maxL := 2) (ret := none) (by decide) rfl ?_
  intro p e s m args below meth c s₁ B hml hv
  obtain ⟨rfl, hW, hKX⟩ := hv
  have hx := B.exec
  have hb := B.bytes
  have hr := B.returns
  have hts := atoms_spec (ws := wsX2_dropLoad) B.pre
  have hown : s.vm.findClass RX2 = some m.cls := findClass_of_methodNamed B.named
  have hlocks := B.notSynchronized
  have hKC := hKX.1
  have hK := hKC.1
  have hA := hKX.2.1
  have hinX0 : ∀ w ∈ wsX00, w ∈ wsX2_dropLoad := fun w9 h9 => List.mem_cons_of_mem _ (List.mem_append_right _ h9)
  have hinX1 : ∀ w ∈ wsX10, w ∈ wsX2_dropLoad := fun w9 h9 => List.mem_cons_of_mem _ (List.mem_append_left _ (List.mem_append_right _ h9))
  have hS : va_S A s.heap s.heap [] := va_S.rf
  have hl := lv_entry ([.ref (E (46 + a1))]) (n := 2) (Nat.le_of_ble_eq_true rfl)
  rw [lg_entry_eq]
  generalize (lg_sl ([.ref (E (46 + a1))]) ++ List.replicate (2 - (lg_sl ([.ref (E (46 + a1))])).length) Slot.unset).toArray = ls at hl ⊢
  have hl : lv_has ls 2 [(0, .ref (E (46 + a1)))] := hl
  refine lv_aload_n hx hb dX2_dropLoad_0 rfl (lv_at hl 0 rfl) ?_
  obtain ⟨g1, hF⟩ := tc_ob hF
  refine tc_get (v := va_rf (tc_ad E 6 (x.2.1 2 a1))) hx hb hts hinX1 hown hK (hW.c g1) (C := RX1) (T := TX1) (N := 8) rfl 7 (by decide) (hts (.fieldLink RX2 130 "TreadCranes$Crane" "load" "LTreadCranes$Barrel;") (List.mem_of_getElem? (i := 1) rfl)) (fun _ h9 => h9) rfl dX2_dropLoad_1 ?_
  refine tc_opt (fun o2 => ?_) (fun j3 o2 => ?_)
  · have hF := tc_on hF o2
    refine lv_astore_nN (lv' := [(1, .null), (0, .ref (E (46 + a1)))]) hx hb dX2_dropLoad_4 rfl hl (by decide) rfl (fun ls hl => ?_)
    refine lv_aload_nN hx hb dX2_dropLoad_5 rfl (lv_at hl 0 rfl) ?_
    refine lv_ifnullN (tgt := 19) hx hb dX2_dropLoad_6 (by decide) ?_
    refine lv_aload_n hx hb dX2_dropLoad_19 rfl (lv_at hl 1 rfl) ?_
    refine lv_null hx hb dX2_dropLoad_20 ?_
    refine tc_put (v := .null) (ty := .object "TreadCranes$Barrel") hx hb hts hinX1 tyX1 tyX1_ok nmX1 hown hK (hW.c g1) hS (hW.own (tc_lv.c g1)) (C := RX1) (T := TX1) (N := 8) rfl 7 (by decide) (hts (.fieldLink RX2 130 "TreadCranes$Crane" "load" "LTreadCranes$Barrel;") (List.mem_of_getElem? (i := 1) rfl)) (fun _ h9 => h9) rfl (by decide +kernel) rfl rfl (Nat.le_of_ble_eq_true rfl) dX2_dropLoad_21 (fun H locs e1 z1 o1 hS => ?_)
    obtain ⟨x4, ex4⟩ : ∃ z : tc_X, z = tc_sr x 2 a1 none := ⟨_, rfl⟩
    have hF := tc_lt hF ex4
    have hW : tc_WC D cU cO e0 A E x4 H := by rw [ex4]; exact hW.sCr g1 (by simp only [tc_cC, tc_sr_eq, tc_sr_1]; exact e1) o1
    have g5 : a1 < tc_nc x4 := by rw [ex4]; exact g1
    refine lv_aload_n hx hb dX2_dropLoad_24 rfl (lv_at hl 1 rfl) ?_
    refine lv_bipush (v := 99) hx hb dX2_dropLoad_25 (by decide) ?_
    refine tc_put (v := .int 99) (ty := .int) hx hb hts hinX1 tyX1 tyX1_ok nmX1 hown hK (hW.c g5) hS (hW.own (tc_lv.c g5)) (C := RX1) (T := TX1) (N := 8) rfl 4 (by decide) (hts (.fieldLink RX2 96 "TreadCranes$Crane" "worn" "I") (List.mem_of_getElem? (i := 4) rfl)) (fun _ h9 => h9) rfl (by decide +kernel) rfl rfl (Nat.le_of_ble_eq_true rfl) dX2_dropLoad_27 (fun H locs e1 z1 o1 hS => ?_)
    obtain ⟨x6, ex6⟩ : ∃ z : tc_X, z = tc_si x4 24 a1 99 := ⟨_, rfl⟩
    have hF := tc_lt hF ex6
    have hW : tc_WC D cU cO e0 A E x6 H := by rw [ex6]; exact hW.sC g5 (by decide) (by decide) (by rw [tc_e24]; exact e1) o1
    have g7 : a1 < tc_nc x6 := by rw [ex6]; exact g5
    have h91 := Option.some.inj hF
    refine W.widen (k := 0) (n := 0) (Nat.le_of_ble_eq_true rfl) (Nat.le_of_ble_eq_true rfl) ?_
    exact W.vret hx hb hr (fun t ht hW9 => ⟨⟨rfl, by rw [← h91, ht]; exact hW⟩, tc_F hS ht⟩) hS.2.2 dX2_dropLoad_30
  · have hF := tc_os hF o2
    refine lv_astore_n (lv' := [(1, .ref (E (6 + j3))), (0, .ref (E (46 + a1)))]) hx hb dX2_dropLoad_4 rfl hl (by decide) rfl (fun ls hl => ?_)
    refine lv_aload_n hx hb dX2_dropLoad_5 rfl (lv_at hl 0 rfl) ?_
    refine lv_ifnull hx hb dX2_dropLoad_6 ?_
    refine lv_aload_n hx hb dX2_dropLoad_9 rfl (lv_at hl 0 rfl) ?_
    refine lv_iconst (v := (-1)) hx hb dX2_dropLoad_10 (by decide) ?_
    obtain ⟨g8, hF⟩ := tc_ob hF
    refine tc_put (v := .int (-1)) (ty := .int) hx hb hts hinX0 tyX0 tyX0_ok nmX0 hown hK (hW.b g8) hS (hW.own (tc_lv.b g8)) (C := RX0) (T := TX0) (N := 7) rfl 5 (by decide) (hts (.fieldLink RX2 158 "TreadCranes$Barrel" "crane" "I") (List.mem_of_getElem? (i := 2) rfl)) (fun _ h9 => h9) rfl (by decide +kernel) rfl rfl (Nat.le_of_ble_eq_true rfl) dX2_dropLoad_11 (fun H locs e1 z1 o1 hS => ?_)
    obtain ⟨x9, ex9⟩ : ∃ z : tc_X, z = tc_si x 14 j3 (-1) := ⟨_, rfl⟩
    have hF := tc_lt hF ex9
    have hW : tc_WC D cU cO e0 A E x9 H := by rw [ex9]; exact hW.sB g8 (by decide) (by decide) (by rw [tc_e14]; exact e1) o1
    have g10 : a1 < tc_nc x9 := by rw [ex9]; exact g1
    have g11 : j3 < tc_nb x9 := by rw [ex9]; exact g8
    refine lv_aload_n hx hb dX2_dropLoad_14 rfl (lv_at hl 0 rfl) ?_
    refine lv_iconst (v := 1) hx hb dX2_dropLoad_15 (by decide) ?_
    refine tc_put (v := .int 1) (ty := .boolean) hx hb hts hinX0 tyX0 tyX0_ok nmX0 hown hK (hW.b g11) hS (hW.own (tc_lv.b g11)) (C := RX0) (T := TX0) (N := 7) rfl 6 (by decide) (hts (.fieldLink RX2 196 "TreadCranes$Barrel" "broken" "Z") (List.mem_of_getElem? (i := 3) rfl)) (fun _ h9 => h9) rfl (by decide +kernel) rfl rfl (Nat.le_of_ble_eq_true rfl) dX2_dropLoad_16 (fun H locs e1 z1 o1 hS => ?_)
    obtain ⟨x12, ex12⟩ : ∃ z : tc_X, z = tc_si x9 15 j3 1 := ⟨_, rfl⟩
    have hF := tc_lt hF ex12
    have hW : tc_WC D cU cO e0 A E x12 H := by rw [ex12]; exact hW.sB g11 (by decide) (by decide) (by rw [tc_e15]; exact e1) o1
    have g13 : a1 < tc_nc x12 := by rw [ex12]; exact g10
    have g14 : j3 < tc_nb x12 := by rw [ex12]; exact g11
    refine lv_aload_n hx hb dX2_dropLoad_19 rfl (lv_at hl 1 rfl) ?_
    refine lv_null hx hb dX2_dropLoad_20 ?_
    refine tc_put (v := .null) (ty := .object "TreadCranes$Barrel") hx hb hts hinX1 tyX1 tyX1_ok nmX1 hown hK (hW.c g13) hS (hW.own (tc_lv.c g13)) (C := RX1) (T := TX1) (N := 8) rfl 7 (by decide) (hts (.fieldLink RX2 130 "TreadCranes$Crane" "load" "LTreadCranes$Barrel;") (List.mem_of_getElem? (i := 1) rfl)) (fun _ h9 => h9) rfl (by decide +kernel) rfl rfl (Nat.le_of_ble_eq_true rfl) dX2_dropLoad_21 (fun H locs e1 z1 o1 hS => ?_)
    obtain ⟨x15, ex15⟩ : ∃ z : tc_X, z = tc_sr x12 2 a1 none := ⟨_, rfl⟩
    have hF := tc_lt hF ex15
    have hW : tc_WC D cU cO e0 A E x15 H := by rw [ex15]; exact hW.sCr g13 (by simp only [tc_cC, tc_sr_eq, tc_sr_1]; exact e1) o1
    have g16 : a1 < tc_nc x15 := by rw [ex15]; exact g13
    have g17 : j3 < tc_nb x15 := by rw [ex15]; exact g14
    refine lv_aload_n hx hb dX2_dropLoad_24 rfl (lv_at hl 1 rfl) ?_
    refine lv_bipush (v := 99) hx hb dX2_dropLoad_25 (by decide) ?_
    refine tc_put (v := .int 99) (ty := .int) hx hb hts hinX1 tyX1 tyX1_ok nmX1 hown hK (hW.c g16) hS (hW.own (tc_lv.c g16)) (C := RX1) (T := TX1) (N := 8) rfl 4 (by decide) (hts (.fieldLink RX2 96 "TreadCranes$Crane" "worn" "I") (List.mem_of_getElem? (i := 4) rfl)) (fun _ h9 => h9) rfl (by decide +kernel) rfl rfl (Nat.le_of_ble_eq_true rfl) dX2_dropLoad_27 (fun H locs e1 z1 o1 hS => ?_)
    obtain ⟨x18, ex18⟩ : ∃ z : tc_X, z = tc_si x15 24 a1 99 := ⟨_, rfl⟩
    have hF := tc_lt hF ex18
    have hW : tc_WC D cU cO e0 A E x18 H := by rw [ex18]; exact hW.sC g16 (by decide) (by decide) (by rw [tc_e24]; exact e1) o1
    have g19 : a1 < tc_nc x18 := by rw [ex18]; exact g16
    have g20 : j3 < tc_nb x18 := by rw [ex18]; exact g17
    have h91 := Option.some.inj hF
    refine W.widen (k := 0) (n := 0) (Nat.le_of_ble_eq_true rfl) (Nat.le_of_ble_eq_true rfl) ?_
    exact W.vret hx hb hr (fun t ht hW9 => ⟨⟨rfl, by rw [← h91, ht]; exact hW⟩, tc_F hS ht⟩) hS.2.2 dX2_dropLoad_30

def f_X2_raiseHook (x : tc_X) (a1 : Nat) (a2 : Int32) : Option (Int32 × tc_X) := (if a1 < tc_nc x then Option.bind (f_X1_ticksToWind x a1 (a2 - (x.1 26 a1))) (fun r2 => tc_let (tc_si x 26 a1 a2) (fun x4 => tc_let (tc_si x4 0 0 ((x4.1 0 0) + r2)) (fun x6 => some (r2, x6)))) else none)
set_option maxHeartbeats 4000000 in
set_option maxRecDepth 100000 in
theorem mt_X2_raiseHook (l : Launch) (D : va_G) (cU cO cI : ClassId) (e0 : Nat) (A : Nat → Prop) (E : Nat → Nat) (x : tc_X) (a1 : Nat) (a2 : Int32) (r : Int32) (z : tc_X) (hF : f_X2_raiseHook x a1 a2 = some (r, z)) : Met l yX2_raiseHook wsX2_raiseHook ({ frames := 1, cells := 0, slots := 0, locals := 21 } : Room) (va_Pc [.ref (E 0), .ref (E (46 + a1)), .int a2] (fun U => tc_WC D cU cO e0 A E x U.heap ∧ tc_KX D cU cO cI e0 A U)) (tc_Qw (some (.int r)) (tc_WC D cU cO e0 A E z) A) 0 0 A := by
  refine Met.ofW (cc := cX2_raiseHook) (maxL := 4) (ret := (some .int)) (by decide) rfl ?_
  intro p e s m args below meth c s₁ B hml hv
  obtain ⟨rfl, hW, hKX⟩ := hv
  have hx := B.exec
  have hb := B.bytes
  have hr := B.returns
  have hts := atoms_spec (ws := wsX2_raiseHook) B.pre
  have hown : s.vm.findClass RX2 = some m.cls := findClass_of_methodNamed B.named
  have hlocks := B.notSynchronized
  have hKC := hKX.1
  have hK := hKC.1
  have hA := hKX.2.1
  have hinX1 : ∀ w ∈ wsX10, w ∈ wsX2_raiseHook := fun w9 h9 => List.mem_cons_of_mem _ (List.mem_append_left _ (List.mem_append_right _ h9))
  have hinX2 : ∀ w ∈ wsX20, w ∈ wsX2_raiseHook := fun w9 h9 => List.mem_cons_of_mem _ (List.mem_append_right _ h9)
  have hS : va_S A s.heap s.heap [] := va_S.rf
  have hl := lv_entry ([.ref (E 0), .ref (E (46 + a1)), .int a2]) (n := 4) (Nat.le_of_ble_eq_true rfl)
  rw [lg_entry_eq]
  generalize (lg_sl ([.ref (E 0), .ref (E (46 + a1)), .int a2]) ++ List.replicate (4 - (lg_sl ([.ref (E 0), .ref (E (46 + a1)), .int a2])).length) Slot.unset).toArray = ls at hl ⊢
  have hl : lv_has ls 4 [(0, .ref (E 0)), (1, .ref (E (46 + a1))), (2, .int a2)] := hl
  refine lv_aload_n hx hb dX2_raiseHook_0 rfl (lv_at hl 1 rfl) ?_
  refine lv_iload_n hx hb dX2_raiseHook_1 rfl (lv_at hl 2 rfl) ?_
  refine lv_aload_n hx hb dX2_raiseHook_2 rfl (lv_at hl 1 rfl) ?_
  obtain ⟨g1, hF⟩ := tc_ob hF
  refine tc_get (v := .int (x.1 26 a1)) hx hb hts hinX1 hown hK (hW.c g1) (C := RX1) (T := TX1) (N := 8) rfl 6 (by decide) (hts (.fieldLink RX2 105 "TreadCranes$Crane" "hookHeight" "I") (List.mem_of_getElem? (i := 1) rfl)) (fun _ h9 => h9) rfl dX2_raiseHook_3 ?_
  refine lv_isub hx hb dX2_raiseHook_6 ?_
  obtain ⟨r2, h3, hF⟩ := tc_bi hF
  refine tc_cr (W.runV (As := [.int (a2 - (x.1 26 a1))]) (rest := []) ⟨hx, hb, hml, hown, hts⟩ (mt_X1_ticksToWind l D cU cO cI e0 A E x a1 (a2 - (x.1 26 a1)) r2 h3) (cwV 1 hts gX2_raiseHook_X1_ticksToWind rfl rfl rfl (by decide +kernel) ⟨Nat.le_of_ble_eq_true rfl, Nat.le_of_ble_eq_true rfl⟩) ⟨fun a U g mk q => ⟨q.1, q.2.1, q.2.2.call⟩, tc_rcv (hW.c g1) hK rfl, fun U hU hW9 => ⟨rfl, by rw [hU]; exact hW, hKC.warm hW9⟩⟩ rfl rfl hl.1 rfl (lv_room (Nat.le_of_ble_eq_true rfl)) dX2_raiseHook_7 ⟨Nat.le_of_ble_eq_true rfl, Nat.le_of_ble_eq_true rfl⟩) ?_
  refine lv_istore_n (lv' := [(3, .int r2), (0, .ref (E 0)), (1, .ref (E (46 + a1))), (2, .int a2)]) hx hb dX2_raiseHook_10 rfl hl (by decide) rfl (fun ls hl => ?_)
  refine lv_aload_n hx hb dX2_raiseHook_11 rfl (lv_at hl 2 rfl) ?_
  refine lv_iload_n hx hb dX2_raiseHook_12 rfl (lv_at hl 3 rfl) ?_
  refine tc_put (v := .int a2) (ty := .int) hx hb hts hinX1 tyX1 tyX1_ok nmX1 hown hK (hW.c g1) hS (hW.own (tc_lv.c g1)) (C := RX1) (T := TX1) (N := 8) rfl 6 (by decide) (hts (.fieldLink RX2 105 "TreadCranes$Crane" "hookHeight" "I") (List.mem_of_getElem? (i := 1) rfl)) (fun _ h9 => h9) rfl (by decide +kernel) rfl rfl (Nat.le_of_ble_eq_true rfl) dX2_raiseHook_13 (fun H locs e1 z1 o1 hS => ?_)
  obtain ⟨x4, ex4⟩ : ∃ z : tc_X, z = tc_si x 26 a1 a2 := ⟨_, rfl⟩
  have hF := tc_lt hF ex4
  have hW : tc_WC D cU cO e0 A E x4 H := by rw [ex4]; exact hW.sC g1 (by decide) (by decide) (by rw [tc_e26]; exact e1) o1
  have g5 : a1 < tc_nc x4 := by rw [ex4]; exact g1
  refine lv_aload_n hx hb dX2_raiseHook_16 rfl (lv_at hl 1 rfl) ?_
  refine lv_dup hx hb dX2_raiseHook_17 rfl ?_
  refine tc_get (v := .int (x4.1 0 0)) hx hb hts hinX2 hown hK (hW.o) (C := RX2) (T := TX2) (N := 4) rfl 3 (by decide) (hts (.fieldLink RX2 123 "TreadCranes" "ticks" "I") (List.mem_of_getElem? (i := 2) rfl)) (fun _ h9 => h9) rfl dX2_raiseHook_18 ?_
  refine lv_iload_n hx hb dX2_raiseHook_21 rfl (lv_at hl 0 rfl) ?_
  refine lv_iadd hx hb dX2_raiseHook_22 ?_
  refine tc_put (v := .int ((x4.1 0 0) + r2)) (ty := .int) hx hb hts hinX2 tyX2 tyX2_ok nmX2 hown hK (hW.o) hS (hW.own (tc_lv.f (by decide))) (C := RX2) (T := TX2) (N := 4) rfl 3 (by decide) (hts (.fieldLink RX2 123 "TreadCranes" "ticks" "I") (List.mem_of_getElem? (i := 2) rfl)) (fun _ h9 => h9) rfl (by decide +kernel) rfl rfl (Nat.le_of_ble_eq_true rfl) dX2_raiseHook_23 (fun H locs e1 z1 o1 hS => ?_)
  obtain ⟨x6, ex6⟩ : ∃ z : tc_X, z = tc_si x4 0 0 ((x4.1 0 0) + r2) := ⟨_, rfl⟩
  have hF := tc_lt hF ex6
  have hW : tc_WC D cU cO e0 A E x6 H := by rw [ex6]; exact hW.sO e1 o1
  have g7 : a1 < tc_nc x6 := by rw [ex6]; exact g5
  refine lv_iload_n hx hb dX2_raiseHook_26 rfl (lv_at hl 0 rfl) ?_
  obtain ⟨h91, h92⟩ := tc_pr2 (Option.some.inj hF)
  refine W.widen (k := 0) (n := 0) (Nat.le_of_ble_eq_true rfl) (Nat.le_of_ble_eq_true rfl) ?_
  exact W.iret hx hb hr (fun t ht hW9 => ⟨⟨by rw [← h91], by rw [← h92, ht]; exact hW⟩, tc_F hS ht⟩) hS.2.2 dX2_raiseHook_27

def f_X2_lowerHook (x : tc_X) (a1 : Nat) (a2 : Int32) : Option (Int32 × tc_X) := (if a1 < tc_nc x then Option.bind (f_X1_ticksToWind x a1 ((x.1 26 a1) - a2)) (fun r2 => (tc_oc (x.2.1 2 a1) (tc_let (tc_si x 26 a1 a2) (fun x6 => tc_let (tc_si x6 0 0 ((x6.1 0 0) + r2)) (fun x8 => some (r2, x8)))) (fun j5 => (if j5 < tc_nb x then Option.bind (f_X1_wornAfterLowering x a1 (x.1 11 j5) r2) (fun r11 => (if r11 ≤ 99 then tc_let (tc_si x 24 a1 r11) (fun x14 => tc_let (tc_si x14 26 a1 a2) (fun x17 => tc_let (tc_si x17 0 0 ((x17.1 0 0) + r2)) (fun x20 => some (r2, x20)))) else Option.bind (f_X2_dropLoad x a1) (fun x23 => some ((-1), x23)))) else none)))) else none)
set_option maxHeartbeats 4000000 in
set_option maxRecDepth 100000 in
theorem mt_X2_lowerHook (l : Launch) (D : va_G) (cU cO cI : ClassId) (e0 : Nat) (A : Nat → Prop) (E : Nat → Nat) (x : tc_X) (a1 : Nat) (a2 : Int32) (r : Int32) (z : tc_X) (hF : f_X2_lowerHook x a1 a2 = some (r, z)) : Met l yX2_lowerHook wsX2_lowerHook ({ frames := 2, cells := 0, slots := 0, locals := 42 } : Room) (va_Pc [.ref (E 0), .ref (E (46 + a1)), .int a2] (fun U => tc_WC D cU cO e0 A E x U.heap ∧ tc_KX D cU cO cI e0 A U)) (tc_Qw (some (.int r)) (tc_WC D cU cO e0 A E z) A) 0 0 A := by
  refine Met.ofW (cc := cX2_lowerHook) (maxL := 6) (ret := (some .int)) (by decide) rfl ?_
  intro p e s m args below meth c s₁ B hml hv
  obtain ⟨rfl, hW, hKX⟩ := hv
  have hx := B.exec
  have hb := B.bytes
  have hr := B.returns
  have hts := atoms_spec (ws := wsX2_lowerHook) B.pre
  have hown : s.vm.findClass RX2 = some m.cls := findClass_of_methodNamed B.named
  have hlocks := B.notSynchronized
  have hKC := hKX.1
  have hK := hKC.1
  have hA := hKX.2.1
  have hinX0 : ∀ w ∈ wsX00, w ∈ wsX2_lowerHook := fun w9 h9 => List.mem_cons_of_mem _ (List.mem_append_left _ (List.mem_append_right _ h9))
  have hinX1 : ∀ w ∈ wsX10, w ∈ wsX2_lowerHook := fun w9 h9 => List.mem_cons_of_mem _ (List.mem_append_left _ (List.mem_append_left _ (List.mem_append_right _ h9)))
  have hinX2 : ∀ w ∈ wsX20, w ∈ wsX2_lowerHook := fun w9 h9 => List.mem_cons_of_mem _ (List.mem_append_right _ h9)
  have hS : va_S A s.heap s.heap [] := va_S.rf
  have hl := lv_entry ([.ref (E 0), .ref (E (46 + a1)), .int a2]) (n := 6) (Nat.le_of_ble_eq_true rfl)
  rw [lg_entry_eq]
  generalize (lg_sl ([.ref (E 0), .ref (E (46 + a1)), .int a2]) ++ List.replicate (6 - (lg_sl ([.ref (E 0), .ref (E (46 + a1)), .int a2])).length) Slot.unset).toArray = ls at hl ⊢
  have hl : lv_has ls 6 [(0, .ref (E 0)), (1, .ref (E (46 + a1))), (2, .int a2)] := hl
  refine lv_aload_n hx hb dX2_lowerHook_0 rfl (lv_at hl 1 rfl) ?_
  refine lv_aload_n hx hb dX2_lowerHook_1 rfl (lv_at hl 1 rfl) ?_
  obtain ⟨g1, hF⟩ := tc_ob hF
  refine tc_get (v := .int (x.1 26 a1)) hx hb hts hinX1 hown hK (hW.c g1) (C := RX1) (T := TX1) (N := 8) rfl 6 (by decide) (hts (.fieldLink RX2 105 "TreadCranes$Crane" "hookHeight" "I") (List.mem_of_getElem? (i := 1) rfl)) (fun _ h9 => h9) rfl dX2_lowerHook_2 ?_
  refine lv_iload_n hx hb dX2_lowerHook_5 rfl (lv_at hl 2 rfl) ?_
  refine lv_isub hx hb dX2_lowerHook_6 ?_
  obtain ⟨r2, h3, hF⟩ := tc_bi hF
  refine tc_cr (W.runV (As := [.int ((x.1 26 a1) - a2)]) (rest := []) ⟨hx, hb, hml, hown, hts⟩ (mt_X1_ticksToWind l D cU cO cI e0 A E x a1 ((x.1 26 a1) - a2) r2 h3) (cwV 1 hts gX2_lowerHook_X1_ticksToWind rfl rfl rfl (by decide +kernel) ⟨Nat.le_of_ble_eq_true rfl, Nat.le_of_ble_eq_true rfl⟩) ⟨fun a U g mk q => ⟨q.1, q.2.1, q.2.2.call⟩, tc_rcv (hW.c g1) hK rfl, fun U hU hW9 => ⟨rfl, by rw [hU]; exact hW, hKC.warm hW9⟩⟩ rfl rfl hl.1 rfl (lv_room (Nat.le_of_ble_eq_true rfl)) dX2_lowerHook_7 ⟨Nat.le_of_ble_eq_true rfl, Nat.le_of_ble_eq_true rfl⟩) ?_
  refine lv_istore_n (lv' := [(3, .int r2), (0, .ref (E 0)), (1, .ref (E (46 + a1))), (2, .int a2)]) hx hb dX2_lowerHook_10 rfl hl (by decide) rfl (fun ls hl => ?_)
  refine lv_aload_n hx hb dX2_lowerHook_11 rfl (lv_at hl 2 rfl) ?_
  refine tc_get (v := va_rf (tc_ad E 6 (x.2.1 2 a1))) hx hb hts hinX1 hown hK (hW.c g1) (C := RX1) (T := TX1) (N := 8) rfl 7 (by decide) (hts (.fieldLink RX2 130 "TreadCranes$Crane" "load" "LTreadCranes$Barrel;") (List.mem_of_getElem? (i := 2) rfl)) (fun _ h9 => h9) rfl dX2_lowerHook_12 ?_
  refine tc_opt (fun o4 => ?_) (fun j5 o4 => ?_)
  · have hF := tc_on hF o4
    refine lv_astoreN (lv' := [(4, .null), (3, .int r2), (0, .ref (E 0)), (1, .ref (E (46 + a1))), (2, .int a2)]) hx hb dX2_lowerHook_15 hl (by decide) rfl (fun ls hl => ?_)
    refine lv_aloadN hx hb dX2_lowerHook_17 (lv_at hl 0 rfl) ?_
    refine lv_ifnullN (tgt := 53) hx hb dX2_lowerHook_19 (by decide) ?_
    refine lv_aload_n hx hb dX2_lowerHook_53 rfl (lv_at hl 3 rfl) ?_
    refine lv_iload_n hx hb dX2_lowerHook_54 rfl (lv_at hl 4 rfl) ?_
    refine tc_put (v := .int a2) (ty := .int) hx hb hts hinX1 tyX1 tyX1_ok nmX1 hown hK (hW.c g1) hS (hW.own (tc_lv.c g1)) (C := RX1) (T := TX1) (N := 8) rfl 6 (by decide) (hts (.fieldLink RX2 105 "TreadCranes$Crane" "hookHeight" "I") (List.mem_of_getElem? (i := 1) rfl)) (fun _ h9 => h9) rfl (by decide +kernel) rfl rfl (Nat.le_of_ble_eq_true rfl) dX2_lowerHook_55 (fun H locs e1 z1 o1 hS => ?_)
    obtain ⟨x6, ex6⟩ : ∃ z : tc_X, z = tc_si x 26 a1 a2 := ⟨_, rfl⟩
    have hF := tc_lt hF ex6
    have hW : tc_WC D cU cO e0 A E x6 H := by rw [ex6]; exact hW.sC g1 (by decide) (by decide) (by rw [tc_e26]; exact e1) o1
    have g7 : a1 < tc_nc x6 := by rw [ex6]; exact g1
    refine lv_aload_n hx hb dX2_lowerHook_58 rfl (lv_at hl 2 rfl) ?_
    refine lv_dup hx hb dX2_lowerHook_59 rfl ?_
    refine tc_get (v := .int (x6.1 0 0)) hx hb hts hinX2 hown hK (hW.o) (C := RX2) (T := TX2) (N := 4) rfl 3 (by decide) (hts (.fieldLink RX2 123 "TreadCranes" "ticks" "I") (List.mem_of_getElem? (i := 5) rfl)) (fun _ h9 => h9) rfl dX2_lowerHook_60 ?_
    refine lv_iload_n hx hb dX2_lowerHook_63 rfl (lv_at hl 1 rfl) ?_
    refine lv_iadd hx hb dX2_lowerHook_64 ?_
    refine tc_put (v := .int ((x6.1 0 0) + r2)) (ty := .int) hx hb hts hinX2 tyX2 tyX2_ok nmX2 hown hK (hW.o) hS (hW.own (tc_lv.f (by decide))) (C := RX2) (T := TX2) (N := 4) rfl 3 (by decide) (hts (.fieldLink RX2 123 "TreadCranes" "ticks" "I") (List.mem_of_getElem? (i := 5) rfl)) (fun _ h9 => h9) rfl (by decide +kernel) rfl rfl (Nat.le_of_ble_eq_true rfl) dX2_lowerHook_65 (fun H locs e1 z1 o1 hS => ?_)
    obtain ⟨x8, ex8⟩ : ∃ z : tc_X, z = tc_si x6 0 0 ((x6.1 0 0) + r2) := ⟨_, rfl⟩
    have hF := tc_lt hF ex8
    have hW : tc_WC D cU cO e0 A E x8 H := by rw [ex8]; exact hW.sO e1 o1
    have g9 : a1 < tc_nc x8 := by rw [ex8]; exact g7
    refine lv_iload_n hx hb dX2_lowerHook_68 rfl (lv_at hl 1 rfl) ?_
    obtain ⟨h91, h92⟩ := tc_pr2 (Option.some.inj hF)
    refine W.widen (k := 0) (n := 0) (Nat.le_of_ble_eq_true rfl) (Nat.le_of_ble_eq_true rfl) ?_
    exact W.iret hx hb hr (fun t ht hW9 => ⟨⟨by rw [← h91], by rw [← h92, ht]; exact hW⟩, tc_F hS ht⟩) hS.2.2 dX2_lowerHook_69
  · have hF := tc_os hF o4
    refine lv_astore (lv' := [(4, .ref (E (6 + j5))), (3, .int r2), (0, .ref (E 0)), (1, .ref (E (46 + a1))), (2, .int a2)]) hx hb dX2_lowerHook_15 hl (by decide) rfl (fun ls hl => ?_)
    refine lv_aload hx hb dX2_lowerHook_17 (lv_at hl 0 rfl) ?_
    refine lv_ifnull hx hb dX2_lowerHook_19 ?_
    refine lv_aload_n hx hb dX2_lowerHook_22 rfl (lv_at hl 3 rfl) ?_
    refine lv_aload hx hb dX2_lowerHook_23 (lv_at hl 0 rfl) ?_
    obtain ⟨g10, hF⟩ := tc_ob hF
    refine tc_get (v := .int (x.1 11 j5)) hx hb hts hinX0 hown hK (hW.b g10) (C := RX0) (T := TX0) (N := 7) rfl 1 (by decide) (hts (.fieldLink RX2 134 "TreadCranes$Barrel" "weight" "I") (List.mem_of_getElem? (i := 3) rfl)) (fun _ h9 => h9) rfl dX2_lowerHook_25 ?_
    refine lv_iload_n hx hb dX2_lowerHook_28 rfl (lv_at hl 1 rfl) ?_
    obtain ⟨r11, h12, hF⟩ := tc_bi hF
    refine tc_cr (W.runV (As := [.int (x.1 11 j5), .int r2]) (rest := []) ⟨hx, hb, hml, hown, hts⟩ (mt_X1_wornAfterLowering l D cU cO cI e0 A E x a1 (x.1 11 j5) r2 r11 h12) (cwV 2 hts gX2_lowerHook_X1_wornAfterLowering rfl rfl rfl (by decide +kernel) ⟨Nat.le_of_ble_eq_true rfl, Nat.le_of_ble_eq_true rfl⟩) ⟨fun a U g mk q => ⟨q.1, q.2.1, q.2.2.call⟩, tc_rcv (hW.c g1) hK rfl, fun U hU hW9 => ⟨rfl, by rw [hU]; exact hW, hKC.warm hW9⟩⟩ rfl rfl hl.1 rfl (lv_room (Nat.le_of_ble_eq_true rfl)) dX2_lowerHook_29 ⟨Nat.le_of_ble_eq_true rfl, Nat.le_of_ble_eq_true rfl⟩) ?_
    refine lv_istore (lv' := [(5, .int r11), (4, .ref (E (6 + j5))), (3, .int r2), (0, .ref (E 0)), (1, .ref (E (46 + a1))), (2, .int a2)]) hx hb dX2_lowerHook_32 hl (by decide) rfl (fun ls hl => ?_)
    refine lv_iload hx hb dX2_lowerHook_34 (lv_at hl 0 rfl) ?_
    refine lv_bipush (v := 99) hx hb dX2_lowerHook_36 (by decide) ?_
    refine lv_icmp_le (tgt := 47) hx hb dX2_lowerHook_38 (by decide) (fun c13 => ?_) (fun c13 => ?_)
    · have hF := tc_it hF c13
      refine lv_aload_n hx hb dX2_lowerHook_47 rfl (lv_at hl 4 rfl) ?_
      refine lv_iload hx hb dX2_lowerHook_48 (lv_at hl 0 rfl) ?_
      refine tc_put (v := .int r11) (ty := .int) hx hb hts hinX1 tyX1 tyX1_ok nmX1 hown hK (hW.c g1) hS (hW.own (tc_lv.c g1)) (C := RX1) (T := TX1) (N := 8) rfl 4 (by decide) (hts (.fieldLink RX2 96 "TreadCranes$Crane" "worn" "I") (List.mem_of_getElem? (i := 4) rfl)) (fun _ h9 => h9) rfl (by decide +kernel) rfl rfl (Nat.le_of_ble_eq_true rfl) dX2_lowerHook_50 (fun H locs e1 z1 o1 hS => ?_)
      obtain ⟨x14, ex14⟩ : ∃ z : tc_X, z = tc_si x 24 a1 r11 := ⟨_, rfl⟩
      have hF := tc_lt hF ex14
      have hW : tc_WC D cU cO e0 A E x14 H := by rw [ex14]; exact hW.sC g1 (by decide) (by decide) (by rw [tc_e24]; exact e1) o1
      have g15 : a1 < tc_nc x14 := by rw [ex14]; exact g1
      have g16 : j5 < tc_nb x14 := by rw [ex14]; exact g10
      refine lv_aload_n hx hb dX2_lowerHook_53 rfl (lv_at hl 4 rfl) ?_
      refine lv_iload_n hx hb dX2_lowerHook_54 rfl (lv_at hl 5 rfl) ?_
      refine tc_put (v := .int a2) (ty := .int) hx hb hts hinX1 tyX1 tyX1_ok nmX1 hown hK (hW.c g15) hS (hW.own (tc_lv.c g15)) (C := RX1) (T := TX1) (N := 8) rfl 6 (by decide) (hts (.fieldLink RX2 105 "TreadCranes$Crane" "hookHeight" "I") (List.mem_of_getElem? (i := 1) rfl)) (fun _ h9 => h9) rfl (by decide +kernel) rfl rfl (Nat.le_of_ble_eq_true rfl) dX2_lowerHook_55 (fun H locs e1 z1 o1 hS => ?_)
      obtain ⟨x17, ex17⟩ : ∃ z : tc_X, z = tc_si x14 26 a1 a2 := ⟨_, rfl⟩
      have hF := tc_lt hF ex17
      have hW : tc_WC D cU cO e0 A E x17 H := by rw [ex17]; exact hW.sC g15 (by decide) (by decide) (by rw [tc_e26]; exact e1) o1
      have g18 : a1 < tc_nc x17 := by rw [ex17]; exact g15
      have g19 : j5 < tc_nb x17 := by rw [ex17]; exact g16
      refine lv_aload_n hx hb dX2_lowerHook_58 rfl (lv_at hl 3 rfl) ?_
      refine lv_dup hx hb dX2_lowerHook_59 rfl ?_
      refine tc_get (v := .int (x17.1 0 0)) hx hb hts hinX2 hown hK (hW.o) (C := RX2) (T := TX2) (N := 4) rfl 3 (by decide) (hts (.fieldLink RX2 123 "TreadCranes" "ticks" "I") (List.mem_of_getElem? (i := 5) rfl)) (fun _ h9 => h9) rfl dX2_lowerHook_60 ?_
      refine lv_iload_n hx hb dX2_lowerHook_63 rfl (lv_at hl 2 rfl) ?_
      refine lv_iadd hx hb dX2_lowerHook_64 ?_
      refine tc_put (v := .int ((x17.1 0 0) + r2)) (ty := .int) hx hb hts hinX2 tyX2 tyX2_ok nmX2 hown hK (hW.o) hS (hW.own (tc_lv.f (by decide))) (C := RX2) (T := TX2) (N := 4) rfl 3 (by decide) (hts (.fieldLink RX2 123 "TreadCranes" "ticks" "I") (List.mem_of_getElem? (i := 5) rfl)) (fun _ h9 => h9) rfl (by decide +kernel) rfl rfl (Nat.le_of_ble_eq_true rfl) dX2_lowerHook_65 (fun H locs e1 z1 o1 hS => ?_)
      obtain ⟨x20, ex20⟩ : ∃ z : tc_X, z = tc_si x17 0 0 ((x17.1 0 0) + r2) := ⟨_, rfl⟩
      have hF := tc_lt hF ex20
      have hW : tc_WC D cU cO e0 A E x20 H := by rw [ex20]; exact hW.sO e1 o1
      have g21 : a1 < tc_nc x20 := by rw [ex20]; exact g18
      have g22 : j5 < tc_nb x20 := by rw [ex20]; exact g19
      refine lv_iload_n hx hb dX2_lowerHook_68 rfl (lv_at hl 2 rfl) ?_
      obtain ⟨h91, h92⟩ := tc_pr2 (Option.some.inj hF)
      refine W.widen (k := 0) (n := 0) (Nat.le_of_ble_eq_true rfl) (Nat.le_of_ble_eq_true rfl) ?_
      exact W.iret hx hb hr (fun t ht hW9 => ⟨⟨by rw [← h91], by rw [← h92, ht]; exact hW⟩, tc_F hS ht⟩) hS.2.2 dX2_lowerHook_69
    · have hF := tc_if hF c13
      refine lv_aload_n hx hb dX2_lowerHook_41 rfl (lv_at hl 4 rfl) ?_
      obtain ⟨x23, h24, hF⟩ := tc_bi hF
      refine tc_cwv (va_runS (As := [.ref (E (46 + a1))]) (rest := []) ⟨hx, hb, hml, hown, hts⟩ (mt_X2_dropLoad l D cU cO cI e0 A E x a1 x23 h24) (va_cwS 1 hts gX2_lowerHook_X2_dropLoad rfl rfl rfl (by decide +kernel) ⟨Nat.le_of_ble_eq_true rfl, Nat.le_of_ble_eq_true rfl⟩) ⟨fun a U g mk q => ⟨q.1, q.2.1, q.2.2.call⟩, fun U hU hW9 => ⟨rfl, by rw [hU]; exact hW, hKX.go hS hU hW9⟩⟩ rfl rfl hl.1 rfl (lv_room (Nat.le_of_ble_eq_true rfl)) dX2_lowerHook_42 ⟨Nat.le_of_ble_eq_true rfl, Nat.le_of_ble_eq_true rfl⟩) hS (fun _ _ h => h) (fun _ h => h) (fun H locs hW z1 o1 hS => ?_)
      refine lv_iconst (v := (-1)) hx hb dX2_lowerHook_45 (by decide) ?_
      obtain ⟨h91, h92⟩ := tc_pr2 (Option.some.inj hF)
      refine W.widen (k := 0) (n := 0) (Nat.le_of_ble_eq_true rfl) (Nat.le_of_ble_eq_true rfl) ?_
      exact W.iret hx hb hr (fun t ht hW9 => ⟨⟨by rw [← h91], by rw [← h92, ht]; exact hW⟩, tc_F hS ht⟩) hS.2.2 dX2_lowerHook_46

def f_X2_putUpon (x : tc_X) (a1 : Int32) (a2 : Nat) : Option (tc_X) := Option.bind (f_X2_isPlace a1) (fun r1 => (if r1 = 0 then some x else (if a2 < tc_nb x then tc_let (tc_si x 12 a2 a1) (fun x5 => Option.bind (f_X2_heightOf x5 a1) (fun r7 => tc_let (tc_si x5 13 a2 r7) (fun x9 => (if ¬ a1 < 0 ∧ a1.toNatClampNeg < 16 then (tc_oc (x9.2.1 0 a1.toNatClampNeg) (tc_let (tc_sr x9 1 a2 none) (fun x14 => tc_let (tc_sr x14 0 a1.toNatClampNeg (some a2)) (fun x16 => some x16))) (fun j13 => tc_let (tc_sr x9 1 a2 (some j13)) (fun x18 => tc_let (tc_sr x18 0 a1.toNatClampNeg (some a2)) (fun x20 => some x20)))) else none)))) else none)))
set_option maxHeartbeats 4000000 in
set_option maxRecDepth 100000 in
theorem mt_X2_putUpon (l : Launch) (D : va_G) (cU cO cI : ClassId) (e0 : Nat) (A : Nat → Prop) (E : Nat → Nat) (x : tc_X) (a1 : Int32) (a2 : Nat) (z : tc_X) (hF : f_X2_putUpon x a1 a2 = some z) : Met l yX2_putUpon wsX2_putUpon ({ frames := 4, cells := 0, slots := 0, locals := 85 } : Room) (va_Pc [.ref (E 0), .int a1, .ref (E (6 + a2))] (fun U => tc_WC D cU cO e0 A E x U.heap ∧ tc_KX D cU cO cI e0 A U)) (tc_Qw none (tc_WC D cU cO e0 A E z) A) 0 0 A := by
  refine Met.ofW (cc := cX2_putUpon) (maxL := 3) (ret := none) (by decide) rfl ?_
  intro p e s m args below meth c s₁ B hml hv
  obtain ⟨rfl, hW, hKX⟩ := hv
  have hx := B.exec
  have hb := B.bytes
  have hr := B.returns
  have hts := atoms_spec (ws := wsX2_putUpon) B.pre
  have hown : s.vm.findClass RX2 = some m.cls := findClass_of_methodNamed B.named
  have hlocks := B.notSynchronized
  have hKC := hKX.1
  have hK := hKC.1
  have hA := hKX.2.1
  have hinX0 : ∀ w ∈ wsX00, w ∈ wsX2_putUpon := fun w9 h9 => List.mem_cons_of_mem _ (List.mem_append_left _ (List.mem_append_right _ h9))
  have hinX2 : ∀ w ∈ wsX20, w ∈ wsX2_putUpon := fun w9 h9 => List.mem_cons_of_mem _ (List.mem_append_right _ h9)
  have hS : va_S A s.heap s.heap [] := va_S.rf
  have hl := lv_entry ([.ref (E 0), .int a1, .ref (E (6 + a2))]) (n := 3) (Nat.le_of_ble_eq_true rfl)
  rw [lg_entry_eq]
  generalize (lg_sl ([.ref (E 0), .int a1, .ref (E (6 + a2))]) ++ List.replicate (3 - (lg_sl ([.ref (E 0), .int a1, .ref (E (6 + a2))])).length) Slot.unset).toArray = ls at hl ⊢
  have hl : lv_has ls 3 [(0, .ref (E 0)), (1, .int a1), (2, .ref (E (6 + a2)))] := hl
  refine lv_iload_n hx hb dX2_putUpon_0 rfl (lv_at hl 1 rfl) ?_
  obtain ⟨r1, h2, hF⟩ := tc_bi hF
  refine tc_cr (W.runS (As := [.int a1]) (rest := []) ⟨hx, hb, hml, hown, hts⟩ (mt_X2_isPlace l   a1 r1 h2) (va_cwS 1 hts gX2_putUpon_X2_isPlace rfl rfl rfl (by decide +kernel) ⟨Nat.le_of_ble_eq_true rfl, Nat.le_of_ble_eq_true rfl⟩) ⟨fun a U g mk q => q, fun U hU hW9 => ⟨rfl, trivial⟩⟩ rfl rfl hl.1 rfl (lv_room (Nat.le_of_ble_eq_true rfl)) dX2_putUpon_1 ⟨Nat.le_of_ble_eq_true rfl, Nat.le_of_ble_eq_true rfl⟩) ?_
  refine lv_if_eq (tgt := 38) hx hb dX2_putUpon_4 (by decide) (fun c3 => ?_) (fun c3 => ?_)
  · have hF := tc_it hF c3
    have h91 := Option.some.inj hF
    refine W.widen (k := 0) (n := 0) (Nat.le_of_ble_eq_true rfl) (Nat.le_of_ble_eq_true rfl) ?_
    exact W.vret hx hb hr (fun t ht hW9 => ⟨⟨rfl, by rw [← h91, ht]; exact hW⟩, tc_F hS ht⟩) hS.2.2 dX2_putUpon_38
  · have hF := tc_if hF c3
    refine lv_aload_n hx hb dX2_putUpon_7 rfl (lv_at hl 2 rfl) ?_
    refine lv_iload_n hx hb dX2_putUpon_8 rfl (lv_at hl 1 rfl) ?_
    obtain ⟨g4, hF⟩ := tc_ob hF
    refine tc_put (v := .int a1) (ty := .int) hx hb hts hinX0 tyX0 tyX0_ok nmX0 hown hK (hW.b g4) hS (hW.own (tc_lv.b g4)) (C := RX0) (T := TX0) (N := 7) rfl 2 (by decide) (hts (.fieldLink RX2 193 "TreadCranes$Barrel" "place" "I") (List.mem_of_getElem? (i := 1) rfl)) (fun _ h9 => h9) rfl (by decide +kernel) rfl rfl (Nat.le_of_ble_eq_true rfl) dX2_putUpon_9 (fun H locs e1 z1 o1 hS => ?_)
    obtain ⟨x5, ex5⟩ : ∃ z : tc_X, z = tc_si x 12 a2 a1 := ⟨_, rfl⟩
    have hF := tc_lt hF ex5
    have hW : tc_WC D cU cO e0 A E x5 H := by rw [ex5]; exact hW.sB g4 (by decide) (by decide) (by rw [tc_e12]; exact e1) o1
    have g6 : a2 < tc_nb x5 := by rw [ex5]; exact g4
    refine lv_aload_n hx hb dX2_putUpon_12 rfl (lv_at hl 2 rfl) ?_
    refine lv_aload_n hx hb dX2_putUpon_13 rfl (lv_at hl 0 rfl) ?_
    refine lv_iload_n hx hb dX2_putUpon_14 rfl (lv_at hl 1 rfl) ?_
    obtain ⟨r7, h8, hF⟩ := tc_bi hF
    refine tc_cr (W.runV (As := [.int a1]) (rest := [.ref (E (6 + a2))]) ⟨hx, hb, hml, hown, hts⟩ (mt_X2_heightOf l D cU cO cI e0 A E x5 a1 r7 h8) (cwV 1 hts gX2_putUpon_X2_heightOf rfl rfl rfl (by decide +kernel) ⟨Nat.le_of_ble_eq_true rfl, Nat.le_of_ble_eq_true rfl⟩) ⟨fun a U g mk q => ⟨q.1, q.2.1, q.2.2.call⟩, tc_rcv (hW.o) hK rfl, fun U hU hW9 => ⟨rfl, by rw [hU]; exact hW, hKC.warm hW9⟩⟩ rfl rfl hl.1 rfl (lv_room (Nat.le_of_ble_eq_true rfl)) dX2_putUpon_15 ⟨Nat.le_of_ble_eq_true rfl, Nat.le_of_ble_eq_true rfl⟩) ?_
    refine tc_put (v := .int r7) (ty := .int) hx hb hts hinX0 tyX0 tyX0_ok nmX0 hown hK (hW.b g6) hS (hW.own (tc_lv.b g6)) (C := RX0) (T := TX0) (N := 7) rfl 3 (by decide) (hts (.fieldLink RX2 222 "TreadCranes$Barrel" "level" "I") (List.mem_of_getElem? (i := 2) rfl)) (fun _ h9 => h9) rfl (by decide +kernel) rfl rfl (Nat.le_of_ble_eq_true rfl) dX2_putUpon_18 (fun H locs e1 z1 o1 hS => ?_)
    obtain ⟨x9, ex9⟩ : ∃ z : tc_X, z = tc_si x5 13 a2 r7 := ⟨_, rfl⟩
    have hF := tc_lt hF ex9
    have hW : tc_WC D cU cO e0 A E x9 H := by rw [ex9]; exact hW.sB g6 (by decide) (by decide) (by rw [tc_e13]; exact e1) o1
    have g10 : a2 < tc_nb x9 := by rw [ex9]; exact g6
    refine lv_aload_n hx hb dX2_putUpon_21 rfl (lv_at hl 2 rfl) ?_
    refine lv_aload_n hx hb dX2_putUpon_22 rfl (lv_at hl 0 rfl) ?_
    refine tc_get (v := .ref (E 1)) hx hb hts hinX2 hown hK (hW.o) (C := RX2) (T := TX2) (N := 4) rfl 0 (by decide) (hts (.fieldLink RX2 11 "TreadCranes" "uppermost" "[LTreadCranes$Barrel;") (List.mem_of_getElem? (i := 3) rfl)) (fun _ h9 => h9) rfl dX2_putUpon_23 ?_
    refine lv_iload_n hx hb dX2_putUpon_26 rfl (lv_at hl 1 rfl) ?_
    obtain ⟨g11, hF⟩ := tc_ob hF
    refine tc_aald hx hb hK hW.u 0 rfl g11 dX2_putUpon_27 ?_
    refine tc_opt (fun o12 => ?_) (fun j13 o12 => ?_)
    · have hF := tc_on hF o12
      refine tc_put (v := .null) (ty := .object "TreadCranes$Barrel") hx hb hts hinX0 tyX0 tyX0_ok nmX0 hown hK (hW.b g10) hS (hW.own (tc_lv.b g10)) (C := RX0) (T := TX0) (N := 7) rfl 4 (by decide) (hts (.fieldLink RX2 231 "TreadCranes$Barrel" "below" "LTreadCranes$Barrel;") (List.mem_of_getElem? (i := 4) rfl)) (fun _ h9 => h9) rfl (by decide +kernel) rfl rfl (Nat.le_of_ble_eq_true rfl) dX2_putUpon_28 (fun H locs e1 z1 o1 hS => ?_)
      obtain ⟨x14, ex14⟩ : ∃ z : tc_X, z = tc_sr x9 1 a2 none := ⟨_, rfl⟩
      have hF := tc_lt hF ex14
      have hW : tc_WC D cU cO e0 A E x14 H := by rw [ex14]; exact hW.sBr g10 (by simp only [tc_cB, tc_sr_eq, tc_sr_1]; exact e1) o1
      have g15 : a2 < tc_nb x14 := by rw [ex14]; exact g10
      refine lv_aload_n hx hb dX2_putUpon_31 rfl (lv_at hl 0 rfl) ?_
      refine tc_get (v := .ref (E 1)) hx hb hts hinX2 hown hK (hW.o) (C := RX2) (T := TX2) (N := 4) rfl 0 (by decide) (hts (.fieldLink RX2 11 "TreadCranes" "uppermost" "[LTreadCranes$Barrel;") (List.mem_of_getElem? (i := 3) rfl)) (fun _ h9 => h9) rfl dX2_putUpon_32 ?_
      refine lv_iload_n hx hb dX2_putUpon_35 rfl (lv_at hl 1 rfl) ?_
      refine lv_aload_n hx hb dX2_putUpon_36 rfl (lv_at hl 2 rfl) ?_
      refine tc_aast (r := (RX0, TX0, 7)) hx hb hK hW.u hS (hW.own (tc_lv.f (by decide))) 0 rfl (hW.b g15) rfl g11 dX2_putUpon_37 (fun H locs e1 z1 o1 hS => ?_)
      obtain ⟨x16, ex16⟩ : ∃ z : tc_X, z = tc_sr x14 0 a1.toNatClampNeg (some a2) := ⟨_, rfl⟩
      have hF := tc_lt hF ex16
      have hW : tc_WC D cU cO e0 A E x16 H := by rw [ex16]; exact hW.sU e1 o1
      have g17 : a2 < tc_nb x16 := by rw [ex16]; exact g15
      have h91 := Option.some.inj hF
      refine W.widen (k := 0) (n := 0) (Nat.le_of_ble_eq_true rfl) (Nat.le_of_ble_eq_true rfl) ?_
      exact W.vret hx hb hr (fun t ht hW9 => ⟨⟨rfl, by rw [← h91, ht]; exact hW⟩, tc_F hS ht⟩) hS.2.2 dX2_putUpon_38
    · have hF := tc_os hF o12
      refine tc_put (v := .ref (E (6 + j13))) (ty := .object "TreadCranes$Barrel") hx hb hts hinX0 tyX0 tyX0_ok nmX0 hown hK (hW.b g10) hS (hW.own (tc_lv.b g10)) (C := RX0) (T := TX0) (N := 7) rfl 4 (by decide) (hts (.fieldLink RX2 231 "TreadCranes$Barrel" "below" "LTreadCranes$Barrel;") (List.mem_of_getElem? (i := 4) rfl)) (fun _ h9 => h9) rfl (by decide +kernel) rfl rfl (Nat.le_of_ble_eq_true rfl) dX2_putUpon_28 (fun H locs e1 z1 o1 hS => ?_)
      obtain ⟨x18, ex18⟩ : ∃ z : tc_X, z = tc_sr x9 1 a2 (some j13) := ⟨_, rfl⟩
      have hF := tc_lt hF ex18
      have hW : tc_WC D cU cO e0 A E x18 H := by rw [ex18]; exact hW.sBr g10 (by simp only [tc_cB, tc_sr_eq, tc_sr_1]; exact e1) o1
      have g19 : a2 < tc_nb x18 := by rw [ex18]; exact g10
      refine lv_aload_n hx hb dX2_putUpon_31 rfl (lv_at hl 0 rfl) ?_
      refine tc_get (v := .ref (E 1)) hx hb hts hinX2 hown hK (hW.o) (C := RX2) (T := TX2) (N := 4) rfl 0 (by decide) (hts (.fieldLink RX2 11 "TreadCranes" "uppermost" "[LTreadCranes$Barrel;") (List.mem_of_getElem? (i := 3) rfl)) (fun _ h9 => h9) rfl dX2_putUpon_32 ?_
      refine lv_iload_n hx hb dX2_putUpon_35 rfl (lv_at hl 1 rfl) ?_
      refine lv_aload_n hx hb dX2_putUpon_36 rfl (lv_at hl 2 rfl) ?_
      refine tc_aast (r := (RX0, TX0, 7)) hx hb hK hW.u hS (hW.own (tc_lv.f (by decide))) 0 rfl (hW.b g19) rfl g11 dX2_putUpon_37 (fun H locs e1 z1 o1 hS => ?_)
      obtain ⟨x20, ex20⟩ : ∃ z : tc_X, z = tc_sr x18 0 a1.toNatClampNeg (some a2) := ⟨_, rfl⟩
      have hF := tc_lt hF ex20
      have hW : tc_WC D cU cO e0 A E x20 H := by rw [ex20]; exact hW.sU e1 o1
      have g21 : a2 < tc_nb x20 := by rw [ex20]; exact g19
      have h91 := Option.some.inj hF
      refine W.widen (k := 0) (n := 0) (Nat.le_of_ble_eq_true rfl) (Nat.le_of_ble_eq_true rfl) ?_
      exact W.vret hx hb hr (fun t ht hW9 => ⟨⟨rfl, by rw [← h91, ht]; exact hW⟩, tc_F hS ht⟩) hS.2.2 dX2_putUpon_38

def f_X2_removeUppermost (x : tc_X) (a1 : Int32) : Option (tc_X) := Option.bind (f_X2_uppermostAt x a1) (fun r1 => (tc_oc (r1) (some x) (fun j4 => Option.bind (f_X2_isPlace a1) (fun r5 => (if r5 = 0 then some x else (if j4 < tc_nb x then (tc_oc (x.2.1 1 j4) (if ¬ a1 < 0 ∧ a1.toNatClampNeg < 16 then tc_let (tc_sr x 0 a1.toNatClampNeg none) (fun x12 => tc_let (tc_si x12 12 j4 (-1)) (fun x14 => some x14)) else none) (fun j10 => (if ¬ a1 < 0 ∧ a1.toNatClampNeg < 16 then (if j10 < tc_nb x then tc_let (tc_sr x 0 a1.toNatClampNeg (some j10)) (fun x18 => tc_let (tc_si x18 12 j4 (-1)) (fun x21 => some x21)) else none) else none))) else none))))))
set_option maxHeartbeats 4000000 in
set_option maxRecDepth 100000 in
theorem mt_X2_removeUppermost (l : Launch) (D : va_G) (cU cO cI : ClassId) (e0 : Nat) (A : Nat → Prop) (E : Nat → Nat) (x : tc_X) (a1 : Int32) (z : tc_X) (hF : f_X2_removeUppermost x a1 = some z) : Met l yX2_removeUppermost wsX2_removeUppermost ({ frames := 3, cells := 0, slots := 0, locals := 63 } : Room) (va_Pc [.ref (E 0), .int a1] (fun U => tc_WC D cU cO e0 A E x U.heap ∧ tc_KX D cU cO cI e0 A U)) (tc_Qw none (tc_WC D cU cO e0 A E z) A) 0 0 A := by
  refine Met.ofW (cc := cX2_removeUppermost) (maxL := 3) (ret := none) (by decide) rfl ?_
  intro p e s m args below meth c s₁ B hml hv
  obtain ⟨rfl, hW, hKX⟩ := hv
  have hx := B.exec
  have hb := B.bytes
  have hr := B.returns
  have hts := atoms_spec (ws := wsX2_removeUppermost) B.pre
  have hown : s.vm.findClass RX2 = some m.cls := findClass_of_methodNamed B.named
  have hlocks := B.notSynchronized
  have hKC := hKX.1
  have hK := hKC.1
  have hA := hKX.2.1
  have hinX0 : ∀ w ∈ wsX00, w ∈ wsX2_removeUppermost := fun w9 h9 => List.mem_cons_of_mem _ (List.mem_append_right _ h9)
  have hinX2 : ∀ w ∈ wsX20, w ∈ wsX2_removeUppermost := fun w9 h9 => List.mem_cons_of_mem _ (List.mem_append_left _ (List.mem_append_right _ h9))
  have hS : va_S A s.heap s.heap [] := va_S.rf
  have hl := lv_entry ([.ref (E 0), .int a1]) (n := 3) (Nat.le_of_ble_eq_true rfl)
  rw [lg_entry_eq]
  generalize (lg_sl ([.ref (E 0), .int a1]) ++ List.replicate (3 - (lg_sl ([.ref (E 0), .int a1])).length) Slot.unset).toArray = ls at hl ⊢
  have hl : lv_has ls 3 [(0, .ref (E 0)), (1, .int a1)] := hl
  refine lv_aload_n hx hb dX2_removeUppermost_0 rfl (lv_at hl 0 rfl) ?_
  refine lv_iload_n hx hb dX2_removeUppermost_1 rfl (lv_at hl 1 rfl) ?_
  obtain ⟨r1, h2, hF⟩ := tc_bi hF
  refine tc_cr (W.runV (As := [.int a1]) (rest := []) ⟨hx, hb, hml, hown, hts⟩ (mt_X2_uppermostAt l D cU cO cI e0 A E x a1 r1 h2) (cwV 1 hts gX2_removeUppermost_X2_uppermostAt rfl rfl rfl (by decide +kernel) ⟨Nat.le_of_ble_eq_true rfl, Nat.le_of_ble_eq_true rfl⟩) ⟨fun a U g mk q => ⟨q.1, q.2.1, q.2.2.call⟩, tc_rcv (hW.o) hK rfl, fun U hU hW9 => ⟨rfl, by rw [hU]; exact hW, hKC.warm hW9⟩⟩ rfl rfl hl.1 rfl (lv_room (Nat.le_of_ble_eq_true rfl)) dX2_removeUppermost_2 ⟨Nat.le_of_ble_eq_true rfl, Nat.le_of_ble_eq_true rfl⟩) ?_
  refine tc_opt (fun o3 => ?_) (fun j4 o3 => ?_)
  · have hF := tc_on hF o3
    refine lv_astore_nN (lv' := [(2, .null), (0, .ref (E 0)), (1, .int a1)]) hx hb dX2_removeUppermost_5 rfl hl (by decide) rfl (fun ls hl => ?_)
    refine lv_aload_nN hx hb dX2_removeUppermost_6 rfl (lv_at hl 0 rfl) ?_
    refine lv_ifnullN (tgt := 32) hx hb dX2_removeUppermost_7 (by decide) ?_
    have h91 := Option.some.inj hF
    refine W.widen (k := 0) (n := 0) (Nat.le_of_ble_eq_true rfl) (Nat.le_of_ble_eq_true rfl) ?_
    exact W.vret hx hb hr (fun t ht hW9 => ⟨⟨rfl, by rw [← h91, ht]; exact hW⟩, tc_F hS ht⟩) hS.2.2 dX2_removeUppermost_32
  · have hF := tc_os hF o3
    refine lv_astore_n (lv' := [(2, .ref (E (6 + j4))), (0, .ref (E 0)), (1, .int a1)]) hx hb dX2_removeUppermost_5 rfl hl (by decide) rfl (fun ls hl => ?_)
    refine lv_aload_n hx hb dX2_removeUppermost_6 rfl (lv_at hl 0 rfl) ?_
    refine lv_ifnull hx hb dX2_removeUppermost_7 ?_
    refine lv_iload_n hx hb dX2_removeUppermost_10 rfl (lv_at hl 2 rfl) ?_
    obtain ⟨r5, h6, hF⟩ := tc_bi hF
    refine tc_cr (W.runS (As := [.int a1]) (rest := []) ⟨hx, hb, hml, hown, hts⟩ (mt_X2_isPlace l   a1 r5 h6) (va_cwS 1 hts gX2_removeUppermost_X2_isPlace rfl rfl rfl (by decide +kernel) ⟨Nat.le_of_ble_eq_true rfl, Nat.le_of_ble_eq_true rfl⟩) ⟨fun a U g mk q => q, fun U hU hW9 => ⟨rfl, trivial⟩⟩ rfl rfl hl.1 rfl (lv_room (Nat.le_of_ble_eq_true rfl)) dX2_removeUppermost_11 ⟨Nat.le_of_ble_eq_true rfl, Nat.le_of_ble_eq_true rfl⟩) ?_
    refine lv_if_eq (tgt := 32) hx hb dX2_removeUppermost_14 (by decide) (fun c7 => ?_) (fun c7 => ?_)
    · have hF := tc_it hF c7
      have h91 := Option.some.inj hF
      refine W.widen (k := 0) (n := 0) (Nat.le_of_ble_eq_true rfl) (Nat.le_of_ble_eq_true rfl) ?_
      exact W.vret hx hb hr (fun t ht hW9 => ⟨⟨rfl, by rw [← h91, ht]; exact hW⟩, tc_F hS ht⟩) hS.2.2 dX2_removeUppermost_32
    · have hF := tc_if hF c7
      refine lv_aload_n hx hb dX2_removeUppermost_17 rfl (lv_at hl 1 rfl) ?_
      refine tc_get (v := .ref (E 1)) hx hb hts hinX2 hown hK (hW.o) (C := RX2) (T := TX2) (N := 4) rfl 0 (by decide) (hts (.fieldLink RX2 11 "TreadCranes" "uppermost" "[LTreadCranes$Barrel;") (List.mem_of_getElem? (i := 1) rfl)) (fun _ h9 => h9) rfl dX2_removeUppermost_18 ?_
      refine lv_iload_n hx hb dX2_removeUppermost_21 rfl (lv_at hl 2 rfl) ?_
      refine lv_aload_n hx hb dX2_removeUppermost_22 rfl (lv_at hl 0 rfl) ?_
      obtain ⟨g8, hF⟩ := tc_ob hF
      refine tc_get (v := va_rf (tc_ad E 6 (x.2.1 1 j4))) hx hb hts hinX0 hown hK (hW.b g8) (C := RX0) (T := TX0) (N := 7) rfl 4 (by decide) (hts (.fieldLink RX2 231 "TreadCranes$Barrel" "below" "LTreadCranes$Barrel;") (List.mem_of_getElem? (i := 2) rfl)) (fun _ h9 => h9) rfl dX2_removeUppermost_23 ?_
      refine tc_opt (fun o9 => ?_) (fun j10 o9 => ?_)
      · have hF := tc_on hF o9
        obtain ⟨g11, hF⟩ := tc_ob hF
        refine tc_aastN hx hb hK hW.u hS (hW.own (tc_lv.f (by decide))) 0 rfl g11 dX2_removeUppermost_26 (fun H locs e1 z1 o1 hS => ?_)
        obtain ⟨x12, ex12⟩ : ∃ z : tc_X, z = tc_sr x 0 a1.toNatClampNeg none := ⟨_, rfl⟩
        have hF := tc_lt hF ex12
        have hW : tc_WC D cU cO e0 A E x12 H := by rw [ex12]; exact hW.sU e1 o1
        have g13 : j4 < tc_nb x12 := by rw [ex12]; exact g8
        refine lv_aload_n hx hb dX2_removeUppermost_27 rfl (lv_at hl 0 rfl) ?_
        refine lv_iconst (v := (-1)) hx hb dX2_removeUppermost_28 (by decide) ?_
        refine tc_put (v := .int (-1)) (ty := .int) hx hb hts hinX0 tyX0 tyX0_ok nmX0 hown hK (hW.b g13) hS (hW.own (tc_lv.b g13)) (C := RX0) (T := TX0) (N := 7) rfl 2 (by decide) (hts (.fieldLink RX2 193 "TreadCranes$Barrel" "place" "I") (List.mem_of_getElem? (i := 3) rfl)) (fun _ h9 => h9) rfl (by decide +kernel) rfl rfl (Nat.le_of_ble_eq_true rfl) dX2_removeUppermost_29 (fun H locs e1 z1 o1 hS => ?_)
        obtain ⟨x14, ex14⟩ : ∃ z : tc_X, z = tc_si x12 12 j4 (-1) := ⟨_, rfl⟩
        have hF := tc_lt hF ex14
        have hW : tc_WC D cU cO e0 A E x14 H := by rw [ex14]; exact hW.sB g13 (by decide) (by decide) (by rw [tc_e12]; exact e1) o1
        have g15 : j4 < tc_nb x14 := by rw [ex14]; exact g13
        have h91 := Option.some.inj hF
        refine W.widen (k := 0) (n := 0) (Nat.le_of_ble_eq_true rfl) (Nat.le_of_ble_eq_true rfl) ?_
        exact W.vret hx hb hr (fun t ht hW9 => ⟨⟨rfl, by rw [← h91, ht]; exact hW⟩, tc_F hS ht⟩) hS.2.2 dX2_removeUppermost_32
      · have hF := tc_os hF o9
        obtain ⟨g16, hF⟩ := tc_ob hF
        obtain ⟨g17, hF⟩ := tc_ob hF
        refine tc_aast (r := (RX0, TX0, 7)) hx hb hK hW.u hS (hW.own (tc_lv.f (by decide))) 0 rfl (hW.b g17) rfl g16 dX2_removeUppermost_26 (fun H locs e1 z1 o1 hS => ?_)
        obtain ⟨x18, ex18⟩ : ∃ z : tc_X, z = tc_sr x 0 a1.toNatClampNeg (some j10) := ⟨_, rfl⟩
        have hF := tc_lt hF ex18
        have hW : tc_WC D cU cO e0 A E x18 H := by rw [ex18]; exact hW.sU e1 o1
        have g19 : j4 < tc_nb x18 := by rw [ex18]; exact g8
        have g20 : j10 < tc_nb x18 := by rw [ex18]; exact g17
        refine lv_aload_n hx hb dX2_removeUppermost_27 rfl (lv_at hl 0 rfl) ?_
        refine lv_iconst (v := (-1)) hx hb dX2_removeUppermost_28 (by decide) ?_
        refine tc_put (v := .int (-1)) (ty := .int) hx hb hts hinX0 tyX0 tyX0_ok nmX0 hown hK (hW.b g19) hS (hW.own (tc_lv.b g19)) (C := RX0) (T := TX0) (N := 7) rfl 2 (by decide) (hts (.fieldLink RX2 193 "TreadCranes$Barrel" "place" "I") (List.mem_of_getElem? (i := 3) rfl)) (fun _ h9 => h9) rfl (by decide +kernel) rfl rfl (Nat.le_of_ble_eq_true rfl) dX2_removeUppermost_29 (fun H locs e1 z1 o1 hS => ?_)
        obtain ⟨x21, ex21⟩ : ∃ z : tc_X, z = tc_si x18 12 j4 (-1) := ⟨_, rfl⟩
        have hF := tc_lt hF ex21
        have hW : tc_WC D cU cO e0 A E x21 H := by rw [ex21]; exact hW.sB g19 (by decide) (by decide) (by rw [tc_e12]; exact e1) o1
        have g22 : j4 < tc_nb x21 := by rw [ex21]; exact g19
        have g23 : j10 < tc_nb x21 := by rw [ex21]; exact g20
        have h91 := Option.some.inj hF
        refine W.widen (k := 0) (n := 0) (Nat.le_of_ble_eq_true rfl) (Nat.le_of_ble_eq_true rfl) ?_
        exact W.vret hx hb hr (fun t ht hW9 => ⟨⟨rfl, by rw [← h91, ht]; exact hW⟩, tc_F hS ht⟩) hS.2.2 dX2_removeUppermost_32

def f_X2_man (x : tc_X) (a1 : Int32) (a2 : Int32) : Option (Nat × Int32 × tc_X) := Option.bind (f_X2_requireCrane x a1) (fun k1 => (if k1 = 0 then Option.bind (f_X2_requireWalkers x a2) (fun k4 => (if k4 = 0 then (if ¬ a1 < 0 ∧ a1.toNatClampNeg < tc_nc x then tc_let a1.toNatClampNeg (fun b8 => tc_let (x.1 23 b8) (fun v10 => tc_let (tc_si x 23 b8 a2) (fun x11 => some (0, v10, x11)))) else none) else some (k4, 0, x))) else some (k1, 0, x)))
set_option maxHeartbeats 4000000 in
set_option maxRecDepth 100000 in
theorem mt_X2_man (l : Launch) (hst : l.stackTraces = false) (D : va_G) (cU cO cI : ClassId) (e0 : Nat) (A : Nat → Prop) (E : Nat → Nat) (x : tc_X) (a1 : Int32) (a2 : Int32) (k : Nat) (r : Int32) (z : tc_X) (hF : f_X2_man x a1 a2 = some (k, r, z)) : vx_Met l yX2_man wsX2_man ({ frames := 7, cells := 2, slots := 12, locals := 103 } : Room) (va_Pc [.ref (E 0), .int a1, .int a2] (fun U => tc_WC D cU cO e0 A E x U.heap ∧ tc_KX D cU cO cI e0 A U)) (tc_Qx k (some (.int r)) (tc_WC D cU cO e0 A E z) A) (tc_XC k (tc_WC D cU cO e0 A E x) A) 2 12 A := by
  refine vx_ofW (cc := cX2_man) (maxL := 5) (ret := (some .int)) (by decide) rfl ?_
  intro p e s m args below meth c s₁ B hml hno hv
  obtain ⟨rfl, hW, hKX⟩ := hv
  have hx := B.exec
  have hb := B.bytes
  have hr := B.returns
  have hts := atoms_spec (ws := wsX2_man) B.pre
  have hown : s.vm.findClass RX2 = some m.cls := findClass_of_methodNamed B.named
  have hlocks := B.notSynchronized
  have hKC := hKX.1
  have hK := hKC.1
  have hA := hKX.2.1
  have hinX1 : ∀ w ∈ wsX10, w ∈ wsX2_man := fun w9 h9 => List.mem_cons_of_mem _ (List.mem_append_left _ (List.mem_append_left _ (List.mem_append_left _ (List.mem_append_right _ h9))))
  have hinX2 : ∀ w ∈ wsX20, w ∈ wsX2_man := fun w9 h9 => List.mem_cons_of_mem _ (List.mem_append_left _ (List.mem_append_left _ (List.mem_append_left _ (List.mem_append_left _ (List.mem_append_right _ h9)))))
  have hS : va_S A s.heap s.heap [] := va_S.rf
  have hl := lv_entry ([.ref (E 0), .int a1, .int a2]) (n := 5) (Nat.le_of_ble_eq_true rfl)
  rw [lg_entry_eq]
  generalize (lg_sl ([.ref (E 0), .int a1, .int a2]) ++ List.replicate (5 - (lg_sl ([.ref (E 0), .int a1, .int a2])).length) Slot.unset).toArray = ls at hl ⊢
  have hl : lv_has ls 5 [(0, .ref (E 0)), (1, .int a1), (2, .int a2)] := hl
  refine lv_aload_n hx hb dX2_man_0 rfl (lv_at hl 0 rfl) ?_
  refine lv_iload_n hx hb dX2_man_1 rfl (lv_at hl 1 rfl) ?_
  obtain ⟨k1, h2, hF⟩ := tc_bi hF
  refine tc_cxv (vx_runV (As := [.int a1]) (rest := []) ⟨hx, hb, hml, hown, hts⟩ (mt_X2_requireCrane l hst D cU cO cI e0 A E x a1 k1 h2) (cwV 1 hts gX2_man_X2_requireCrane rfl rfl rfl (by decide +kernel) ⟨Nat.le_of_ble_eq_true rfl, Nat.le_of_ble_eq_true rfl⟩) ⟨fun a U g mk q => ⟨q.1, q.2.1, q.2.2.call⟩, tc_rcv (hW.o) hK rfl, fun U hU hW9 => ⟨rfl, by rw [hU]; exact hW, hKX.go hS hU hW9⟩⟩ rfl rfl hl.1 rfl (lv_room (Nat.le_of_ble_eq_true rfl)) dX2_man_2 ⟨Nat.le_of_ble_eq_true rfl, Nat.le_of_ble_eq_true rfl⟩) hS (fun _ _ h => h) (fun _ h => h) (fun _ _ h => h) (fun ce q9 H locs c3 hW z1 o1 hS hce hcv hcl => ?_) (fun H locs c3 hW z1 o1 hS => ?_)
  · have hF := tc_if hF c3
    obtain ⟨h91, h92, h93⟩ := tc_pr3 (Option.some.inj hF)
    exact vx_out (fun z9 h9 => (hno z9 h9).elim) hlocks hce hcv hcl (fun t ht hal => ⟨⟨h91 ▸ c3, by rw [h91], by rw [ht]; exact hW⟩, tc_F hS ht⟩) hS.2.2 (Nat.le_of_ble_eq_true rfl) (Nat.le_of_ble_eq_true rfl)
  · have hF := tc_it hF c3
    refine lv_iload_n hx hb dX2_man_5 rfl (lv_at hl 2 rfl) ?_
    obtain ⟨k4, h5, hF⟩ := tc_bi hF
    refine tc_cxv (vx_runS (As := [.int a2]) (rest := []) ⟨hx, hb, hml, hown, hts⟩ (mt_X2_requireWalkers l hst D cU cO cI e0 A E x a2 k4 h5) (va_cwS 1 hts gX2_man_X2_requireWalkers rfl rfl rfl (by decide +kernel) ⟨Nat.le_of_ble_eq_true rfl, Nat.le_of_ble_eq_true rfl⟩) ⟨fun a U g mk q => ⟨q.1, q.2.1, q.2.2.call⟩, fun U hU hW9 => ⟨rfl, by rw [hU]; exact hW, hKX.go hS hU hW9⟩⟩ rfl rfl hl.1 rfl (lv_room (Nat.le_of_ble_eq_true rfl)) dX2_man_6 ⟨Nat.le_of_ble_eq_true rfl, Nat.le_of_ble_eq_true rfl⟩) hS (fun _ _ h => h) (fun _ h => h) (fun _ _ h => h) (fun ce q9 H locs c6 hW z1 o1 hS hce hcv hcl => ?_) (fun H locs c6 hW z1 o1 hS => ?_)
    · have hF := tc_if hF c6
      obtain ⟨h91, h92, h93⟩ := tc_pr3 (Option.some.inj hF)
      exact vx_out (fun z9 h9 => (hno z9 h9).elim) hlocks hce hcv hcl (fun t ht hal => ⟨⟨h91 ▸ c6, by rw [h91], by rw [ht]; exact hW⟩, tc_F hS ht⟩) hS.2.2 (Nat.le_of_ble_eq_true rfl) (Nat.le_of_ble_eq_true rfl)
    · have hF := tc_it hF c6
      refine lv_aload_n hx hb dX2_man_9 rfl (lv_at hl 0 rfl) ?_
      refine tc_get (v := .ref (E 3)) hx hb hts hinX2 hown hK (hW.o) (C := RX2) (T := TX2) (N := 4) rfl 2 (by decide) (hts (.fieldLink RX2 22 "TreadCranes" "cranes" "Ljava/util/ArrayList;") (List.mem_of_getElem? (i := 1) rfl)) (fun _ h9 => h9) rfl dX2_man_10 ?_
      refine lv_iload_n hx hb dX2_man_13 rfl (lv_at hl 1 rfl) ?_
      obtain ⟨g7, hF⟩ := tc_ob hF
      obtain ⟨b8, eb8⟩ : ∃ z : Nat, z = a1.toNatClampNeg := ⟨_, rfl⟩
      have hF := tc_lt hF eb8
      have g9 : b8 < tc_nc x := by rw [eb8]; exact g7.2
      obtain ⟨mo, cap, fl, ha1, ha2, ha3, ha4, ha5⟩ := tc_Li.full hW.2.2.2.1 (Nat.lt_of_le_of_lt (Nat.zero_le _) g7.2)
      refine tc_cr (W.runV (As := [.int a1]) (rest := []) ⟨hx, hb, hml, hown, hts⟩ (mt_lget l D cO (E 3) mo (E 5) (tc_nc x) cap fl a1 (E (46 + b8)) g7 ha3 ha4 (by rw [eb8]; exact ha5 _ g7.2)) (cwV 1 hts gX2_man_Jx4a65c_get_915e3 rfl rfl rfl (by decide +kernel) ⟨Nat.le_of_ble_eq_true rfl, Nat.le_of_ble_eq_true rfl⟩) ⟨fun a U g mk q => ⟨q.1, q.2.1, q.2.2.1, va_K.moved (Vm.Alike.refl U.vm) q.2.2.2⟩, tc_rcv ha1 hK rfl, fun U hU hW9 => ⟨rfl, by rw [hU]; exact ha1, by rw [hU]; exact ha2, va_K.moved hW9.alike (hK.sub [1] rfl)⟩⟩ rfl rfl hl.1 rfl (lv_room (Nat.le_of_ble_eq_true rfl)) dX2_man_14 ⟨Nat.le_of_ble_eq_true rfl, Nat.le_of_ble_eq_true rfl⟩) ?_
      refine va_castS hx hb hown (hts (.classLink RX2 81 "TreadCranes$Crane") (List.mem_of_getElem? (i := 2) rfl)) ((hK.1 2 _ rfl).2) (tc_rcv (hW.c g9) hK rfl) dX2_man_17 ?_
      refine lv_astore_n (lv' := [(3, .ref (E (46 + b8))), (0, .ref (E 0)), (1, .int a1), (2, .int a2)]) hx hb dX2_man_20 rfl hl (by decide) rfl (fun ls hl => ?_)
      refine lv_aload_n hx hb dX2_man_21 rfl (lv_at hl 0 rfl) ?_
      refine tc_get (v := .int (x.1 23 b8)) hx hb hts hinX1 hown hK (hW.c g9) (C := RX1) (T := TX1) (N := 8) rfl 3 (by decide) (hts (.fieldLink RX2 93 "TreadCranes$Crane" "walkers" "I") (List.mem_of_getElem? (i := 3) rfl)) (fun _ h9 => h9) rfl dX2_man_22 ?_
      refine lv_topi (fun v10 ev10 => ?_)
      have hF := tc_lt hF ev10
      refine lv_istore (lv' := [(4, .int v10), (3, .ref (E (46 + b8))), (0, .ref (E 0)), (1, .int a1), (2, .int a2)]) hx hb dX2_man_25 hl (by decide) rfl (fun ls hl => ?_)
      refine lv_aload_n hx hb dX2_man_27 rfl (lv_at hl 1 rfl) ?_
      refine lv_iload_n hx hb dX2_man_28 rfl (lv_at hl 4 rfl) ?_
      refine tc_put (v := .int a2) (ty := .int) hx hb hts hinX1 tyX1 tyX1_ok nmX1 hown hK (hW.c g9) hS (hW.own (tc_lv.c g9)) (C := RX1) (T := TX1) (N := 8) rfl 3 (by decide) (hts (.fieldLink RX2 93 "TreadCranes$Crane" "walkers" "I") (List.mem_of_getElem? (i := 3) rfl)) (fun _ h9 => h9) rfl (by decide +kernel) rfl rfl (Nat.le_of_ble_eq_true rfl) dX2_man_29 (fun H locs e1 z1 o1 hS => ?_)
      obtain ⟨x11, ex11⟩ : ∃ z : tc_X, z = tc_si x 23 b8 a2 := ⟨_, rfl⟩
      have hF := tc_lt hF ex11
      have hW : tc_WC D cU cO e0 A E x11 H := by rw [ex11]; exact hW.sC g9 (by decide) (by decide) (by rw [tc_e23]; exact e1) o1
      have g12 : b8 < tc_nc x11 := by rw [ex11]; exact g9
      refine lv_iload hx hb dX2_man_32 (lv_at hl 0 rfl) ?_
      obtain ⟨h91, h92, h93⟩ := tc_pr3 (Option.some.inj hF)
      refine W.widen (k := 2) (n := 12) (Nat.le_of_ble_eq_true rfl) (Nat.le_of_ble_eq_true rfl) ?_
      refine vx_ret ?_
      exact W.iret hx hb hr (fun t ht hW9 => ⟨⟨h91.symm, by rw [← h92], by rw [← h93, ht]; exact hW⟩, tc_F hS ht⟩) hS.2.2 dX2_man_34

def f_X2_mend (x : tc_X) (a1 : Int32) : Option (Nat × Int32 × tc_X) := Option.bind (f_X2_requireCrane x a1) (fun k1 => (if k1 = 0 then (if ¬ a1 < 0 ∧ a1.toNatClampNeg < tc_nc x then tc_let a1.toNatClampNeg (fun b5 => tc_let (x.1 24 b5) (fun v7 => tc_let (tc_si x 24 b5 0) (fun x8 => some (0, v7, x8)))) else none) else some (k1, 0, x)))
set_option maxHeartbeats 4000000 in
set_option maxRecDepth 100000 in
theorem mt_X2_mend (l : Launch) (hst : l.stackTraces = false) (D : va_G) (cU cO cI : ClassId) (e0 : Nat) (A : Nat → Prop) (E : Nat → Nat) (x : tc_X) (a1 : Int32) (k : Nat) (r : Int32) (z : tc_X) (hF : f_X2_mend x a1 = some (k, r, z)) : vx_Met l yX2_mend wsX2_mend ({ frames := 7, cells := 1, slots := 6, locals := 103 } : Room) (va_Pc [.ref (E 0), .int a1] (fun U => tc_WC D cU cO e0 A E x U.heap ∧ tc_KX D cU cO cI e0 A U)) (tc_Qx k (some (.int r)) (tc_WC D cU cO e0 A E z) A) (tc_XC k (tc_WC D cU cO e0 A E x) A) 1 6 A := by
  refine vx_ofW (cc := cX2_mend) (maxL := 4) (ret := (some .int)) (by decide) rfl ?_
  intro p e s m args below meth c s₁ B hml hno hv
  obtain ⟨rfl, hW, hKX⟩ := hv
  have hx := B.exec
  have hb := B.bytes
  have hr := B.returns
  have hts := atoms_spec (ws := wsX2_mend) B.pre
  have hown : s.vm.findClass RX2 = some m.cls := findClass_of_methodNamed B.named
  have hlocks := B.notSynchronized
  have hKC := hKX.1
  have hK := hKC.1
  have hA := hKX.2.1
  have hinX1 : ∀ w ∈ wsX10, w ∈ wsX2_mend := fun w9 h9 => List.mem_cons_of_mem _ (List.mem_append_left _ (List.mem_append_left _ (List.mem_append_right _ h9)))
  have hinX2 : ∀ w ∈ wsX20, w ∈ wsX2_mend := fun w9 h9 => List.mem_cons_of_mem _ (List.mem_append_left _ (List.mem_append_left _ (List.mem_append_left _ (List.mem_append_right _ h9))))
  have hS : va_S A s.heap s.heap [] := va_S.rf
  have hl := lv_entry ([.ref (E 0), .int a1]) (n := 4) (Nat.le_of_ble_eq_true rfl)
  rw [lg_entry_eq]
  generalize (lg_sl ([.ref (E 0), .int a1]) ++ List.replicate (4 - (lg_sl ([.ref (E 0), .int a1])).length) Slot.unset).toArray = ls at hl ⊢
  have hl : lv_has ls 4 [(0, .ref (E 0)), (1, .int a1)] := hl
  refine lv_aload_n hx hb dX2_mend_0 rfl (lv_at hl 0 rfl) ?_
  refine lv_iload_n hx hb dX2_mend_1 rfl (lv_at hl 1 rfl) ?_
  obtain ⟨k1, h2, hF⟩ := tc_bi hF
  refine tc_cxv (vx_runV (As := [.int a1]) (rest := []) ⟨hx, hb, hml, hown, hts⟩ (mt_X2_requireCrane l hst D cU cO cI e0 A E x a1 k1 h2) (cwV 1 hts gX2_mend_X2_requireCrane rfl rfl rfl (by decide +kernel) ⟨Nat.le_of_ble_eq_true rfl, Nat.le_of_ble_eq_true rfl⟩) ⟨fun a U g mk q => ⟨q.1, q.2.1, q.2.2.call⟩, tc_rcv (hW.o) hK rfl, fun U hU hW9 => ⟨rfl, by rw [hU]; exact hW, hKX.go hS hU hW9⟩⟩ rfl rfl hl.1 rfl (lv_room (Nat.le_of_ble_eq_true rfl)) dX2_mend_2 ⟨Nat.le_of_ble_eq_true rfl, Nat.le_of_ble_eq_true rfl⟩) hS (fun _ _ h => h) (fun _ h => h) (fun _ _ h => h) (fun ce q9 H locs c3 hW z1 o1 hS hce hcv hcl => ?_) (fun H locs c3 hW z1 o1 hS => ?_)
  · have hF := tc_if hF c3
    obtain ⟨h91, h92, h93⟩ := tc_pr3 (Option.some.inj hF)
    exact vx_out (fun z9 h9 => (hno z9 h9).elim) hlocks hce hcv hcl (fun t ht hal => ⟨⟨h91 ▸ c3, by rw [h91], by rw [ht]; exact hW⟩, tc_F hS ht⟩) hS.2.2 (Nat.le_of_ble_eq_true rfl) (Nat.le_of_ble_eq_true rfl)
  · have hF := tc_it hF c3
    refine lv_aload_n hx hb dX2_mend_5 rfl (lv_at hl 0 rfl) ?_
    refine tc_get (v := .ref (E 3)) hx hb hts hinX2 hown hK (hW.o) (C := RX2) (T := TX2) (N := 4) rfl 2 (by decide) (hts (.fieldLink RX2 22 "TreadCranes" "cranes" "Ljava/util/ArrayList;") (List.mem_of_getElem? (i := 1) rfl)) (fun _ h9 => h9) rfl dX2_mend_6 ?_
    refine lv_iload_n hx hb dX2_mend_9 rfl (lv_at hl 1 rfl) ?_
    obtain ⟨g4, hF⟩ := tc_ob hF
    obtain ⟨b5, eb5⟩ : ∃ z : Nat, z = a1.toNatClampNeg := ⟨_, rfl⟩
    have hF := tc_lt hF eb5
    have g6 : b5 < tc_nc x := by rw [eb5]; exact g4.2
    obtain ⟨mo, cap, fl, ha1, ha2, ha3, ha4, ha5⟩ := tc_Li.full hW.2.2.2.1 (Nat.lt_of_le_of_lt (Nat.zero_le _) g4.2)
    refine tc_cr (W.runV (As := [.int a1]) (rest := []) ⟨hx, hb, hml, hown, hts⟩ (mt_lget l D cO (E 3) mo (E 5) (tc_nc x) cap fl a1 (E (46 + b5)) g4 ha3 ha4 (by rw [eb5]; exact ha5 _ g4.2)) (cwV 1 hts gX2_mend_Jx4a65c_get_915e3 rfl rfl rfl (by decide +kernel) ⟨Nat.le_of_ble_eq_true rfl, Nat.le_of_ble_eq_true rfl⟩) ⟨fun a U g mk q => ⟨q.1, q.2.1, q.2.2.1, va_K.moved (Vm.Alike.refl U.vm) q.2.2.2⟩, tc_rcv ha1 hK rfl, fun U hU hW9 => ⟨rfl, by rw [hU]; exact ha1, by rw [hU]; exact ha2, va_K.moved hW9.alike (hK.sub [1] rfl)⟩⟩ rfl rfl hl.1 rfl (lv_room (Nat.le_of_ble_eq_true rfl)) dX2_mend_10 ⟨Nat.le_of_ble_eq_true rfl, Nat.le_of_ble_eq_true rfl⟩) ?_
    refine va_castS hx hb hown (hts (.classLink RX2 81 "TreadCranes$Crane") (List.mem_of_getElem? (i := 2) rfl)) ((hK.1 2 _ rfl).2) (tc_rcv (hW.c g6) hK rfl) dX2_mend_13 ?_
    refine lv_astore_n (lv' := [(2, .ref (E (46 + b5))), (0, .ref (E 0)), (1, .int a1)]) hx hb dX2_mend_16 rfl hl (by decide) rfl (fun ls hl => ?_)
    refine lv_aload_n hx hb dX2_mend_17 rfl (lv_at hl 0 rfl) ?_
    refine tc_get (v := .int (x.1 24 b5)) hx hb hts hinX1 hown hK (hW.c g6) (C := RX1) (T := TX1) (N := 8) rfl 4 (by decide) (hts (.fieldLink RX2 96 "TreadCranes$Crane" "worn" "I") (List.mem_of_getElem? (i := 3) rfl)) (fun _ h9 => h9) rfl dX2_mend_18 ?_
    refine lv_topi (fun v7 ev7 => ?_)
    have hF := tc_lt hF ev7
    refine lv_istore_n (lv' := [(3, .int v7), (2, .ref (E (46 + b5))), (0, .ref (E 0)), (1, .int a1)]) hx hb dX2_mend_21 rfl hl (by decide) rfl (fun ls hl => ?_)
    refine lv_aload_n hx hb dX2_mend_22 rfl (lv_at hl 1 rfl) ?_
    refine lv_iconst (v := 0) hx hb dX2_mend_23 (by decide) ?_
    refine tc_put (v := .int 0) (ty := .int) hx hb hts hinX1 tyX1 tyX1_ok nmX1 hown hK (hW.c g6) hS (hW.own (tc_lv.c g6)) (C := RX1) (T := TX1) (N := 8) rfl 4 (by decide) (hts (.fieldLink RX2 96 "TreadCranes$Crane" "worn" "I") (List.mem_of_getElem? (i := 3) rfl)) (fun _ h9 => h9) rfl (by decide +kernel) rfl rfl (Nat.le_of_ble_eq_true rfl) dX2_mend_24 (fun H locs e1 z1 o1 hS => ?_)
    obtain ⟨x8, ex8⟩ : ∃ z : tc_X, z = tc_si x 24 b5 0 := ⟨_, rfl⟩
    have hF := tc_lt hF ex8
    have hW : tc_WC D cU cO e0 A E x8 H := by rw [ex8]; exact hW.sC g6 (by decide) (by decide) (by rw [tc_e24]; exact e1) o1
    have g9 : b5 < tc_nc x8 := by rw [ex8]; exact g6
    refine lv_iload_n hx hb dX2_mend_27 rfl (lv_at hl 0 rfl) ?_
    obtain ⟨h91, h92, h93⟩ := tc_pr3 (Option.some.inj hF)
    refine W.widen (k := 1) (n := 6) (Nat.le_of_ble_eq_true rfl) (Nat.le_of_ble_eq_true rfl) ?_
    refine vx_ret ?_
    exact W.iret hx hb hr (fun t ht hW9 => ⟨⟨h91.symm, by rw [← h92], by rw [← h93, ht]; exact hW⟩, tc_F hS ht⟩) hS.2.2 dX2_mend_28

def f_X2_turn (x : tc_X) (a1 : Int32) (a2 : Int32) : Option (Nat × Int32 × tc_X) := Option.bind (f_X2_requireCrane x a1) (fun k1 => (if k1 = 0 then Option.bind (f_X2_requirePlace x a2) (fun k4 => (if k4 = 0 then (if ¬ a1 < 0 ∧ a1.toNatClampNeg < tc_nc x then tc_let a1.toNatClampNeg (fun b8 => Option.bind (f_X1_reaches x b8 a2) (fun r10 => (if r10 = 0 then some (3, 0, x) else Option.bind (f_X2_highestBetween x (x.1 25 b8) a2) (fun r13 => Option.bind (f_X1_lowestHook x b8 r13) (fun r15 => (if r15 ≤ (x.1 26 b8) then Option.bind (f_X2_distance (x.1 25 b8) a2) (fun r18 => tc_let (tc_si x 25 b8 a2) (fun x20 => tc_let (tc_si x20 0 0 ((x20.1 0 0) + r18)) (fun x22 => some (0, r18, x22)))) else some (3, 0, x))))))) else none) else some (k4, 0, x))) else some (k1, 0, x)))
set_option maxHeartbeats 4000000 in
set_option maxRecDepth 100000 in
theorem mt_X2_turn (l : Launch) (hst : l.stackTraces = false) (D : va_G) (cU cO cI : ClassId) (e0 : Nat) (A : Nat → Prop) (E : Nat → Nat) (x : tc_X) (a1 : Int32) (a2 : Int32) (k : Nat) (r : Int32) (z : tc_X) (hF : f_X2_turn x a1 a2 = some (k, r, z)) : vx_Met l yX2_turn wsX2_turn ({ frames := 7, cells := 3, slots := 18, locals := 109 } : Room) (va_Pc [.ref (E 0), .int a1, .int a2] (fun U => tc_WC D cU cO e0 A E x U.heap ∧ tc_KX D cU cO cI e0 A U)) (tc_Qx k (some (.int r)) (tc_WC D cU cO e0 A E z) A) (tc_XC k (tc_WC D cU cO e0 A E x) A) 3 18 A := by
  refine vx_ofW (cc := cX2_turn) (maxL := 5) (ret := (some .int)) (by decide) rfl ?_
  intro p e s m args below meth c s₁ B hml hno hv
  obtain ⟨rfl, hW, hKX⟩ := hv
  have hx := B.exec
  have hb := B.bytes
  have hr := B.returns
  have hts := atoms_spec (ws := wsX2_turn) B.pre
  have hown : s.vm.findClass RX2 = some m.cls := findClass_of_methodNamed B.named
  have hlocks := B.notSynchronized
  have hKC := hKX.1
  have hK := hKC.1
  have hA := hKX.2.1
  have hinX1 : ∀ w ∈ wsX10, w ∈ wsX2_turn := fun w9 h9 => List.mem_cons_of_mem _ (List.mem_append_left _ (List.mem_append_left _ (List.mem_append_left _ (List.mem_append_left _ (List.mem_append_right _ h9)))))
  have hinX2 : ∀ w ∈ wsX20, w ∈ wsX2_turn := fun w9 h9 => List.mem_cons_of_mem _ (List.mem_append_left _ (List.mem_append_left _ (List.mem_append_left _ (List.mem_append_left _ (List.mem_append_left _ (List.mem_append_right _ h9))))))
  have hS : va_S A s.heap s.heap [] := va_S.rf
  have hl := lv_entry ([.ref (E 0), .int a1, .int a2]) (n := 5) (Nat.le_of_ble_eq_true rfl)
  rw [lg_entry_eq]
  generalize (lg_sl ([.ref (E 0), .int a1, .int a2]) ++ List.replicate (5 - (lg_sl ([.ref (E 0), .int a1, .int a2])).length) Slot.unset).toArray = ls at hl ⊢
  have hl : lv_has ls 5 [(0, .ref (E 0)), (1, .int a1), (2, .int a2)] := hl
  refine lv_aload_n hx hb dX2_turn_0 rfl (lv_at hl 0 rfl) ?_
  refine lv_iload_n hx hb dX2_turn_1 rfl (lv_at hl 1 rfl) ?_
  obtain ⟨k1, h2, hF⟩ := tc_bi hF
  refine tc_cxv (vx_runV (As := [.int a1]) (rest := []) ⟨hx, hb, hml, hown, hts⟩ (mt_X2_requireCrane l hst D cU cO cI e0 A E x a1 k1 h2) (cwV 1 hts gX2_turn_X2_requireCrane rfl rfl rfl (by decide +kernel) ⟨Nat.le_of_ble_eq_true rfl, Nat.le_of_ble_eq_true rfl⟩) ⟨fun a U g mk q => ⟨q.1, q.2.1, q.2.2.call⟩, tc_rcv (hW.o) hK rfl, fun U hU hW9 => ⟨rfl, by rw [hU]; exact hW, hKX.go hS hU hW9⟩⟩ rfl rfl hl.1 rfl (lv_room (Nat.le_of_ble_eq_true rfl)) dX2_turn_2 ⟨Nat.le_of_ble_eq_true rfl, Nat.le_of_ble_eq_true rfl⟩) hS (fun _ _ h => h) (fun _ h => h) (fun _ _ h => h) (fun ce q9 H locs c3 hW z1 o1 hS hce hcv hcl => ?_) (fun H locs c3 hW z1 o1 hS => ?_)
  · have hF := tc_if hF c3
    obtain ⟨h91, h92, h93⟩ := tc_pr3 (Option.some.inj hF)
    exact vx_out (fun z9 h9 => (hno z9 h9).elim) hlocks hce hcv hcl (fun t ht hal => ⟨⟨h91 ▸ c3, by rw [h91], by rw [ht]; exact hW⟩, tc_F hS ht⟩) hS.2.2 (Nat.le_of_ble_eq_true rfl) (Nat.le_of_ble_eq_true rfl)
  · have hF := tc_it hF c3
    refine lv_iload_n hx hb dX2_turn_5 rfl (lv_at hl 2 rfl) ?_
    obtain ⟨k4, h5, hF⟩ := tc_bi hF
    refine tc_cxv (vx_runS (As := [.int a2]) (rest := []) ⟨hx, hb, hml, hown, hts⟩ (mt_X2_requirePlace l hst D cU cO cI e0 A E x a2 k4 h5) (va_cwS 1 hts gX2_turn_X2_requirePlace rfl rfl rfl (by decide +kernel) ⟨Nat.le_of_ble_eq_true rfl, Nat.le_of_ble_eq_true rfl⟩) ⟨fun a U g mk q => ⟨q.1, q.2.1, q.2.2.call⟩, fun U hU hW9 => ⟨rfl, by rw [hU]; exact hW, hKX.go hS hU hW9⟩⟩ rfl rfl hl.1 rfl (lv_room (Nat.le_of_ble_eq_true rfl)) dX2_turn_6 ⟨Nat.le_of_ble_eq_true rfl, Nat.le_of_ble_eq_true rfl⟩) hS (fun _ _ h => h) (fun _ h => h) (fun _ _ h => h) (fun ce q9 H locs c6 hW z1 o1 hS hce hcv hcl => ?_) (fun H locs c6 hW z1 o1 hS => ?_)
    · have hF := tc_if hF c6
      obtain ⟨h91, h92, h93⟩ := tc_pr3 (Option.some.inj hF)
      exact vx_out (fun z9 h9 => (hno z9 h9).elim) hlocks hce hcv hcl (fun t ht hal => ⟨⟨h91 ▸ c6, by rw [h91], by rw [ht]; exact hW⟩, tc_F hS ht⟩) hS.2.2 (Nat.le_of_ble_eq_true rfl) (Nat.le_of_ble_eq_true rfl)
    · have hF := tc_it hF c6
      refine lv_aload_n hx hb dX2_turn_9 rfl (lv_at hl 0 rfl) ?_
      refine tc_get (v := .ref (E 3)) hx hb hts hinX2 hown hK (hW.o) (C := RX2) (T := TX2) (N := 4) rfl 2 (by decide) (hts (.fieldLink RX2 22 "TreadCranes" "cranes" "Ljava/util/ArrayList;") (List.mem_of_getElem? (i := 3) rfl)) (fun _ h9 => h9) rfl dX2_turn_10 ?_
      refine lv_iload_n hx hb dX2_turn_13 rfl (lv_at hl 1 rfl) ?_
      obtain ⟨g7, hF⟩ := tc_ob hF
      obtain ⟨b8, eb8⟩ : ∃ z : Nat, z = a1.toNatClampNeg := ⟨_, rfl⟩
      have hF := tc_lt hF eb8
      have g9 : b8 < tc_nc x := by rw [eb8]; exact g7.2
      obtain ⟨mo, cap, fl, ha1, ha2, ha3, ha4, ha5⟩ := tc_Li.full hW.2.2.2.1 (Nat.lt_of_le_of_lt (Nat.zero_le _) g7.2)
      refine tc_cr (W.runV (As := [.int a1]) (rest := []) ⟨hx, hb, hml, hown, hts⟩ (mt_lget l D cO (E 3) mo (E 5) (tc_nc x) cap fl a1 (E (46 + b8)) g7 ha3 ha4 (by rw [eb8]; exact ha5 _ g7.2)) (cwV 1 hts gX2_turn_Jx4a65c_get_915e3 rfl rfl rfl (by decide +kernel) ⟨Nat.le_of_ble_eq_true rfl, Nat.le_of_ble_eq_true rfl⟩) ⟨fun a U g mk q => ⟨q.1, q.2.1, q.2.2.1, va_K.moved (Vm.Alike.refl U.vm) q.2.2.2⟩, tc_rcv ha1 hK rfl, fun U hU hW9 => ⟨rfl, by rw [hU]; exact ha1, by rw [hU]; exact ha2, va_K.moved hW9.alike (hK.sub [1] rfl)⟩⟩ rfl rfl hl.1 rfl (lv_room (Nat.le_of_ble_eq_true rfl)) dX2_turn_14 ⟨Nat.le_of_ble_eq_true rfl, Nat.le_of_ble_eq_true rfl⟩) ?_
      refine va_castS hx hb hown (hts (.classLink RX2 81 "TreadCranes$Crane") (List.mem_of_getElem? (i := 4) rfl)) ((hK.1 2 _ rfl).2) (tc_rcv (hW.c g9) hK rfl) dX2_turn_17 ?_
      refine lv_astore_n (lv' := [(3, .ref (E (46 + b8))), (0, .ref (E 0)), (1, .int a1), (2, .int a2)]) hx hb dX2_turn_20 rfl hl (by decide) rfl (fun ls hl => ?_)
      refine lv_aload_n hx hb dX2_turn_21 rfl (lv_at hl 0 rfl) ?_
      refine lv_iload_n hx hb dX2_turn_22 rfl (lv_at hl 3 rfl) ?_
      obtain ⟨r10, h11, hF⟩ := tc_bi hF
      refine tc_cr (W.runV (As := [.int a2]) (rest := []) ⟨hx, hb, hml, hown, hts⟩ (mt_X1_reaches l D cU cO cI e0 A E x b8 a2 r10 h11) (cwV 1 hts gX2_turn_X1_reaches rfl rfl rfl (by decide +kernel) ⟨Nat.le_of_ble_eq_true rfl, Nat.le_of_ble_eq_true rfl⟩) ⟨fun a U g mk q => ⟨q.1, q.2.1, q.2.2.call⟩, tc_rcv (hW.c g9) hK rfl, fun U hU hW9 => ⟨rfl, by rw [hU]; exact hW, hKC.warm hW9⟩⟩ rfl rfl hl.1 rfl (lv_room (Nat.le_of_ble_eq_true rfl)) dX2_turn_23 ⟨Nat.le_of_ble_eq_true rfl, Nat.le_of_ble_eq_true rfl⟩) ?_
      refine lv_if_ne (tgt := 39) hx hb dX2_turn_26 (by decide) (fun c12 => ?_) (fun c12 => ?_)
      · have hF := tc_if hF c12
        refine lv_aload_n hx hb dX2_turn_39 rfl (lv_at hl 0 rfl) ?_
        refine tc_get (v := .int (x.1 26 b8)) hx hb hts hinX1 hown hK (hW.c g9) (C := RX1) (T := TX1) (N := 8) rfl 6 (by decide) (hts (.fieldLink RX2 105 "TreadCranes$Crane" "hookHeight" "I") (List.mem_of_getElem? (i := 5) rfl)) (fun _ h9 => h9) rfl dX2_turn_40 ?_
        refine lv_aload_n hx hb dX2_turn_43 rfl (lv_at hl 0 rfl) ?_
        refine lv_aload_n hx hb dX2_turn_44 rfl (lv_at hl 1 rfl) ?_
        refine lv_aload_n hx hb dX2_turn_45 rfl (lv_at hl 0 rfl) ?_
        refine tc_get (v := .int (x.1 25 b8)) hx hb hts hinX1 hown hK (hW.c g9) (C := RX1) (T := TX1) (N := 8) rfl 5 (by decide) (hts (.fieldLink RX2 108 "TreadCranes$Crane" "hookPlace" "I") (List.mem_of_getElem? (i := 6) rfl)) (fun _ h9 => h9) rfl dX2_turn_46 ?_
        refine lv_iload_n hx hb dX2_turn_49 rfl (lv_at hl 3 rfl) ?_
        obtain ⟨r13, h14, hF⟩ := tc_bi hF
        refine tc_cr (W.runV (As := [.int (x.1 25 b8), .int a2]) (rest := [.ref (E (46 + b8)), .int (x.1 26 b8)]) ⟨hx, hb, hml, hown, hts⟩ (mt_X2_highestBetween l D cU cO cI e0 A E x (x.1 25 b8) a2 r13 h14) (cwV 2 hts gX2_turn_X2_highestBetween rfl rfl rfl (by decide +kernel) ⟨Nat.le_of_ble_eq_true rfl, Nat.le_of_ble_eq_true rfl⟩) ⟨fun a U g mk q => ⟨q.1, q.2.1, q.2.2.call⟩, tc_rcv (hW.o) hK rfl, fun U hU hW9 => ⟨rfl, by rw [hU]; exact hW, hKC.warm hW9⟩⟩ rfl rfl hl.1 rfl (lv_room (Nat.le_of_ble_eq_true rfl)) dX2_turn_50 ⟨Nat.le_of_ble_eq_true rfl, Nat.le_of_ble_eq_true rfl⟩) ?_
        obtain ⟨r15, h16, hF⟩ := tc_bi hF
        refine tc_cr (W.runV (As := [.int r13]) (rest := [.int (x.1 26 b8)]) ⟨hx, hb, hml, hown, hts⟩ (mt_X1_lowestHook l D cU cO cI e0 A E x b8 r13 r15 h16) (cwV 1 hts gX2_turn_X1_lowestHook rfl rfl rfl (by decide +kernel) ⟨Nat.le_of_ble_eq_true rfl, Nat.le_of_ble_eq_true rfl⟩) ⟨fun a U g mk q => ⟨q.1, q.2.1, q.2.2.call⟩, tc_rcv (hW.c g9) hK rfl, fun U hU hW9 => ⟨rfl, by rw [hU]; exact hW, hKC.warm hW9⟩⟩ rfl rfl hl.1 rfl (lv_room (Nat.le_of_ble_eq_true rfl)) dX2_turn_53 ⟨Nat.le_of_ble_eq_true rfl, Nat.le_of_ble_eq_true rfl⟩) ?_
        refine lv_icmp_ge (tgt := 69) hx hb dX2_turn_56 (by decide) (fun c17 => ?_) (fun c17 => ?_)
        · have hF := tc_it hF c17
          refine lv_aload_n hx hb dX2_turn_69 rfl (lv_at hl 0 rfl) ?_
          refine tc_get (v := .int (x.1 25 b8)) hx hb hts hinX1 hown hK (hW.c g9) (C := RX1) (T := TX1) (N := 8) rfl 5 (by decide) (hts (.fieldLink RX2 108 "TreadCranes$Crane" "hookPlace" "I") (List.mem_of_getElem? (i := 6) rfl)) (fun _ h9 => h9) rfl dX2_turn_70 ?_
          refine lv_iload_n hx hb dX2_turn_73 rfl (lv_at hl 3 rfl) ?_
          obtain ⟨r18, h19, hF⟩ := tc_bi hF
          refine tc_cr (W.runS (As := [.int (x.1 25 b8), .int a2]) (rest := []) ⟨hx, hb, hml, hown, hts⟩ (mt_X2_distance l   (x.1 25 b8) a2 r18 h19) (va_cwS 2 hts gX2_turn_X2_distance rfl rfl rfl (by decide +kernel) ⟨Nat.le_of_ble_eq_true rfl, Nat.le_of_ble_eq_true rfl⟩) ⟨fun a U g mk q => q, fun U hU hW9 => ⟨rfl, trivial⟩⟩ rfl rfl hl.1 rfl (lv_room (Nat.le_of_ble_eq_true rfl)) dX2_turn_74 ⟨Nat.le_of_ble_eq_true rfl, Nat.le_of_ble_eq_true rfl⟩) ?_
          refine lv_istore (lv' := [(4, .int r18), (3, .ref (E (46 + b8))), (0, .ref (E 0)), (1, .int a1), (2, .int a2)]) hx hb dX2_turn_77 hl (by decide) rfl (fun ls hl => ?_)
          refine lv_aload_n hx hb dX2_turn_79 rfl (lv_at hl 1 rfl) ?_
          refine lv_iload_n hx hb dX2_turn_80 rfl (lv_at hl 4 rfl) ?_
          refine tc_put (v := .int a2) (ty := .int) hx hb hts hinX1 tyX1 tyX1_ok nmX1 hown hK (hW.c g9) hS (hW.own (tc_lv.c g9)) (C := RX1) (T := TX1) (N := 8) rfl 5 (by decide) (hts (.fieldLink RX2 108 "TreadCranes$Crane" "hookPlace" "I") (List.mem_of_getElem? (i := 6) rfl)) (fun _ h9 => h9) rfl (by decide +kernel) rfl rfl (Nat.le_of_ble_eq_true rfl) dX2_turn_81 (fun H locs e1 z1 o1 hS => ?_)
          obtain ⟨x20, ex20⟩ : ∃ z : tc_X, z = tc_si x 25 b8 a2 := ⟨_, rfl⟩
          have hF := tc_lt hF ex20
          have hW : tc_WC D cU cO e0 A E x20 H := by rw [ex20]; exact hW.sC g9 (by decide) (by decide) (by rw [tc_e25]; exact e1) o1
          have g21 : b8 < tc_nc x20 := by rw [ex20]; exact g9
          refine lv_aload_n hx hb dX2_turn_84 rfl (lv_at hl 2 rfl) ?_
          refine lv_dup hx hb dX2_turn_85 rfl ?_
          refine tc_get (v := .int (x20.1 0 0)) hx hb hts hinX2 hown hK (hW.o) (C := RX2) (T := TX2) (N := 4) rfl 3 (by decide) (hts (.fieldLink RX2 123 "TreadCranes" "ticks" "I") (List.mem_of_getElem? (i := 7) rfl)) (fun _ h9 => h9) rfl dX2_turn_86 ?_
          refine lv_iload hx hb dX2_turn_89 (lv_at hl 0 rfl) ?_
          refine lv_iadd hx hb dX2_turn_91 ?_
          refine tc_put (v := .int ((x20.1 0 0) + r18)) (ty := .int) hx hb hts hinX2 tyX2 tyX2_ok nmX2 hown hK (hW.o) hS (hW.own (tc_lv.f (by decide))) (C := RX2) (T := TX2) (N := 4) rfl 3 (by decide) (hts (.fieldLink RX2 123 "TreadCranes" "ticks" "I") (List.mem_of_getElem? (i := 7) rfl)) (fun _ h9 => h9) rfl (by decide +kernel) rfl rfl (Nat.le_of_ble_eq_true rfl) dX2_turn_92 (fun H locs e1 z1 o1 hS => ?_)
          obtain ⟨x22, ex22⟩ : ∃ z : tc_X, z = tc_si x20 0 0 ((x20.1 0 0) + r18) := ⟨_, rfl⟩
          have hF := tc_lt hF ex22
          have hW : tc_WC D cU cO e0 A E x22 H := by rw [ex22]; exact hW.sO e1 o1
          have g23 : b8 < tc_nc x22 := by rw [ex22]; exact g21
          refine lv_iload hx hb dX2_turn_95 (lv_at hl 0 rfl) ?_
          obtain ⟨h91, h92, h93⟩ := tc_pr3 (Option.some.inj hF)
          refine W.widen (k := 3) (n := 18) (Nat.le_of_ble_eq_true rfl) (Nat.le_of_ble_eq_true rfl) ?_
          refine vx_ret ?_
          exact W.iret hx hb hr (fun t ht hW9 => ⟨⟨h91.symm, by rw [← h92], by rw [← h93, ht]; exact hW⟩, tc_F hS ht⟩) hS.2.2 dX2_turn_97
        · have hF := tc_if hF c17
          obtain ⟨h91, h92, h93⟩ := tc_pr3 (Option.some.inj hF)
          obtain ⟨sa, hsa⟩ := hKX.2.2.2.2.2.1 _ (List.mem_of_getElem? (l := tc_tx) (i := 5) rfl)
          exact vx_throwS hx hb hst (names := ["java/lang/RuntimeException", "java/lang/Exception"]) hown tc_fit.2.2.1 tc_fit.2.2.2 (hts (.classLink RX2 40 "java/lang/IllegalStateException") (List.mem_of_getElem? (i := 1) rfl)) (hts (.initialized "java/lang/IllegalStateException") (List.mem_of_getElem? (i := 2) rfl)) hsa (tc_hat (fun w9 h9 => hts w9 (List.mem_cons_of_mem _ (List.mem_append_left _ (List.mem_append_right _ h9)))) tc_n3 hKX.2.2.2.2.2.2.1 hKX.2.2.2.2.2.2.2.2.2.1) tc_o3 hKX.2.2.1 hKX.2.2.2.1 hS (by rw [hml]; exact hl.1) dX2_turn_59 dX2_turn_62 dX2_turn_63 dX2_turn_65 dX2_turn_68 (fun z9 h9 => (hno z9 h9).elim) (by decide) (Nat.le_of_ble_eq_true rfl) (Nat.le_of_ble_eq_true rfl) (Nat.le_of_ble_eq_true rfl) hlocks (h91 ▸ tc_xx (k := 3) (by decide) hS hW) hS.2.2 (Nat.le_of_ble_eq_true rfl) (Nat.le_of_ble_eq_true rfl)
      · have hF := tc_it hF c12
        obtain ⟨h91, h92, h93⟩ := tc_pr3 (Option.some.inj hF)
        obtain ⟨sa, hsa⟩ := hKX.2.2.2.2.2.1 _ (List.mem_of_getElem? (l := tc_tx) (i := 4) rfl)
        exact vx_throwS hx hb hst (names := ["java/lang/RuntimeException", "java/lang/Exception"]) hown tc_fit.2.2.1 tc_fit.2.2.2 (hts (.classLink RX2 40 "java/lang/IllegalStateException") (List.mem_of_getElem? (i := 1) rfl)) (hts (.initialized "java/lang/IllegalStateException") (List.mem_of_getElem? (i := 2) rfl)) hsa (tc_hat (fun w9 h9 => hts w9 (List.mem_cons_of_mem _ (List.mem_append_left _ (List.mem_append_right _ h9)))) tc_n3 hKX.2.2.2.2.2.2.1 hKX.2.2.2.2.2.2.2.2.2.1) tc_o3 hKX.2.2.1 hKX.2.2.2.1 hS (by rw [hml]; exact hl.1) dX2_turn_29 dX2_turn_32 dX2_turn_33 dX2_turn_35 dX2_turn_38 (fun z9 h9 => (hno z9 h9).elim) (by decide) (Nat.le_of_ble_eq_true rfl) (Nat.le_of_ble_eq_true rfl) (Nat.le_of_ble_eq_true rfl) hlocks (h91 ▸ tc_xx (k := 3) (by decide) hS hW) hS.2.2 (Nat.le_of_ble_eq_true rfl) (Nat.le_of_ble_eq_true rfl)

def f_X2_hoist (x : tc_X) (a1 : Int32) (a2 : Int32) : Option (Nat × Int32 × tc_X) := Option.bind (f_X2_requireCrane x a1) (fun k1 => (if k1 = 0 then Option.bind (f_X2_isBetween a2 0 20) (fun r4 => (if r4 = 0 then some (2, 0, x) else (if ¬ a1 < 0 ∧ a1.toNatClampNeg < tc_nc x then tc_let a1.toNatClampNeg (fun b8 => Option.bind (f_X2_heightOf x (x.1 25 b8)) (fun r10 => Option.bind (f_X1_lowestHook x b8 r10) (fun r12 => (if r12 ≤ a2 then (tc_oc (x.2.1 2 b8) (if a2 ≤ (x.1 26 b8) then (if (x.1 26 b8) ≤ a2 then tc_b2 (f_X2_raiseHook x b8 a2) (fun r19 x20 => some (0, r19, x20)) else tc_b2 (f_X2_lowerHook x b8 a2) (fun r22 x23 => some (0, r22, x23))) else (if (x.1 26 b8) ≤ a2 then tc_b2 (f_X2_raiseHook x b8 a2) (fun r26 x27 => some (0, r26, x27)) else tc_b2 (f_X2_lowerHook x b8 a2) (fun r29 x30 => some (0, r29, x30)))) (fun j16 => (if a2 ≤ (x.1 26 b8) then (if (x.1 26 b8) ≤ a2 then tc_b2 (f_X2_raiseHook x b8 a2) (fun r34 x35 => some (0, r34, x35)) else tc_b2 (f_X2_lowerHook x b8 a2) (fun r37 x38 => some (0, r37, x38))) else (if j16 < tc_nb x then Option.bind (f_X1_canLift x b8 (x.1 11 j16)) (fun r41 => (if r41 = 0 then some (3, 0, x) else (if (x.1 26 b8) ≤ a2 then tc_b2 (f_X2_raiseHook x b8 a2) (fun r45 x46 => some (0, r45, x46)) else tc_b2 (f_X2_lowerHook x b8 a2) (fun r48 x49 => some (0, r48, x49))))) else none)))) else some (3, 0, x))))) else none))) else some (k1, 0, x)))
set_option maxHeartbeats 4000000 in
set_option maxRecDepth 100000 in
theorem mt_X2_hoist (l : Launch) (hst : l.stackTraces = false) (D : va_G) (cU cO cI : ClassId) (e0 : Nat) (A : Nat → Prop) (E : Nat → Nat) (x : tc_X) (a1 : Int32) (a2 : Int32) (k : Nat) (r : Int32) (z : tc_X) (hF : f_X2_hoist x a1 a2 = some (k, r, z)) : vx_Met l yX2_hoist wsX2_hoist ({ frames := 7, cells := 2, slots := 12, locals := 103 } : Room) (va_Pc [.ref (E 0), .int a1, .int a2] (fun U => tc_WC D cU cO e0 A E x U.heap ∧ tc_KX D cU cO cI e0 A U)) (tc_Qx k (some (.int r)) (tc_WC D cU cO e0 A E z) A) (tc_XC k (tc_WC D cU cO e0 A E x) A) 2 12 A := by
  refine vx_ofW (cc := cX2_hoist) (maxL := 5) (ret := (some .int)) (by decide) rfl ?_
  intro p e s m args below meth c s₁ B hml hno hv
  obtain ⟨rfl, hW, hKX⟩ := hv
  have hx := B.exec
  have hb := B.bytes
  have hr := B.returns
  have hts := atoms_spec (ws := wsX2_hoist) B.pre
  have hown : s.vm.findClass RX2 = some m.cls := findClass_of_methodNamed B.named
  have hlocks := B.notSynchronized
  have hKC := hKX.1
  have hK := hKC.1
  have hA := hKX.2.1
  have hinX0 : ∀ w ∈ wsX00, w ∈ wsX2_hoist := fun w9 h9 => List.mem_cons_of_mem _ (List.mem_append_left _ (List.mem_append_left _ (List.mem_append_left _ (List.mem_append_left _ (List.mem_append_right _ h9)))))
  have hinX1 : ∀ w ∈ wsX10, w ∈ wsX2_hoist := fun w9 h9 => List.mem_cons_of_mem _ (List.mem_append_left _ (List.mem_append_left _ (List.mem_append_left _ (List.mem_append_left _ (List.mem_append_left _ (List.mem_append_right _ h9))))))
  have hinX2 : ∀ w ∈ wsX20, w ∈ wsX2_hoist := fun w9 h9 => List.mem_cons_of_mem _ (List.mem_append_left _ (List.mem_append_left _ (List.mem_append_left _ (List.mem_append_left _ (List.mem_append_left _ (List.mem_append_left _ (List.mem_append_right _ h9)))))))
  have hS : va_S A s.heap s.heap [] := va_S.rf
  have hl := lv_entry ([.ref (E 0), .int a1, .int a2]) (n := 5) (Nat.le_of_ble_eq_true rfl)
  rw [lg_entry_eq]
  generalize (lg_sl ([.ref (E 0), .int a1, .int a2]) ++ List.replicate (5 - (lg_sl ([.ref (E 0), .int a1, .int a2])).length) Slot.unset).toArray = ls at hl ⊢
  have hl : lv_has ls 5 [(0, .ref (E 0)), (1, .int a1), (2, .int a2)] := hl
  refine lv_aload_n hx hb dX2_hoist_0 rfl (lv_at hl 0 rfl) ?_
  refine lv_iload_n hx hb dX2_hoist_1 rfl (lv_at hl 1 rfl) ?_
  obtain ⟨k1, h2, hF⟩ := tc_bi hF
  refine tc_cxv (vx_runV (As := [.int a1]) (rest := []) ⟨hx, hb, hml, hown, hts⟩ (mt_X2_requireCrane l hst D cU cO cI e0 A E x a1 k1 h2) (cwV 1 hts gX2_hoist_X2_requireCrane rfl rfl rfl (by decide +kernel) ⟨Nat.le_of_ble_eq_true rfl, Nat.le_of_ble_eq_true rfl⟩) ⟨fun a U g mk q => ⟨q.1, q.2.1, q.2.2.call⟩, tc_rcv (hW.o) hK rfl, fun U hU hW9 => ⟨rfl, by rw [hU]; exact hW, hKX.go hS hU hW9⟩⟩ rfl rfl hl.1 rfl (lv_room (Nat.le_of_ble_eq_true rfl)) dX2_hoist_2 ⟨Nat.le_of_ble_eq_true rfl, Nat.le_of_ble_eq_true rfl⟩) hS (fun _ _ h => h) (fun _ h => h) (fun _ _ h => h) (fun ce q9 H locs c3 hW z1 o1 hS hce hcv hcl => ?_) (fun H locs c3 hW z1 o1 hS => ?_)
  · have hF := tc_if hF c3
    obtain ⟨h91, h92, h93⟩ := tc_pr3 (Option.some.inj hF)
    exact vx_out (fun z9 h9 => (hno z9 h9).elim) hlocks hce hcv hcl (fun t ht hal => ⟨⟨h91 ▸ c3, by rw [h91], by rw [ht]; exact hW⟩, tc_F hS ht⟩) hS.2.2 (Nat.le_of_ble_eq_true rfl) (Nat.le_of_ble_eq_true rfl)
  · have hF := tc_it hF c3
    refine lv_iload_n hx hb dX2_hoist_5 rfl (lv_at hl 2 rfl) ?_
    refine lv_iconst (v := 0) hx hb dX2_hoist_6 (by decide) ?_
    refine lv_bipush (v := 20) hx hb dX2_hoist_7 (by decide) ?_
    obtain ⟨r4, h5, hF⟩ := tc_bi hF
    refine tc_cr (W.runS (As := [.int a2, .int 0, .int 20]) (rest := []) ⟨hx, hb, hml, hown, hts⟩ (mt_X2_isBetween l   a2 0 20 r4 h5) (va_cwS 3 hts gX2_hoist_X2_isBetween rfl rfl rfl (by decide +kernel) ⟨Nat.le_of_ble_eq_true rfl, Nat.le_of_ble_eq_true rfl⟩) ⟨fun a U g mk q => q, fun U hU hW9 => ⟨rfl, trivial⟩⟩ rfl rfl hl.1 rfl (lv_room (Nat.le_of_ble_eq_true rfl)) dX2_hoist_9 ⟨Nat.le_of_ble_eq_true rfl, Nat.le_of_ble_eq_true rfl⟩) ?_
    refine lv_if_ne (tgt := 25) hx hb dX2_hoist_12 (by decide) (fun c6 => ?_) (fun c6 => ?_)
    · have hF := tc_if hF c6
      refine lv_aload_n hx hb dX2_hoist_25 rfl (lv_at hl 0 rfl) ?_
      refine tc_get (v := .ref (E 3)) hx hb hts hinX2 hown hK (hW.o) (C := RX2) (T := TX2) (N := 4) rfl 2 (by decide) (hts (.fieldLink RX2 22 "TreadCranes" "cranes" "Ljava/util/ArrayList;") (List.mem_of_getElem? (i := 5) rfl)) (fun _ h9 => h9) rfl dX2_hoist_26 ?_
      refine lv_iload_n hx hb dX2_hoist_29 rfl (lv_at hl 1 rfl) ?_
      obtain ⟨g7, hF⟩ := tc_ob hF
      obtain ⟨b8, eb8⟩ : ∃ z : Nat, z = a1.toNatClampNeg := ⟨_, rfl⟩
      have hF := tc_lt hF eb8
      have g9 : b8 < tc_nc x := by rw [eb8]; exact g7.2
      obtain ⟨mo, cap, fl, ha1, ha2, ha3, ha4, ha5⟩ := tc_Li.full hW.2.2.2.1 (Nat.lt_of_le_of_lt (Nat.zero_le _) g7.2)
      refine tc_cr (W.runV (As := [.int a1]) (rest := []) ⟨hx, hb, hml, hown, hts⟩ (mt_lget l D cO (E 3) mo (E 5) (tc_nc x) cap fl a1 (E (46 + b8)) g7 ha3 ha4 (by rw [eb8]; exact ha5 _ g7.2)) (cwV 1 hts gX2_hoist_Jx4a65c_get_915e3 rfl rfl rfl (by decide +kernel) ⟨Nat.le_of_ble_eq_true rfl, Nat.le_of_ble_eq_true rfl⟩) ⟨fun a U g mk q => ⟨q.1, q.2.1, q.2.2.1, va_K.moved (Vm.Alike.refl U.vm) q.2.2.2⟩, tc_rcv ha1 hK rfl, fun U hU hW9 => ⟨rfl, by rw [hU]; exact ha1, by rw [hU]; exact ha2, va_K.moved hW9.alike (hK.sub [1] rfl)⟩⟩ rfl rfl hl.1 rfl (lv_room (Nat.le_of_ble_eq_true rfl)) dX2_hoist_30 ⟨Nat.le_of_ble_eq_true rfl, Nat.le_of_ble_eq_true rfl⟩) ?_
      refine va_castS hx hb hown (hts (.classLink RX2 81 "TreadCranes$Crane") (List.mem_of_getElem? (i := 6) rfl)) ((hK.1 2 _ rfl).2) (tc_rcv (hW.c g9) hK rfl) dX2_hoist_33 ?_
      refine lv_astore_n (lv' := [(3, .ref (E (46 + b8))), (0, .ref (E 0)), (1, .int a1), (2, .int a2)]) hx hb dX2_hoist_36 rfl hl (by decide) rfl (fun ls hl => ?_)
      refine lv_iload_n hx hb dX2_hoist_37 rfl (lv_at hl 3 rfl) ?_
      refine lv_aload_n hx hb dX2_hoist_38 rfl (lv_at hl 0 rfl) ?_
      refine lv_aload_n hx hb dX2_hoist_39 rfl (lv_at hl 1 rfl) ?_
      refine lv_aload_n hx hb dX2_hoist_40 rfl (lv_at hl 0 rfl) ?_
      refine tc_get (v := .int (x.1 25 b8)) hx hb hts hinX1 hown hK (hW.c g9) (C := RX1) (T := TX1) (N := 8) rfl 5 (by decide) (hts (.fieldLink RX2 108 "TreadCranes$Crane" "hookPlace" "I") (List.mem_of_getElem? (i := 7) rfl)) (fun _ h9 => h9) rfl dX2_hoist_41 ?_
      obtain ⟨r10, h11, hF⟩ := tc_bi hF
      refine tc_cr (W.runV (As := [.int (x.1 25 b8)]) (rest := [.ref (E (46 + b8)), .int a2]) ⟨hx, hb, hml, hown, hts⟩ (mt_X2_heightOf l D cU cO cI e0 A E x (x.1 25 b8) r10 h11) (cwV 1 hts gX2_hoist_X2_heightOf rfl rfl rfl (by decide +kernel) ⟨Nat.le_of_ble_eq_true rfl, Nat.le_of_ble_eq_true rfl⟩) ⟨fun a U g mk q => ⟨q.1, q.2.1, q.2.2.call⟩, tc_rcv (hW.o) hK rfl, fun U hU hW9 => ⟨rfl, by rw [hU]; exact hW, hKC.warm hW9⟩⟩ rfl rfl hl.1 rfl (lv_room (Nat.le_of_ble_eq_true rfl)) dX2_hoist_44 ⟨Nat.le_of_ble_eq_true rfl, Nat.le_of_ble_eq_true rfl⟩) ?_
      obtain ⟨r12, h13, hF⟩ := tc_bi hF
      refine tc_cr (W.runV (As := [.int r10]) (rest := [.int a2]) ⟨hx, hb, hml, hown, hts⟩ (mt_X1_lowestHook l D cU cO cI e0 A E x b8 r10 r12 h13) (cwV 1 hts gX2_hoist_X1_lowestHook rfl rfl rfl (by decide +kernel) ⟨Nat.le_of_ble_eq_true rfl, Nat.le_of_ble_eq_true rfl⟩) ⟨fun a U g mk q => ⟨q.1, q.2.1, q.2.2.call⟩, tc_rcv (hW.c g9) hK rfl, fun U hU hW9 => ⟨rfl, by rw [hU]; exact hW, hKC.warm hW9⟩⟩ rfl rfl hl.1 rfl (lv_room (Nat.le_of_ble_eq_true rfl)) dX2_hoist_47 ⟨Nat.le_of_ble_eq_true rfl, Nat.le_of_ble_eq_true rfl⟩) ?_
      refine lv_icmp_ge (tgt := 63) hx hb dX2_hoist_50 (by decide) (fun c14 => ?_) (fun c14 => ?_)
      · have hF := tc_it hF c14
        refine lv_aload_n hx hb dX2_hoist_63 rfl (lv_at hl 0 rfl) ?_
        refine tc_get (v := va_rf (tc_ad E 6 (x.2.1 2 b8))) hx hb hts hinX1 hown hK (hW.c g9) (C := RX1) (T := TX1) (N := 8) rfl 7 (by decide) (hts (.fieldLink RX2 130 "TreadCranes$Crane" "load" "LTreadCranes$Barrel;") (List.mem_of_getElem? (i := 8) rfl)) (fun _ h9 => h9) rfl dX2_hoist_64 ?_
        refine tc_opt (fun o15 => ?_) (fun j16 o15 => ?_)
        · have hF := tc_on hF o15
          refine lv_astoreN (lv' := [(4, .null), (3, .ref (E (46 + b8))), (0, .ref (E 0)), (1, .int a1), (2, .int a2)]) hx hb dX2_hoist_67 hl (by decide) rfl (fun ls hl => ?_)
          refine lv_iload_n hx hb dX2_hoist_69 rfl (lv_at hl 4 rfl) ?_
          refine lv_aload_n hx hb dX2_hoist_70 rfl (lv_at hl 1 rfl) ?_
          refine tc_get (v := .int (x.1 26 b8)) hx hb hts hinX1 hown hK (hW.c g9) (C := RX1) (T := TX1) (N := 8) rfl 6 (by decide) (hts (.fieldLink RX2 105 "TreadCranes$Crane" "hookHeight" "I") (List.mem_of_getElem? (i := 9) rfl)) (fun _ h9 => h9) rfl dX2_hoist_71 ?_
          refine lv_icmp_le (tgt := 104) hx hb dX2_hoist_74 (by decide) (fun c17 => ?_) (fun c17 => ?_)
          · have hF := tc_it hF c17
            refine lv_iload_n hx hb dX2_hoist_104 rfl (lv_at hl 4 rfl) ?_
            refine lv_aload_n hx hb dX2_hoist_105 rfl (lv_at hl 1 rfl) ?_
            refine tc_get (v := .int (x.1 26 b8)) hx hb hts hinX1 hown hK (hW.c g9) (C := RX1) (T := TX1) (N := 8) rfl 6 (by decide) (hts (.fieldLink RX2 105 "TreadCranes$Crane" "hookHeight" "I") (List.mem_of_getElem? (i := 9) rfl)) (fun _ h9 => h9) rfl dX2_hoist_106 ?_
            refine lv_icmp_ge (tgt := 121) hx hb dX2_hoist_109 (by decide) (fun c18 => ?_) (fun c18 => ?_)
            · have hF := tc_it hF c18
              refine lv_aload_n hx hb dX2_hoist_121 rfl (lv_at hl 2 rfl) ?_
              refine lv_aload_n hx hb dX2_hoist_122 rfl (lv_at hl 1 rfl) ?_
              refine lv_iload_n hx hb dX2_hoist_123 rfl (lv_at hl 4 rfl) ?_
              obtain ⟨r19, x20, h21, hF⟩ := tc_bi2 hF
              refine tc_cw (va_runV (As := [.ref (E (46 + b8)), .int a2]) (rest := []) ⟨hx, hb, hml, hown, hts⟩ (mt_X2_raiseHook l D cU cO cI e0 A E x b8 a2 r19 x20 h21) (cwV 2 hts gX2_hoist_X2_raiseHook rfl rfl rfl (by decide +kernel) ⟨Nat.le_of_ble_eq_true rfl, Nat.le_of_ble_eq_true rfl⟩) ⟨fun a U g mk q => ⟨q.1, q.2.1, q.2.2.call⟩, tc_rcv (hW.o) hK rfl, fun U hU hW9 => ⟨rfl, by rw [hU]; exact hW, hKX.go hS hU hW9⟩⟩ rfl rfl hl.1 rfl (lv_room (Nat.le_of_ble_eq_true rfl)) dX2_hoist_124 ⟨Nat.le_of_ble_eq_true rfl, Nat.le_of_ble_eq_true rfl⟩) hS (fun _ _ h => h) (fun _ h => h) (fun H locs hW z1 o1 hS => ?_)
              obtain ⟨h91, h92, h93⟩ := tc_pr3 (Option.some.inj hF)
              refine W.widen (k := 2) (n := 12) (Nat.le_of_ble_eq_true rfl) (Nat.le_of_ble_eq_true rfl) ?_
              refine vx_ret ?_
              exact W.iret hx hb hr (fun t ht hW9 => ⟨⟨h91.symm, by rw [← h92], by rw [← h93, ht]; exact hW⟩, tc_F hS ht⟩) hS.2.2 dX2_hoist_127
            · have hF := tc_if hF c18
              refine lv_aload_n hx hb dX2_hoist_112 rfl (lv_at hl 2 rfl) ?_
              refine lv_aload_n hx hb dX2_hoist_113 rfl (lv_at hl 1 rfl) ?_
              refine lv_iload_n hx hb dX2_hoist_114 rfl (lv_at hl 4 rfl) ?_
              obtain ⟨r22, x23, h24, hF⟩ := tc_bi2 hF
              refine tc_cw (va_runV (As := [.ref (E (46 + b8)), .int a2]) (rest := []) ⟨hx, hb, hml, hown, hts⟩ (mt_X2_lowerHook l D cU cO cI e0 A E x b8 a2 r22 x23 h24) (cwV 2 hts gX2_hoist_X2_lowerHook rfl rfl rfl (by decide +kernel) ⟨Nat.le_of_ble_eq_true rfl, Nat.le_of_ble_eq_true rfl⟩) ⟨fun a U g mk q => ⟨q.1, q.2.1, q.2.2.call⟩, tc_rcv (hW.o) hK rfl, fun U hU hW9 => ⟨rfl, by rw [hU]; exact hW, hKX.go hS hU hW9⟩⟩ rfl rfl hl.1 rfl (lv_room (Nat.le_of_ble_eq_true rfl)) dX2_hoist_115 ⟨Nat.le_of_ble_eq_true rfl, Nat.le_of_ble_eq_true rfl⟩) hS (fun _ _ h => h) (fun _ h => h) (fun H locs hW z1 o1 hS => ?_)
              refine lv_goto (tgt := 127) hx hb dX2_hoist_118 (by decide) ?_
              obtain ⟨h91, h92, h93⟩ := tc_pr3 (Option.some.inj hF)
              refine W.widen (k := 2) (n := 12) (Nat.le_of_ble_eq_true rfl) (Nat.le_of_ble_eq_true rfl) ?_
              refine vx_ret ?_
              exact W.iret hx hb hr (fun t ht hW9 => ⟨⟨h91.symm, by rw [← h92], by rw [← h93, ht]; exact hW⟩, tc_F hS ht⟩) hS.2.2 dX2_hoist_127
          · have hF := tc_if hF c17
            refine lv_aloadN hx hb dX2_hoist_77 (lv_at hl 0 rfl) ?_
            refine lv_ifnullN (tgt := 104) hx hb dX2_hoist_79 (by decide) ?_
            refine lv_iload_n hx hb dX2_hoist_104 rfl (lv_at hl 4 rfl) ?_
            refine lv_aload_n hx hb dX2_hoist_105 rfl (lv_at hl 1 rfl) ?_
            refine tc_get (v := .int (x.1 26 b8)) hx hb hts hinX1 hown hK (hW.c g9) (C := RX1) (T := TX1) (N := 8) rfl 6 (by decide) (hts (.fieldLink RX2 105 "TreadCranes$Crane" "hookHeight" "I") (List.mem_of_getElem? (i := 9) rfl)) (fun _ h9 => h9) rfl dX2_hoist_106 ?_
            refine lv_icmp_ge (tgt := 121) hx hb dX2_hoist_109 (by decide) (fun c25 => ?_) (fun c25 => ?_)
            · have hF := tc_it hF c25
              refine lv_aload_n hx hb dX2_hoist_121 rfl (lv_at hl 2 rfl) ?_
              refine lv_aload_n hx hb dX2_hoist_122 rfl (lv_at hl 1 rfl) ?_
              refine lv_iload_n hx hb dX2_hoist_123 rfl (lv_at hl 4 rfl) ?_
              obtain ⟨r26, x27, h28, hF⟩ := tc_bi2 hF
              refine tc_cw (va_runV (As := [.ref (E (46 + b8)), .int a2]) (rest := []) ⟨hx, hb, hml, hown, hts⟩ (mt_X2_raiseHook l D cU cO cI e0 A E x b8 a2 r26 x27 h28) (cwV 2 hts gX2_hoist_X2_raiseHook rfl rfl rfl (by decide +kernel) ⟨Nat.le_of_ble_eq_true rfl, Nat.le_of_ble_eq_true rfl⟩) ⟨fun a U g mk q => ⟨q.1, q.2.1, q.2.2.call⟩, tc_rcv (hW.o) hK rfl, fun U hU hW9 => ⟨rfl, by rw [hU]; exact hW, hKX.go hS hU hW9⟩⟩ rfl rfl hl.1 rfl (lv_room (Nat.le_of_ble_eq_true rfl)) dX2_hoist_124 ⟨Nat.le_of_ble_eq_true rfl, Nat.le_of_ble_eq_true rfl⟩) hS (fun _ _ h => h) (fun _ h => h) (fun H locs hW z1 o1 hS => ?_)
              obtain ⟨h91, h92, h93⟩ := tc_pr3 (Option.some.inj hF)
              refine W.widen (k := 2) (n := 12) (Nat.le_of_ble_eq_true rfl) (Nat.le_of_ble_eq_true rfl) ?_
              refine vx_ret ?_
              exact W.iret hx hb hr (fun t ht hW9 => ⟨⟨h91.symm, by rw [← h92], by rw [← h93, ht]; exact hW⟩, tc_F hS ht⟩) hS.2.2 dX2_hoist_127
            · have hF := tc_if hF c25
              refine lv_aload_n hx hb dX2_hoist_112 rfl (lv_at hl 2 rfl) ?_
              refine lv_aload_n hx hb dX2_hoist_113 rfl (lv_at hl 1 rfl) ?_
              refine lv_iload_n hx hb dX2_hoist_114 rfl (lv_at hl 4 rfl) ?_
              obtain ⟨r29, x30, h31, hF⟩ := tc_bi2 hF
              refine tc_cw (va_runV (As := [.ref (E (46 + b8)), .int a2]) (rest := []) ⟨hx, hb, hml, hown, hts⟩ (mt_X2_lowerHook l D cU cO cI e0 A E x b8 a2 r29 x30 h31) (cwV 2 hts gX2_hoist_X2_lowerHook rfl rfl rfl (by decide +kernel) ⟨Nat.le_of_ble_eq_true rfl, Nat.le_of_ble_eq_true rfl⟩) ⟨fun a U g mk q => ⟨q.1, q.2.1, q.2.2.call⟩, tc_rcv (hW.o) hK rfl, fun U hU hW9 => ⟨rfl, by rw [hU]; exact hW, hKX.go hS hU hW9⟩⟩ rfl rfl hl.1 rfl (lv_room (Nat.le_of_ble_eq_true rfl)) dX2_hoist_115 ⟨Nat.le_of_ble_eq_true rfl, Nat.le_of_ble_eq_true rfl⟩) hS (fun _ _ h => h) (fun _ h => h) (fun H locs hW z1 o1 hS => ?_)
              refine lv_goto (tgt := 127) hx hb dX2_hoist_118 (by decide) ?_
              obtain ⟨h91, h92, h93⟩ := tc_pr3 (Option.some.inj hF)
              refine W.widen (k := 2) (n := 12) (Nat.le_of_ble_eq_true rfl) (Nat.le_of_ble_eq_true rfl) ?_
              refine vx_ret ?_
              exact W.iret hx hb hr (fun t ht hW9 => ⟨⟨h91.symm, by rw [← h92], by rw [← h93, ht]; exact hW⟩, tc_F hS ht⟩) hS.2.2 dX2_hoist_127
        · have hF := tc_os hF o15
          refine lv_astore (lv' := [(4, .ref (E (6 + j16))), (3, .ref (E (46 + b8))), (0, .ref (E 0)), (1, .int a1), (2, .int a2)]) hx hb dX2_hoist_67 hl (by decide) rfl (fun ls hl => ?_)
          refine lv_iload_n hx hb dX2_hoist_69 rfl (lv_at hl 4 rfl) ?_
          refine lv_aload_n hx hb dX2_hoist_70 rfl (lv_at hl 1 rfl) ?_
          refine tc_get (v := .int (x.1 26 b8)) hx hb hts hinX1 hown hK (hW.c g9) (C := RX1) (T := TX1) (N := 8) rfl 6 (by decide) (hts (.fieldLink RX2 105 "TreadCranes$Crane" "hookHeight" "I") (List.mem_of_getElem? (i := 9) rfl)) (fun _ h9 => h9) rfl dX2_hoist_71 ?_
          refine lv_icmp_le (tgt := 104) hx hb dX2_hoist_74 (by decide) (fun c32 => ?_) (fun c32 => ?_)
          · have hF := tc_it hF c32
            refine lv_iload_n hx hb dX2_hoist_104 rfl (lv_at hl 4 rfl) ?_
            refine lv_aload_n hx hb dX2_hoist_105 rfl (lv_at hl 1 rfl) ?_
            refine tc_get (v := .int (x.1 26 b8)) hx hb hts hinX1 hown hK (hW.c g9) (C := RX1) (T := TX1) (N := 8) rfl 6 (by decide) (hts (.fieldLink RX2 105 "TreadCranes$Crane" "hookHeight" "I") (List.mem_of_getElem? (i := 9) rfl)) (fun _ h9 => h9) rfl dX2_hoist_106 ?_
            refine lv_icmp_ge (tgt := 121) hx hb dX2_hoist_109 (by decide) (fun c33 => ?_) (fun c33 => ?_)
            · have hF := tc_it hF c33
              refine lv_aload_n hx hb dX2_hoist_121 rfl (lv_at hl 2 rfl) ?_
              refine lv_aload_n hx hb dX2_hoist_122 rfl (lv_at hl 1 rfl) ?_
              refine lv_iload_n hx hb dX2_hoist_123 rfl (lv_at hl 4 rfl) ?_
              obtain ⟨r34, x35, h36, hF⟩ := tc_bi2 hF
              refine tc_cw (va_runV (As := [.ref (E (46 + b8)), .int a2]) (rest := []) ⟨hx, hb, hml, hown, hts⟩ (mt_X2_raiseHook l D cU cO cI e0 A E x b8 a2 r34 x35 h36) (cwV 2 hts gX2_hoist_X2_raiseHook rfl rfl rfl (by decide +kernel) ⟨Nat.le_of_ble_eq_true rfl, Nat.le_of_ble_eq_true rfl⟩) ⟨fun a U g mk q => ⟨q.1, q.2.1, q.2.2.call⟩, tc_rcv (hW.o) hK rfl, fun U hU hW9 => ⟨rfl, by rw [hU]; exact hW, hKX.go hS hU hW9⟩⟩ rfl rfl hl.1 rfl (lv_room (Nat.le_of_ble_eq_true rfl)) dX2_hoist_124 ⟨Nat.le_of_ble_eq_true rfl, Nat.le_of_ble_eq_true rfl⟩) hS (fun _ _ h => h) (fun _ h => h) (fun H locs hW z1 o1 hS => ?_)
              obtain ⟨h91, h92, h93⟩ := tc_pr3 (Option.some.inj hF)
              refine W.widen (k := 2) (n := 12) (Nat.le_of_ble_eq_true rfl) (Nat.le_of_ble_eq_true rfl) ?_
              refine vx_ret ?_
              exact W.iret hx hb hr (fun t ht hW9 => ⟨⟨h91.symm, by rw [← h92], by rw [← h93, ht]; exact hW⟩, tc_F hS ht⟩) hS.2.2 dX2_hoist_127
            · have hF := tc_if hF c33
              refine lv_aload_n hx hb dX2_hoist_112 rfl (lv_at hl 2 rfl) ?_
              refine lv_aload_n hx hb dX2_hoist_113 rfl (lv_at hl 1 rfl) ?_
              refine lv_iload_n hx hb dX2_hoist_114 rfl (lv_at hl 4 rfl) ?_
              obtain ⟨r37, x38, h39, hF⟩ := tc_bi2 hF
              refine tc_cw (va_runV (As := [.ref (E (46 + b8)), .int a2]) (rest := []) ⟨hx, hb, hml, hown, hts⟩ (mt_X2_lowerHook l D cU cO cI e0 A E x b8 a2 r37 x38 h39) (cwV 2 hts gX2_hoist_X2_lowerHook rfl rfl rfl (by decide +kernel) ⟨Nat.le_of_ble_eq_true rfl, Nat.le_of_ble_eq_true rfl⟩) ⟨fun a U g mk q => ⟨q.1, q.2.1, q.2.2.call⟩, tc_rcv (hW.o) hK rfl, fun U hU hW9 => ⟨rfl, by rw [hU]; exact hW, hKX.go hS hU hW9⟩⟩ rfl rfl hl.1 rfl (lv_room (Nat.le_of_ble_eq_true rfl)) dX2_hoist_115 ⟨Nat.le_of_ble_eq_true rfl, Nat.le_of_ble_eq_true rfl⟩) hS (fun _ _ h => h) (fun _ h => h) (fun H locs hW z1 o1 hS => ?_)
              refine lv_goto (tgt := 127) hx hb dX2_hoist_118 (by decide) ?_
              obtain ⟨h91, h92, h93⟩ := tc_pr3 (Option.some.inj hF)
              refine W.widen (k := 2) (n := 12) (Nat.le_of_ble_eq_true rfl) (Nat.le_of_ble_eq_true rfl) ?_
              refine vx_ret ?_
              exact W.iret hx hb hr (fun t ht hW9 => ⟨⟨h91.symm, by rw [← h92], by rw [← h93, ht]; exact hW⟩, tc_F hS ht⟩) hS.2.2 dX2_hoist_127
          · have hF := tc_if hF c32
            refine lv_aload hx hb dX2_hoist_77 (lv_at hl 0 rfl) ?_
            refine lv_ifnull hx hb dX2_hoist_79 ?_
            refine lv_aload_n hx hb dX2_hoist_82 rfl (lv_at hl 1 rfl) ?_
            refine lv_aload hx hb dX2_hoist_83 (lv_at hl 0 rfl) ?_
            obtain ⟨g40, hF⟩ := tc_ob hF
            refine tc_get (v := .int (x.1 11 j16)) hx hb hts hinX0 hown hK (hW.b g40) (C := RX0) (T := TX0) (N := 7) rfl 1 (by decide) (hts (.fieldLink RX2 134 "TreadCranes$Barrel" "weight" "I") (List.mem_of_getElem? (i := 10) rfl)) (fun _ h9 => h9) rfl dX2_hoist_85 ?_
            obtain ⟨r41, h42, hF⟩ := tc_bi hF
            refine tc_cr (W.runV (As := [.int (x.1 11 j16)]) (rest := []) ⟨hx, hb, hml, hown, hts⟩ (mt_X1_canLift l D cU cO cI e0 A E x b8 (x.1 11 j16) r41 h42) (cwV 1 hts gX2_hoist_X1_canLift rfl rfl rfl (by decide +kernel) ⟨Nat.le_of_ble_eq_true rfl, Nat.le_of_ble_eq_true rfl⟩) ⟨fun a U g mk q => ⟨q.1, q.2.1, q.2.2.call⟩, tc_rcv (hW.c g9) hK rfl, fun U hU hW9 => ⟨rfl, by rw [hU]; exact hW, hKC.warm hW9⟩⟩ rfl rfl hl.1 rfl (lv_room (Nat.le_of_ble_eq_true rfl)) dX2_hoist_88 ⟨Nat.le_of_ble_eq_true rfl, Nat.le_of_ble_eq_true rfl⟩) ?_
            refine lv_if_ne (tgt := 104) hx hb dX2_hoist_91 (by decide) (fun c43 => ?_) (fun c43 => ?_)
            · have hF := tc_if hF c43
              refine lv_iload_n hx hb dX2_hoist_104 rfl (lv_at hl 4 rfl) ?_
              refine lv_aload_n hx hb dX2_hoist_105 rfl (lv_at hl 1 rfl) ?_
              refine tc_get (v := .int (x.1 26 b8)) hx hb hts hinX1 hown hK (hW.c g9) (C := RX1) (T := TX1) (N := 8) rfl 6 (by decide) (hts (.fieldLink RX2 105 "TreadCranes$Crane" "hookHeight" "I") (List.mem_of_getElem? (i := 9) rfl)) (fun _ h9 => h9) rfl dX2_hoist_106 ?_
              refine lv_icmp_ge (tgt := 121) hx hb dX2_hoist_109 (by decide) (fun c44 => ?_) (fun c44 => ?_)
              · have hF := tc_it hF c44
                refine lv_aload_n hx hb dX2_hoist_121 rfl (lv_at hl 2 rfl) ?_
                refine lv_aload_n hx hb dX2_hoist_122 rfl (lv_at hl 1 rfl) ?_
                refine lv_iload_n hx hb dX2_hoist_123 rfl (lv_at hl 4 rfl) ?_
                obtain ⟨r45, x46, h47, hF⟩ := tc_bi2 hF
                refine tc_cw (va_runV (As := [.ref (E (46 + b8)), .int a2]) (rest := []) ⟨hx, hb, hml, hown, hts⟩ (mt_X2_raiseHook l D cU cO cI e0 A E x b8 a2 r45 x46 h47) (cwV 2 hts gX2_hoist_X2_raiseHook rfl rfl rfl (by decide +kernel) ⟨Nat.le_of_ble_eq_true rfl, Nat.le_of_ble_eq_true rfl⟩) ⟨fun a U g mk q => ⟨q.1, q.2.1, q.2.2.call⟩, tc_rcv (hW.o) hK rfl, fun U hU hW9 => ⟨rfl, by rw [hU]; exact hW, hKX.go hS hU hW9⟩⟩ rfl rfl hl.1 rfl (lv_room (Nat.le_of_ble_eq_true rfl)) dX2_hoist_124 ⟨Nat.le_of_ble_eq_true rfl, Nat.le_of_ble_eq_true rfl⟩) hS (fun _ _ h => h) (fun _ h => h) (fun H locs hW z1 o1 hS => ?_)
                obtain ⟨h91, h92, h93⟩ := tc_pr3 (Option.some.inj hF)
                refine W.widen (k := 2) (n := 12) (Nat.le_of_ble_eq_true rfl) (Nat.le_of_ble_eq_true rfl) ?_
                refine vx_ret ?_
                exact W.iret hx hb hr (fun t ht hW9 => ⟨⟨h91.symm, by rw [← h92], by rw [← h93, ht]; exact hW⟩, tc_F hS ht⟩) hS.2.2 dX2_hoist_127
              · have hF := tc_if hF c44
                refine lv_aload_n hx hb dX2_hoist_112 rfl (lv_at hl 2 rfl) ?_
                refine lv_aload_n hx hb dX2_hoist_113 rfl (lv_at hl 1 rfl) ?_
                refine lv_iload_n hx hb dX2_hoist_114 rfl (lv_at hl 4 rfl) ?_
                obtain ⟨r48, x49, h50, hF⟩ := tc_bi2 hF
                refine tc_cw (va_runV (As := [.ref (E (46 + b8)), .int a2]) (rest := []) ⟨hx, hb, hml, hown, hts⟩ (mt_X2_lowerHook l D cU cO cI e0 A E x b8 a2 r48 x49 h50) (cwV 2 hts gX2_hoist_X2_lowerHook rfl rfl rfl (by decide +kernel) ⟨Nat.le_of_ble_eq_true rfl, Nat.le_of_ble_eq_true rfl⟩) ⟨fun a U g mk q => ⟨q.1, q.2.1, q.2.2.call⟩, tc_rcv (hW.o) hK rfl, fun U hU hW9 => ⟨rfl, by rw [hU]; exact hW, hKX.go hS hU hW9⟩⟩ rfl rfl hl.1 rfl (lv_room (Nat.le_of_ble_eq_true rfl)) dX2_hoist_115 ⟨Nat.le_of_ble_eq_true rfl, Nat.le_of_ble_eq_true rfl⟩) hS (fun _ _ h => h) (fun _ h => h) (fun H locs hW z1 o1 hS => ?_)
                refine lv_goto (tgt := 127) hx hb dX2_hoist_118 (by decide) ?_
                obtain ⟨h91, h92, h93⟩ := tc_pr3 (Option.some.inj hF)
                refine W.widen (k := 2) (n := 12) (Nat.le_of_ble_eq_true rfl) (Nat.le_of_ble_eq_true rfl) ?_
                refine vx_ret ?_
                exact W.iret hx hb hr (fun t ht hW9 => ⟨⟨h91.symm, by rw [← h92], by rw [← h93, ht]; exact hW⟩, tc_F hS ht⟩) hS.2.2 dX2_hoist_127
            · have hF := tc_it hF c43
              obtain ⟨h91, h92, h93⟩ := tc_pr3 (Option.some.inj hF)
              obtain ⟨sa, hsa⟩ := hKX.2.2.2.2.2.1 _ (List.mem_of_getElem? (l := tc_tx) (i := 8) rfl)
              exact vx_throwS hx hb hst (names := ["java/lang/RuntimeException", "java/lang/Exception"]) hown tc_fit.2.2.1 tc_fit.2.2.2 (hts (.classLink RX2 40 "java/lang/IllegalStateException") (List.mem_of_getElem? (i := 3) rfl)) (hts (.initialized "java/lang/IllegalStateException") (List.mem_of_getElem? (i := 4) rfl)) hsa (tc_hat (fun w9 h9 => hts w9 (List.mem_cons_of_mem _ (List.mem_append_left _ (List.mem_append_right _ h9)))) tc_n3 hKX.2.2.2.2.2.2.1 hKX.2.2.2.2.2.2.2.2.2.1) tc_o3 hKX.2.2.1 hKX.2.2.2.1 hS (by rw [hml]; exact hl.1) dX2_hoist_94 dX2_hoist_97 dX2_hoist_98 dX2_hoist_100 dX2_hoist_103 (fun z9 h9 => (hno z9 h9).elim) (by decide) (Nat.le_of_ble_eq_true rfl) (Nat.le_of_ble_eq_true rfl) (Nat.le_of_ble_eq_true rfl) hlocks (h91 ▸ tc_xx (k := 3) (by decide) hS hW) hS.2.2 (Nat.le_of_ble_eq_true rfl) (Nat.le_of_ble_eq_true rfl)
      · have hF := tc_if hF c14
        obtain ⟨h91, h92, h93⟩ := tc_pr3 (Option.some.inj hF)
        obtain ⟨sa, hsa⟩ := hKX.2.2.2.2.2.1 _ (List.mem_of_getElem? (l := tc_tx) (i := 7) rfl)
        exact vx_throwS hx hb hst (names := ["java/lang/RuntimeException", "java/lang/Exception"]) hown tc_fit.2.2.1 tc_fit.2.2.2 (hts (.classLink RX2 40 "java/lang/IllegalStateException") (List.mem_of_getElem? (i := 3) rfl)) (hts (.initialized "java/lang/IllegalStateException") (List.mem_of_getElem? (i := 4) rfl)) hsa (tc_hat (fun w9 h9 => hts w9 (List.mem_cons_of_mem _ (List.mem_append_left _ (List.mem_append_right _ h9)))) tc_n3 hKX.2.2.2.2.2.2.1 hKX.2.2.2.2.2.2.2.2.2.1) tc_o3 hKX.2.2.1 hKX.2.2.2.1 hS (by rw [hml]; exact hl.1) dX2_hoist_53 dX2_hoist_56 dX2_hoist_57 dX2_hoist_59 dX2_hoist_62 (fun z9 h9 => (hno z9 h9).elim) (by decide) (Nat.le_of_ble_eq_true rfl) (Nat.le_of_ble_eq_true rfl) (Nat.le_of_ble_eq_true rfl) hlocks (h91 ▸ tc_xx (k := 3) (by decide) hS hW) hS.2.2 (Nat.le_of_ble_eq_true rfl) (Nat.le_of_ble_eq_true rfl)
    · have hF := tc_it hF c6
      obtain ⟨h91, h92, h93⟩ := tc_pr3 (Option.some.inj hF)
      obtain ⟨sa, hsa⟩ := hKX.2.2.2.2.2.1 _ (List.mem_of_getElem? (l := tc_tx) (i := 6) rfl)
      exact vx_throwS hx hb hst (names := ["java/lang/RuntimeException", "java/lang/Exception"]) hown tc_fit.2.1 tc_fit.2.2.2 (hts (.classLink RX2 71 "java/lang/IllegalArgumentException") (List.mem_of_getElem? (i := 1) rfl)) (hts (.initialized "java/lang/IllegalArgumentException") (List.mem_of_getElem? (i := 2) rfl)) hsa (tc_hat (fun w9 h9 => hts w9 (List.mem_cons_of_mem _ (List.mem_append_left _ (List.mem_append_left _ (List.mem_append_right _ h9))))) tc_n2 hKX.2.2.2.2.2.2.1 hKX.2.2.2.2.2.2.2.2.1) tc_o2 hKX.2.2.1 hKX.2.2.2.1 hS (by rw [hml]; exact hl.1) dX2_hoist_15 dX2_hoist_18 dX2_hoist_19 dX2_hoist_21 dX2_hoist_24 (fun z9 h9 => (hno z9 h9).elim) (by decide) (Nat.le_of_ble_eq_true rfl) (Nat.le_of_ble_eq_true rfl) (Nat.le_of_ble_eq_true rfl) hlocks (h91 ▸ tc_xx (k := 2) (by decide) hS hW) hS.2.2 (Nat.le_of_ble_eq_true rfl) (Nat.le_of_ble_eq_true rfl)

def f_X2_take (x : tc_X) (a1 : Int32) : Option (Nat × Int32 × tc_X) := Option.bind (f_X2_requireCrane x a1) (fun k1 => (if k1 = 0 then (if ¬ a1 < 0 ∧ a1.toNatClampNeg < tc_nc x then tc_let a1.toNatClampNeg (fun b5 => Option.bind (f_X2_uppermostAt x (x.1 25 b5)) (fun r7 => (tc_oc (r7) (tc_oc (x.2.1 2 b5) (some (3, 0, x)) (fun j12 => some (3, 0, x))) (fun j10 => (tc_oc (x.2.1 2 b5) (Option.bind (f_X2_heightOf x (x.1 25 b5)) (fun r15 => (if (x.1 26 b5) = r15 then Option.bind (f_X2_removeUppermost x (x.1 25 b5)) (fun x18 => (if j10 < tc_nb x18 then tc_let (tc_si x18 14 j10 a1) (fun x21 => (if b5 < tc_nc x21 then tc_let (tc_sr x21 2 b5 (some j10)) (fun x24 => some (0, (x24.1 10 j10), x24)) else none)) else none)) else some (3, 0, x)))) (fun j14 => some (3, 0, x))))))) else none) else some (k1, 0, x)))
set_option maxHeartbeats 4000000 in
set_option maxRecDepth 100000 in
theorem mt_X2_take (l : Launch) (hst : l.stackTraces = false) (D : va_G) (cU cO cI : ClassId) (e0 : Nat) (A : Nat → Prop) (E : Nat → Nat) (x : tc_X) (a1 : Int32) (k : Nat) (r : Int32) (z : tc_X) (hF : f_X2_take x a1 = some (k, r, z)) : vx_Met l yX2_take wsX2_take ({ frames := 7, cells := 2, slots := 12, locals := 103 } : Room) (va_Pc [.ref (E 0), .int a1] (fun U => tc_WC D cU cO e0 A E x U.heap ∧ tc_KX D cU cO cI e0 A U)) (tc_Qx k (some (.int r)) (tc_WC D cU cO e0 A E z) A) (tc_XC k (tc_WC D cU cO e0 A E x) A) 2 12 A := by
  refine vx_ofW (cc := cX2_take) (maxL := 4) (ret := (some .int)) (by decide) rfl ?_
  intro p e s m args below meth c s₁ B hml hno hv
  obtain ⟨rfl, hW, hKX⟩ := hv
  have hx := B.exec
  have hb := B.bytes
  have hr := B.returns
  have hts := atoms_spec (ws := wsX2_take) B.pre
  have hown : s.vm.findClass RX2 = some m.cls := findClass_of_methodNamed B.named
  have hlocks := B.notSynchronized
  have hKC := hKX.1
  have hK := hKC.1
  have hA := hKX.2.1
  have hinX0 : ∀ w ∈ wsX00, w ∈ wsX2_take := fun w9 h9 => List.mem_cons_of_mem _ (List.mem_append_left _ (List.mem_append_left _ (List.mem_append_left _ (List.mem_append_right _ h9))))
  have hinX1 : ∀ w ∈ wsX10, w ∈ wsX2_take := fun w9 h9 => List.mem_cons_of_mem _ (List.mem_append_left _ (List.mem_append_left _ (List.mem_append_left _ (List.mem_append_left _ (List.mem_append_right _ h9)))))
  have hinX2 : ∀ w ∈ wsX20, w ∈ wsX2_take := fun w9 h9 => List.mem_cons_of_mem _ (List.mem_append_left _ (List.mem_append_left _ (List.mem_append_left _ (List.mem_append_left _ (List.mem_append_left _ (List.mem_append_right _ h9))))))
  have hS : va_S A s.heap s.heap [] := va_S.rf
  have hl := lv_entry ([.ref (E 0), .int a1]) (n := 4) (Nat.le_of_ble_eq_true rfl)
  rw [lg_entry_eq]
  generalize (lg_sl ([.ref (E 0), .int a1]) ++ List.replicate (4 - (lg_sl ([.ref (E 0), .int a1])).length) Slot.unset).toArray = ls at hl ⊢
  have hl : lv_has ls 4 [(0, .ref (E 0)), (1, .int a1)] := hl
  refine lv_aload_n hx hb dX2_take_0 rfl (lv_at hl 0 rfl) ?_
  refine lv_iload_n hx hb dX2_take_1 rfl (lv_at hl 1 rfl) ?_
  obtain ⟨k1, h2, hF⟩ := tc_bi hF
  refine tc_cxv (vx_runV (As := [.int a1]) (rest := []) ⟨hx, hb, hml, hown, hts⟩ (mt_X2_requireCrane l hst D cU cO cI e0 A E x a1 k1 h2) (cwV 1 hts gX2_take_X2_requireCrane rfl rfl rfl (by decide +kernel) ⟨Nat.le_of_ble_eq_true rfl, Nat.le_of_ble_eq_true rfl⟩) ⟨fun a U g mk q => ⟨q.1, q.2.1, q.2.2.call⟩, tc_rcv (hW.o) hK rfl, fun U hU hW9 => ⟨rfl, by rw [hU]; exact hW, hKX.go hS hU hW9⟩⟩ rfl rfl hl.1 rfl (lv_room (Nat.le_of_ble_eq_true rfl)) dX2_take_2 ⟨Nat.le_of_ble_eq_true rfl, Nat.le_of_ble_eq_true rfl⟩) hS (fun _ _ h => h) (fun _ h => h) (fun _ _ h => h) (fun ce q9 H locs c3 hW z1 o1 hS hce hcv hcl => ?_) (fun H locs c3 hW z1 o1 hS => ?_)
  · have hF := tc_if hF c3
    obtain ⟨h91, h92, h93⟩ := tc_pr3 (Option.some.inj hF)
    exact vx_out (fun z9 h9 => (hno z9 h9).elim) hlocks hce hcv hcl (fun t ht hal => ⟨⟨h91 ▸ c3, by rw [h91], by rw [ht]; exact hW⟩, tc_F hS ht⟩) hS.2.2 (Nat.le_of_ble_eq_true rfl) (Nat.le_of_ble_eq_true rfl)
  · have hF := tc_it hF c3
    refine lv_aload_n hx hb dX2_take_5 rfl (lv_at hl 0 rfl) ?_
    refine tc_get (v := .ref (E 3)) hx hb hts hinX2 hown hK (hW.o) (C := RX2) (T := TX2) (N := 4) rfl 2 (by decide) (hts (.fieldLink RX2 22 "TreadCranes" "cranes" "Ljava/util/ArrayList;") (List.mem_of_getElem? (i := 3) rfl)) (fun _ h9 => h9) rfl dX2_take_6 ?_
    refine lv_iload_n hx hb dX2_take_9 rfl (lv_at hl 1 rfl) ?_
    obtain ⟨g4, hF⟩ := tc_ob hF
    obtain ⟨b5, eb5⟩ : ∃ z : Nat, z = a1.toNatClampNeg := ⟨_, rfl⟩
    have hF := tc_lt hF eb5
    have g6 : b5 < tc_nc x := by rw [eb5]; exact g4.2
    obtain ⟨mo, cap, fl, ha1, ha2, ha3, ha4, ha5⟩ := tc_Li.full hW.2.2.2.1 (Nat.lt_of_le_of_lt (Nat.zero_le _) g4.2)
    refine tc_cr (W.runV (As := [.int a1]) (rest := []) ⟨hx, hb, hml, hown, hts⟩ (mt_lget l D cO (E 3) mo (E 5) (tc_nc x) cap fl a1 (E (46 + b5)) g4 ha3 ha4 (by rw [eb5]; exact ha5 _ g4.2)) (cwV 1 hts gX2_take_Jx4a65c_get_915e3 rfl rfl rfl (by decide +kernel) ⟨Nat.le_of_ble_eq_true rfl, Nat.le_of_ble_eq_true rfl⟩) ⟨fun a U g mk q => ⟨q.1, q.2.1, q.2.2.1, va_K.moved (Vm.Alike.refl U.vm) q.2.2.2⟩, tc_rcv ha1 hK rfl, fun U hU hW9 => ⟨rfl, by rw [hU]; exact ha1, by rw [hU]; exact ha2, va_K.moved hW9.alike (hK.sub [1] rfl)⟩⟩ rfl rfl hl.1 rfl (lv_room (Nat.le_of_ble_eq_true rfl)) dX2_take_10 ⟨Nat.le_of_ble_eq_true rfl, Nat.le_of_ble_eq_true rfl⟩) ?_
    refine va_castS hx hb hown (hts (.classLink RX2 81 "TreadCranes$Crane") (List.mem_of_getElem? (i := 4) rfl)) ((hK.1 2 _ rfl).2) (tc_rcv (hW.c g6) hK rfl) dX2_take_13 ?_
    refine lv_astore_n (lv' := [(2, .ref (E (46 + b5))), (0, .ref (E 0)), (1, .int a1)]) hx hb dX2_take_16 rfl hl (by decide) rfl (fun ls hl => ?_)
    refine lv_aload_n hx hb dX2_take_17 rfl (lv_at hl 1 rfl) ?_
    refine lv_aload_n hx hb dX2_take_18 rfl (lv_at hl 0 rfl) ?_
    refine tc_get (v := .int (x.1 25 b5)) hx hb hts hinX1 hown hK (hW.c g6) (C := RX1) (T := TX1) (N := 8) rfl 5 (by decide) (hts (.fieldLink RX2 108 "TreadCranes$Crane" "hookPlace" "I") (List.mem_of_getElem? (i := 5) rfl)) (fun _ h9 => h9) rfl dX2_take_19 ?_
    obtain ⟨r7, h8, hF⟩ := tc_bi hF
    refine tc_cr (W.runV (As := [.int (x.1 25 b5)]) (rest := []) ⟨hx, hb, hml, hown, hts⟩ (mt_X2_uppermostAt l D cU cO cI e0 A E x (x.1 25 b5) r7 h8) (cwV 1 hts gX2_take_X2_uppermostAt rfl rfl rfl (by decide +kernel) ⟨Nat.le_of_ble_eq_true rfl, Nat.le_of_ble_eq_true rfl⟩) ⟨fun a U g mk q => ⟨q.1, q.2.1, q.2.2.call⟩, tc_rcv (hW.o) hK rfl, fun U hU hW9 => ⟨rfl, by rw [hU]; exact hW, hKC.warm hW9⟩⟩ rfl rfl hl.1 rfl (lv_room (Nat.le_of_ble_eq_true rfl)) dX2_take_22 ⟨Nat.le_of_ble_eq_true rfl, Nat.le_of_ble_eq_true rfl⟩) ?_
    refine tc_opt (fun o9 => ?_) (fun j10 o9 => ?_)
    · have hF := tc_on hF o9
      refine lv_astore_nN (lv' := [(3, .null), (2, .ref (E (46 + b5))), (0, .ref (E 0)), (1, .int a1)]) hx hb dX2_take_25 rfl hl (by decide) rfl (fun ls hl => ?_)
      refine lv_aload_n hx hb dX2_take_26 rfl (lv_at hl 1 rfl) ?_
      refine tc_get (v := va_rf (tc_ad E 6 (x.2.1 2 b5))) hx hb hts hinX1 hown hK (hW.c g6) (C := RX1) (T := TX1) (N := 8) rfl 7 (by decide) (hts (.fieldLink RX2 130 "TreadCranes$Crane" "load" "LTreadCranes$Barrel;") (List.mem_of_getElem? (i := 6) rfl)) (fun _ h9 => h9) rfl dX2_take_27 ?_
      refine tc_opt (fun o11 => ?_) (fun j12 o11 => ?_)
      · have hF := tc_on hF o11
        refine lv_ifnonnullN hx hb dX2_take_30 ?_
        refine lv_aload_nN hx hb dX2_take_33 rfl (lv_at hl 0 rfl) ?_
        refine lv_ifnullN (tgt := 52) hx hb dX2_take_34 (by decide) ?_
        obtain ⟨h91, h92, h93⟩ := tc_pr3 (Option.some.inj hF)
        obtain ⟨sa, hsa⟩ := hKX.2.2.2.2.2.1 _ (List.mem_of_getElem? (l := tc_tx) (i := 9) rfl)
        exact vx_throwS hx hb hst (names := ["java/lang/RuntimeException", "java/lang/Exception"]) hown tc_fit.2.2.1 tc_fit.2.2.2 (hts (.classLink RX2 40 "java/lang/IllegalStateException") (List.mem_of_getElem? (i := 1) rfl)) (hts (.initialized "java/lang/IllegalStateException") (List.mem_of_getElem? (i := 2) rfl)) hsa (tc_hat (fun w9 h9 => hts w9 (List.mem_cons_of_mem _ (List.mem_append_left _ (List.mem_append_right _ h9)))) tc_n3 hKX.2.2.2.2.2.2.1 hKX.2.2.2.2.2.2.2.2.2.1) tc_o3 hKX.2.2.1 hKX.2.2.2.1 hS (by rw [hml]; exact hl.1) dX2_take_52 dX2_take_55 dX2_take_56 dX2_take_58 dX2_take_61 (fun z9 h9 => (hno z9 h9).elim) (by decide) (Nat.le_of_ble_eq_true rfl) (Nat.le_of_ble_eq_true rfl) (Nat.le_of_ble_eq_true rfl) hlocks (h91 ▸ tc_xx (k := 3) (by decide) hS hW) hS.2.2 (Nat.le_of_ble_eq_true rfl) (Nat.le_of_ble_eq_true rfl)
      · have hF := tc_os hF o11
        refine lv_ifnonnull (tgt := 52) hx hb dX2_take_30 (by decide) ?_
        obtain ⟨h91, h92, h93⟩ := tc_pr3 (Option.some.inj hF)
        obtain ⟨sa, hsa⟩ := hKX.2.2.2.2.2.1 _ (List.mem_of_getElem? (l := tc_tx) (i := 9) rfl)
        exact vx_throwS hx hb hst (names := ["java/lang/RuntimeException", "java/lang/Exception"]) hown tc_fit.2.2.1 tc_fit.2.2.2 (hts (.classLink RX2 40 "java/lang/IllegalStateException") (List.mem_of_getElem? (i := 1) rfl)) (hts (.initialized "java/lang/IllegalStateException") (List.mem_of_getElem? (i := 2) rfl)) hsa (tc_hat (fun w9 h9 => hts w9 (List.mem_cons_of_mem _ (List.mem_append_left _ (List.mem_append_right _ h9)))) tc_n3 hKX.2.2.2.2.2.2.1 hKX.2.2.2.2.2.2.2.2.2.1) tc_o3 hKX.2.2.1 hKX.2.2.2.1 hS (by rw [hml]; exact hl.1) dX2_take_52 dX2_take_55 dX2_take_56 dX2_take_58 dX2_take_61 (fun z9 h9 => (hno z9 h9).elim) (by decide) (Nat.le_of_ble_eq_true rfl) (Nat.le_of_ble_eq_true rfl) (Nat.le_of_ble_eq_true rfl) hlocks (h91 ▸ tc_xx (k := 3) (by decide) hS hW) hS.2.2 (Nat.le_of_ble_eq_true rfl) (Nat.le_of_ble_eq_true rfl)
    · have hF := tc_os hF o9
      refine lv_astore_n (lv' := [(3, .ref (E (6 + j10))), (2, .ref (E (46 + b5))), (0, .ref (E 0)), (1, .int a1)]) hx hb dX2_take_25 rfl hl (by decide) rfl (fun ls hl => ?_)
      refine lv_aload_n hx hb dX2_take_26 rfl (lv_at hl 1 rfl) ?_
      refine tc_get (v := va_rf (tc_ad E 6 (x.2.1 2 b5))) hx hb hts hinX1 hown hK (hW.c g6) (C := RX1) (T := TX1) (N := 8) rfl 7 (by decide) (hts (.fieldLink RX2 130 "TreadCranes$Crane" "load" "LTreadCranes$Barrel;") (List.mem_of_getElem? (i := 6) rfl)) (fun _ h9 => h9) rfl dX2_take_27 ?_
      refine tc_opt (fun o13 => ?_) (fun j14 o13 => ?_)
      · have hF := tc_on hF o13
        refine lv_ifnonnullN hx hb dX2_take_30 ?_
        refine lv_aload_n hx hb dX2_take_33 rfl (lv_at hl 0 rfl) ?_
        refine lv_ifnull hx hb dX2_take_34 ?_
        refine lv_aload_n hx hb dX2_take_37 rfl (lv_at hl 1 rfl) ?_
        refine tc_get (v := .int (x.1 26 b5)) hx hb hts hinX1 hown hK (hW.c g6) (C := RX1) (T := TX1) (N := 8) rfl 6 (by decide) (hts (.fieldLink RX2 105 "TreadCranes$Crane" "hookHeight" "I") (List.mem_of_getElem? (i := 7) rfl)) (fun _ h9 => h9) rfl dX2_take_38 ?_
        refine lv_aload_n hx hb dX2_take_41 rfl (lv_at hl 2 rfl) ?_
        refine lv_aload_n hx hb dX2_take_42 rfl (lv_at hl 1 rfl) ?_
        refine tc_get (v := .int (x.1 25 b5)) hx hb hts hinX1 hown hK (hW.c g6) (C := RX1) (T := TX1) (N := 8) rfl 5 (by decide) (hts (.fieldLink RX2 108 "TreadCranes$Crane" "hookPlace" "I") (List.mem_of_getElem? (i := 5) rfl)) (fun _ h9 => h9) rfl dX2_take_43 ?_
        obtain ⟨r15, h16, hF⟩ := tc_bi hF
        refine tc_cr (W.runV (As := [.int (x.1 25 b5)]) (rest := [.int (x.1 26 b5)]) ⟨hx, hb, hml, hown, hts⟩ (mt_X2_heightOf l D cU cO cI e0 A E x (x.1 25 b5) r15 h16) (cwV 1 hts gX2_take_X2_heightOf rfl rfl rfl (by decide +kernel) ⟨Nat.le_of_ble_eq_true rfl, Nat.le_of_ble_eq_true rfl⟩) ⟨fun a U g mk q => ⟨q.1, q.2.1, q.2.2.call⟩, tc_rcv (hW.o) hK rfl, fun U hU hW9 => ⟨rfl, by rw [hU]; exact hW, hKC.warm hW9⟩⟩ rfl rfl hl.1 rfl (lv_room (Nat.le_of_ble_eq_true rfl)) dX2_take_46 ⟨Nat.le_of_ble_eq_true rfl, Nat.le_of_ble_eq_true rfl⟩) ?_
        refine lv_icmp_eq (tgt := 62) hx hb dX2_take_49 (by decide) (fun c17 => ?_) (fun c17 => ?_)
        · have hF := tc_it hF c17
          refine lv_aload_n hx hb dX2_take_62 rfl (lv_at hl 2 rfl) ?_
          refine lv_aload_n hx hb dX2_take_63 rfl (lv_at hl 1 rfl) ?_
          refine tc_get (v := .int (x.1 25 b5)) hx hb hts hinX1 hown hK (hW.c g6) (C := RX1) (T := TX1) (N := 8) rfl 5 (by decide) (hts (.fieldLink RX2 108 "TreadCranes$Crane" "hookPlace" "I") (List.mem_of_getElem? (i := 5) rfl)) (fun _ h9 => h9) rfl dX2_take_64 ?_
          obtain ⟨x18, h19, hF⟩ := tc_bi hF
          refine tc_cwv (va_runV (As := [.int (x.1 25 b5)]) (rest := []) ⟨hx, hb, hml, hown, hts⟩ (mt_X2_removeUppermost l D cU cO cI e0 A E x (x.1 25 b5) x18 h19) (cwV 1 hts gX2_take_X2_removeUppermost rfl rfl rfl (by decide +kernel) ⟨Nat.le_of_ble_eq_true rfl, Nat.le_of_ble_eq_true rfl⟩) ⟨fun a U g mk q => ⟨q.1, q.2.1, q.2.2.call⟩, tc_rcv (hW.o) hK rfl, fun U hU hW9 => ⟨rfl, by rw [hU]; exact hW, hKX.go hS hU hW9⟩⟩ rfl rfl hl.1 rfl (lv_room (Nat.le_of_ble_eq_true rfl)) dX2_take_67 ⟨Nat.le_of_ble_eq_true rfl, Nat.le_of_ble_eq_true rfl⟩) hS (fun _ _ h => h) (fun _ h => h) (fun H locs hW z1 o1 hS => ?_)
          refine lv_aload_n hx hb dX2_take_70 rfl (lv_at hl 0 rfl) ?_
          refine lv_iload_n hx hb dX2_take_71 rfl (lv_at hl 3 rfl) ?_
          obtain ⟨g20, hF⟩ := tc_ob hF
          refine tc_put (v := .int a1) (ty := .int) hx hb hts hinX0 tyX0 tyX0_ok nmX0 hown hK (hW.b g20) hS (hW.own (tc_lv.b g20)) (C := RX0) (T := TX0) (N := 7) rfl 5 (by decide) (hts (.fieldLink RX2 158 "TreadCranes$Barrel" "crane" "I") (List.mem_of_getElem? (i := 8) rfl)) (fun _ h9 => h9) rfl (by decide +kernel) rfl rfl (Nat.le_of_ble_eq_true rfl) dX2_take_72 (fun H locs e1 z1 o1 hS => ?_)
          obtain ⟨x21, ex21⟩ : ∃ z : tc_X, z = tc_si x18 14 j10 a1 := ⟨_, rfl⟩
          have hF := tc_lt hF ex21
          have hW : tc_WC D cU cO e0 A E x21 H := by rw [ex21]; exact hW.sB g20 (by decide) (by decide) (by rw [tc_e14]; exact e1) o1
          have g22 : j10 < tc_nb x21 := by rw [ex21]; exact g20
          refine lv_aload_n hx hb dX2_take_75 rfl (lv_at hl 1 rfl) ?_
          refine lv_aload_n hx hb dX2_take_76 rfl (lv_at hl 0 rfl) ?_
          obtain ⟨g23, hF⟩ := tc_ob hF
          refine tc_put (v := .ref (E (6 + j10))) (ty := .object "TreadCranes$Barrel") hx hb hts hinX1 tyX1 tyX1_ok nmX1 hown hK (hW.c g23) hS (hW.own (tc_lv.c g23)) (C := RX1) (T := TX1) (N := 8) rfl 7 (by decide) (hts (.fieldLink RX2 130 "TreadCranes$Crane" "load" "LTreadCranes$Barrel;") (List.mem_of_getElem? (i := 6) rfl)) (fun _ h9 => h9) rfl (by decide +kernel) rfl rfl (Nat.le_of_ble_eq_true rfl) dX2_take_77 (fun H locs e1 z1 o1 hS => ?_)
          obtain ⟨x24, ex24⟩ : ∃ z : tc_X, z = tc_sr x21 2 b5 (some j10) := ⟨_, rfl⟩
          have hF := tc_lt hF ex24
          have hW : tc_WC D cU cO e0 A E x24 H := by rw [ex24]; exact hW.sCr g23 (by simp only [tc_cC, tc_sr_eq, tc_sr_1]; exact e1) o1
          have g25 : j10 < tc_nb x24 := by rw [ex24]; exact g22
          have g26 : b5 < tc_nc x24 := by rw [ex24]; exact g23
          refine lv_aload_n hx hb dX2_take_80 rfl (lv_at hl 0 rfl) ?_
          refine tc_get (v := .int (x24.1 10 j10)) hx hb hts hinX0 hown hK (hW.b g25) (C := RX0) (T := TX0) (N := 7) rfl 0 (by decide) (hts (.fieldLink RX2 64 "TreadCranes$Barrel" "number" "I") (List.mem_of_getElem? (i := 9) rfl)) (fun _ h9 => h9) rfl dX2_take_81 ?_
          obtain ⟨h91, h92, h93⟩ := tc_pr3 (Option.some.inj hF)
          refine W.widen (k := 2) (n := 12) (Nat.le_of_ble_eq_true rfl) (Nat.le_of_ble_eq_true rfl) ?_
          refine vx_ret ?_
          exact W.iret hx hb hr (fun t ht hW9 => ⟨⟨h91.symm, by rw [← h92], by rw [← h93, ht]; exact hW⟩, tc_F hS ht⟩) hS.2.2 dX2_take_84
        · have hF := tc_if hF c17
          obtain ⟨h91, h92, h93⟩ := tc_pr3 (Option.some.inj hF)
          obtain ⟨sa, hsa⟩ := hKX.2.2.2.2.2.1 _ (List.mem_of_getElem? (l := tc_tx) (i := 9) rfl)
          exact vx_throwS hx hb hst (names := ["java/lang/RuntimeException", "java/lang/Exception"]) hown tc_fit.2.2.1 tc_fit.2.2.2 (hts (.classLink RX2 40 "java/lang/IllegalStateException") (List.mem_of_getElem? (i := 1) rfl)) (hts (.initialized "java/lang/IllegalStateException") (List.mem_of_getElem? (i := 2) rfl)) hsa (tc_hat (fun w9 h9 => hts w9 (List.mem_cons_of_mem _ (List.mem_append_left _ (List.mem_append_right _ h9)))) tc_n3 hKX.2.2.2.2.2.2.1 hKX.2.2.2.2.2.2.2.2.2.1) tc_o3 hKX.2.2.1 hKX.2.2.2.1 hS (by rw [hml]; exact hl.1) dX2_take_52 dX2_take_55 dX2_take_56 dX2_take_58 dX2_take_61 (fun z9 h9 => (hno z9 h9).elim) (by decide) (Nat.le_of_ble_eq_true rfl) (Nat.le_of_ble_eq_true rfl) (Nat.le_of_ble_eq_true rfl) hlocks (h91 ▸ tc_xx (k := 3) (by decide) hS hW) hS.2.2 (Nat.le_of_ble_eq_true rfl) (Nat.le_of_ble_eq_true rfl)
      · have hF := tc_os hF o13
        refine lv_ifnonnull (tgt := 52) hx hb dX2_take_30 (by decide) ?_
        obtain ⟨h91, h92, h93⟩ := tc_pr3 (Option.some.inj hF)
        obtain ⟨sa, hsa⟩ := hKX.2.2.2.2.2.1 _ (List.mem_of_getElem? (l := tc_tx) (i := 9) rfl)
        exact vx_throwS hx hb hst (names := ["java/lang/RuntimeException", "java/lang/Exception"]) hown tc_fit.2.2.1 tc_fit.2.2.2 (hts (.classLink RX2 40 "java/lang/IllegalStateException") (List.mem_of_getElem? (i := 1) rfl)) (hts (.initialized "java/lang/IllegalStateException") (List.mem_of_getElem? (i := 2) rfl)) hsa (tc_hat (fun w9 h9 => hts w9 (List.mem_cons_of_mem _ (List.mem_append_left _ (List.mem_append_right _ h9)))) tc_n3 hKX.2.2.2.2.2.2.1 hKX.2.2.2.2.2.2.2.2.2.1) tc_o3 hKX.2.2.1 hKX.2.2.2.1 hS (by rw [hml]; exact hl.1) dX2_take_52 dX2_take_55 dX2_take_56 dX2_take_58 dX2_take_61 (fun z9 h9 => (hno z9 h9).elim) (by decide) (Nat.le_of_ble_eq_true rfl) (Nat.le_of_ble_eq_true rfl) (Nat.le_of_ble_eq_true rfl) hlocks (h91 ▸ tc_xx (k := 3) (by decide) hS hW) hS.2.2 (Nat.le_of_ble_eq_true rfl) (Nat.le_of_ble_eq_true rfl)

def f_X2_lay (x : tc_X) (a1 : Int32) : Option (Nat × Int32 × tc_X) := Option.bind (f_X2_requireCrane x a1) (fun k1 => (if k1 = 0 then (if ¬ a1 < 0 ∧ a1.toNatClampNeg < tc_nc x then tc_let a1.toNatClampNeg (fun b5 => (tc_oc (x.2.1 2 b5) (Option.bind (f_X2_heightOf x (x.1 25 b5)) (fun r9 => tc_let (r9 + 1) (fun v11 => some (3, 0, x)))) (fun j8 => Option.bind (f_X2_heightOf x (x.1 25 b5)) (fun r12 => tc_let (r12 + 1) (fun v14 => (if (x.1 26 b5) = v14 then (if v14 ≤ 8 then Option.bind (f_X2_hooksAllow x (x.1 25 b5) v14 a1) (fun r17 => (if r17 = 0 then some (3, 0, x) else tc_let (tc_sr x 2 b5 none) (fun x20 => (if j8 < tc_nb x20 then tc_let (tc_si x20 14 j8 (-1)) (fun x23 => Option.bind (f_X2_putUpon x23 (x23.1 25 b5) j8) (fun x26 => some (0, v14, x26))) else none)))) else some (3, 0, x)) else some (3, 0, x))))))) else none) else some (k1, 0, x)))
set_option maxHeartbeats 4000000 in
set_option maxRecDepth 100000 in
theorem mt_X2_lay (l : Launch) (hst : l.stackTraces = false) (D : va_G) (cU cO cI : ClassId) (e0 : Nat) (A : Nat → Prop) (E : Nat → Nat) (x : tc_X) (a1 : Int32) (k : Nat) (r : Int32) (z : tc_X) (hF : f_X2_lay x a1 = some (k, r, z)) : vx_Met l yX2_lay wsX2_lay ({ frames := 7, cells := 2, slots := 12, locals := 107 } : Room) (va_Pc [.ref (E 0), .int a1] (fun U => tc_WC D cU cO e0 A E x U.heap ∧ tc_KX D cU cO cI e0 A U)) (tc_Qx k (some (.int r)) (tc_WC D cU cO e0 A E z) A) (tc_XC k (tc_WC D cU cO e0 A E x) A) 2 12 A := by
  refine vx_ofW (cc := cX2_lay) (maxL := 5) (ret := (some .int)) (by decide) rfl ?_
  intro p e s m args below meth c s₁ B hml hno hv
  obtain ⟨rfl, hW, hKX⟩ := hv
  have hx := B.exec
  have hb := B.bytes
  have hr := B.returns
  have hts := atoms_spec (ws := wsX2_lay) B.pre
  have hown : s.vm.findClass RX2 = some m.cls := findClass_of_methodNamed B.named
  have hlocks := B.notSynchronized
  have hKC := hKX.1
  have hK := hKC.1
  have hA := hKX.2.1
  have hinX0 : ∀ w ∈ wsX00, w ∈ wsX2_lay := fun w9 h9 => List.mem_cons_of_mem _ (List.mem_append_left _ (List.mem_append_left _ (List.mem_append_left _ (List.mem_append_right _ h9))))
  have hinX1 : ∀ w ∈ wsX10, w ∈ wsX2_lay := fun w9 h9 => List.mem_cons_of_mem _ (List.mem_append_left _ (List.mem_append_left _ (List.mem_append_left _ (List.mem_append_left _ (List.mem_append_right _ h9)))))
  have hinX2 : ∀ w ∈ wsX20, w ∈ wsX2_lay := fun w9 h9 => List.mem_cons_of_mem _ (List.mem_append_left _ (List.mem_append_left _ (List.mem_append_left _ (List.mem_append_left _ (List.mem_append_left _ (List.mem_append_right _ h9))))))
  have hS : va_S A s.heap s.heap [] := va_S.rf
  have hl := lv_entry ([.ref (E 0), .int a1]) (n := 5) (Nat.le_of_ble_eq_true rfl)
  rw [lg_entry_eq]
  generalize (lg_sl ([.ref (E 0), .int a1]) ++ List.replicate (5 - (lg_sl ([.ref (E 0), .int a1])).length) Slot.unset).toArray = ls at hl ⊢
  have hl : lv_has ls 5 [(0, .ref (E 0)), (1, .int a1)] := hl
  refine lv_aload_n hx hb dX2_lay_0 rfl (lv_at hl 0 rfl) ?_
  refine lv_iload_n hx hb dX2_lay_1 rfl (lv_at hl 1 rfl) ?_
  obtain ⟨k1, h2, hF⟩ := tc_bi hF
  refine tc_cxv (vx_runV (As := [.int a1]) (rest := []) ⟨hx, hb, hml, hown, hts⟩ (mt_X2_requireCrane l hst D cU cO cI e0 A E x a1 k1 h2) (cwV 1 hts gX2_lay_X2_requireCrane rfl rfl rfl (by decide +kernel) ⟨Nat.le_of_ble_eq_true rfl, Nat.le_of_ble_eq_true rfl⟩) ⟨fun a U g mk q => ⟨q.1, q.2.1, q.2.2.call⟩, tc_rcv (hW.o) hK rfl, fun U hU hW9 => ⟨rfl, by rw [hU]; exact hW, hKX.go hS hU hW9⟩⟩ rfl rfl hl.1 rfl (lv_room (Nat.le_of_ble_eq_true rfl)) dX2_lay_2 ⟨Nat.le_of_ble_eq_true rfl, Nat.le_of_ble_eq_true rfl⟩) hS (fun _ _ h => h) (fun _ h => h) (fun _ _ h => h) (fun ce q9 H locs c3 hW z1 o1 hS hce hcv hcl => ?_) (fun H locs c3 hW z1 o1 hS => ?_)
  · have hF := tc_if hF c3
    obtain ⟨h91, h92, h93⟩ := tc_pr3 (Option.some.inj hF)
    exact vx_out (fun z9 h9 => (hno z9 h9).elim) hlocks hce hcv hcl (fun t ht hal => ⟨⟨h91 ▸ c3, by rw [h91], by rw [ht]; exact hW⟩, tc_F hS ht⟩) hS.2.2 (Nat.le_of_ble_eq_true rfl) (Nat.le_of_ble_eq_true rfl)
  · have hF := tc_it hF c3
    refine lv_aload_n hx hb dX2_lay_5 rfl (lv_at hl 0 rfl) ?_
    refine tc_get (v := .ref (E 3)) hx hb hts hinX2 hown hK (hW.o) (C := RX2) (T := TX2) (N := 4) rfl 2 (by decide) (hts (.fieldLink RX2 22 "TreadCranes" "cranes" "Ljava/util/ArrayList;") (List.mem_of_getElem? (i := 3) rfl)) (fun _ h9 => h9) rfl dX2_lay_6 ?_
    refine lv_iload_n hx hb dX2_lay_9 rfl (lv_at hl 1 rfl) ?_
    obtain ⟨g4, hF⟩ := tc_ob hF
    obtain ⟨b5, eb5⟩ : ∃ z : Nat, z = a1.toNatClampNeg := ⟨_, rfl⟩
    have hF := tc_lt hF eb5
    have g6 : b5 < tc_nc x := by rw [eb5]; exact g4.2
    obtain ⟨mo, cap, fl, ha1, ha2, ha3, ha4, ha5⟩ := tc_Li.full hW.2.2.2.1 (Nat.lt_of_le_of_lt (Nat.zero_le _) g4.2)
    refine tc_cr (W.runV (As := [.int a1]) (rest := []) ⟨hx, hb, hml, hown, hts⟩ (mt_lget l D cO (E 3) mo (E 5) (tc_nc x) cap fl a1 (E (46 + b5)) g4 ha3 ha4 (by rw [eb5]; exact ha5 _ g4.2)) (cwV 1 hts gX2_lay_Jx4a65c_get_915e3 rfl rfl rfl (by decide +kernel) ⟨Nat.le_of_ble_eq_true rfl, Nat.le_of_ble_eq_true rfl⟩) ⟨fun a U g mk q => ⟨q.1, q.2.1, q.2.2.1, va_K.moved (Vm.Alike.refl U.vm) q.2.2.2⟩, tc_rcv ha1 hK rfl, fun U hU hW9 => ⟨rfl, by rw [hU]; exact ha1, by rw [hU]; exact ha2, va_K.moved hW9.alike (hK.sub [1] rfl)⟩⟩ rfl rfl hl.1 rfl (lv_room (Nat.le_of_ble_eq_true rfl)) dX2_lay_10 ⟨Nat.le_of_ble_eq_true rfl, Nat.le_of_ble_eq_true rfl⟩) ?_
    refine va_castS hx hb hown (hts (.classLink RX2 81 "TreadCranes$Crane") (List.mem_of_getElem? (i := 4) rfl)) ((hK.1 2 _ rfl).2) (tc_rcv (hW.c g6) hK rfl) dX2_lay_13 ?_
    refine lv_astore_n (lv' := [(2, .ref (E (46 + b5))), (0, .ref (E 0)), (1, .int a1)]) hx hb dX2_lay_16 rfl hl (by decide) rfl (fun ls hl => ?_)
    refine lv_aload_n hx hb dX2_lay_17 rfl (lv_at hl 0 rfl) ?_
    refine tc_get (v := va_rf (tc_ad E 6 (x.2.1 2 b5))) hx hb hts hinX1 hown hK (hW.c g6) (C := RX1) (T := TX1) (N := 8) rfl 7 (by decide) (hts (.fieldLink RX2 130 "TreadCranes$Crane" "load" "LTreadCranes$Barrel;") (List.mem_of_getElem? (i := 5) rfl)) (fun _ h9 => h9) rfl dX2_lay_18 ?_
    refine tc_opt (fun o7 => ?_) (fun j8 o7 => ?_)
    · have hF := tc_on hF o7
      refine lv_astore_nN (lv' := [(3, .null), (2, .ref (E (46 + b5))), (0, .ref (E 0)), (1, .int a1)]) hx hb dX2_lay_21 rfl hl (by decide) rfl (fun ls hl => ?_)
      refine lv_aload_n hx hb dX2_lay_22 rfl (lv_at hl 2 rfl) ?_
      refine lv_aload_n hx hb dX2_lay_23 rfl (lv_at hl 1 rfl) ?_
      refine tc_get (v := .int (x.1 25 b5)) hx hb hts hinX1 hown hK (hW.c g6) (C := RX1) (T := TX1) (N := 8) rfl 5 (by decide) (hts (.fieldLink RX2 108 "TreadCranes$Crane" "hookPlace" "I") (List.mem_of_getElem? (i := 6) rfl)) (fun _ h9 => h9) rfl dX2_lay_24 ?_
      obtain ⟨r9, h10, hF⟩ := tc_bi hF
      refine tc_cr (W.runV (As := [.int (x.1 25 b5)]) (rest := []) ⟨hx, hb, hml, hown, hts⟩ (mt_X2_heightOf l D cU cO cI e0 A E x (x.1 25 b5) r9 h10) (cwV 1 hts gX2_lay_X2_heightOf rfl rfl rfl (by decide +kernel) ⟨Nat.le_of_ble_eq_true rfl, Nat.le_of_ble_eq_true rfl⟩) ⟨fun a U g mk q => ⟨q.1, q.2.1, q.2.2.call⟩, tc_rcv (hW.o) hK rfl, fun U hU hW9 => ⟨rfl, by rw [hU]; exact hW, hKC.warm hW9⟩⟩ rfl rfl hl.1 rfl (lv_room (Nat.le_of_ble_eq_true rfl)) dX2_lay_27 ⟨Nat.le_of_ble_eq_true rfl, Nat.le_of_ble_eq_true rfl⟩) ?_
      refine lv_iconst (v := 1) hx hb dX2_lay_30 (by decide) ?_
      refine lv_iadd hx hb dX2_lay_31 ?_
      refine lv_topi (fun v11 ev11 => ?_)
      have hF := tc_lt hF ev11
      refine lv_istore (lv' := [(4, .int v11), (3, .null), (2, .ref (E (46 + b5))), (0, .ref (E 0)), (1, .int a1)]) hx hb dX2_lay_32 hl (by decide) rfl (fun ls hl => ?_)
      refine lv_aload_nN hx hb dX2_lay_34 rfl (lv_at hl 1 rfl) ?_
      refine lv_ifnullN (tgt := 54) hx hb dX2_lay_35 (by decide) ?_
      obtain ⟨h91, h92, h93⟩ := tc_pr3 (Option.some.inj hF)
      obtain ⟨sa, hsa⟩ := hKX.2.2.2.2.2.1 _ (List.mem_of_getElem? (l := tc_tx) (i := 10) rfl)
      exact vx_throwS hx hb hst (names := ["java/lang/RuntimeException", "java/lang/Exception"]) hown tc_fit.2.2.1 tc_fit.2.2.2 (hts (.classLink RX2 40 "java/lang/IllegalStateException") (List.mem_of_getElem? (i := 1) rfl)) (hts (.initialized "java/lang/IllegalStateException") (List.mem_of_getElem? (i := 2) rfl)) hsa (tc_hat (fun w9 h9 => hts w9 (List.mem_cons_of_mem _ (List.mem_append_left _ (List.mem_append_right _ h9)))) tc_n3 hKX.2.2.2.2.2.2.1 hKX.2.2.2.2.2.2.2.2.2.1) tc_o3 hKX.2.2.1 hKX.2.2.2.1 hS (by rw [hml]; exact hl.1) dX2_lay_54 dX2_lay_57 dX2_lay_58 dX2_lay_60 dX2_lay_63 (fun z9 h9 => (hno z9 h9).elim) (by decide) (Nat.le_of_ble_eq_true rfl) (Nat.le_of_ble_eq_true rfl) (Nat.le_of_ble_eq_true rfl) hlocks (h91 ▸ tc_xx (k := 3) (by decide) hS hW) hS.2.2 (Nat.le_of_ble_eq_true rfl) (Nat.le_of_ble_eq_true rfl)
    · have hF := tc_os hF o7
      refine lv_astore_n (lv' := [(3, .ref (E (6 + j8))), (2, .ref (E (46 + b5))), (0, .ref (E 0)), (1, .int a1)]) hx hb dX2_lay_21 rfl hl (by decide) rfl (fun ls hl => ?_)
      refine lv_aload_n hx hb dX2_lay_22 rfl (lv_at hl 2 rfl) ?_
      refine lv_aload_n hx hb dX2_lay_23 rfl (lv_at hl 1 rfl) ?_
      refine tc_get (v := .int (x.1 25 b5)) hx hb hts hinX1 hown hK (hW.c g6) (C := RX1) (T := TX1) (N := 8) rfl 5 (by decide) (hts (.fieldLink RX2 108 "TreadCranes$Crane" "hookPlace" "I") (List.mem_of_getElem? (i := 6) rfl)) (fun _ h9 => h9) rfl dX2_lay_24 ?_
      obtain ⟨r12, h13, hF⟩ := tc_bi hF
      refine tc_cr (W.runV (As := [.int (x.1 25 b5)]) (rest := []) ⟨hx, hb, hml, hown, hts⟩ (mt_X2_heightOf l D cU cO cI e0 A E x (x.1 25 b5) r12 h13) (cwV 1 hts gX2_lay_X2_heightOf rfl rfl rfl (by decide +kernel) ⟨Nat.le_of_ble_eq_true rfl, Nat.le_of_ble_eq_true rfl⟩) ⟨fun a U g mk q => ⟨q.1, q.2.1, q.2.2.call⟩, tc_rcv (hW.o) hK rfl, fun U hU hW9 => ⟨rfl, by rw [hU]; exact hW, hKC.warm hW9⟩⟩ rfl rfl hl.1 rfl (lv_room (Nat.le_of_ble_eq_true rfl)) dX2_lay_27 ⟨Nat.le_of_ble_eq_true rfl, Nat.le_of_ble_eq_true rfl⟩) ?_
      refine lv_iconst (v := 1) hx hb dX2_lay_30 (by decide) ?_
      refine lv_iadd hx hb dX2_lay_31 ?_
      refine lv_topi (fun v14 ev14 => ?_)
      have hF := tc_lt hF ev14
      refine lv_istore (lv' := [(4, .int v14), (3, .ref (E (6 + j8))), (2, .ref (E (46 + b5))), (0, .ref (E 0)), (1, .int a1)]) hx hb dX2_lay_32 hl (by decide) rfl (fun ls hl => ?_)
      refine lv_aload_n hx hb dX2_lay_34 rfl (lv_at hl 1 rfl) ?_
      refine lv_ifnull hx hb dX2_lay_35 ?_
      refine lv_aload_n hx hb dX2_lay_38 rfl (lv_at hl 2 rfl) ?_
      refine tc_get (v := .int (x.1 26 b5)) hx hb hts hinX1 hown hK (hW.c g6) (C := RX1) (T := TX1) (N := 8) rfl 6 (by decide) (hts (.fieldLink RX2 105 "TreadCranes$Crane" "hookHeight" "I") (List.mem_of_getElem? (i := 7) rfl)) (fun _ h9 => h9) rfl dX2_lay_39 ?_
      refine lv_iload hx hb dX2_lay_42 (lv_at hl 0 rfl) ?_
      refine lv_icmp_ne (tgt := 54) hx hb dX2_lay_44 (by decide) (fun c15 => ?_) (fun c15 => ?_)
      · have hF := tc_if hF c15
        obtain ⟨h91, h92, h93⟩ := tc_pr3 (Option.some.inj hF)
        obtain ⟨sa, hsa⟩ := hKX.2.2.2.2.2.1 _ (List.mem_of_getElem? (l := tc_tx) (i := 10) rfl)
        exact vx_throwS hx hb hst (names := ["java/lang/RuntimeException", "java/lang/Exception"]) hown tc_fit.2.2.1 tc_fit.2.2.2 (hts (.classLink RX2 40 "java/lang/IllegalStateException") (List.mem_of_getElem? (i := 1) rfl)) (hts (.initialized "java/lang/IllegalStateException") (List.mem_of_getElem? (i := 2) rfl)) hsa (tc_hat (fun w9 h9 => hts w9 (List.mem_cons_of_mem _ (List.mem_append_left _ (List.mem_append_right _ h9)))) tc_n3 hKX.2.2.2.2.2.2.1 hKX.2.2.2.2.2.2.2.2.2.1) tc_o3 hKX.2.2.1 hKX.2.2.2.1 hS (by rw [hml]; exact hl.1) dX2_lay_54 dX2_lay_57 dX2_lay_58 dX2_lay_60 dX2_lay_63 (fun z9 h9 => (hno z9 h9).elim) (by decide) (Nat.le_of_ble_eq_true rfl) (Nat.le_of_ble_eq_true rfl) (Nat.le_of_ble_eq_true rfl) hlocks (h91 ▸ tc_xx (k := 3) (by decide) hS hW) hS.2.2 (Nat.le_of_ble_eq_true rfl) (Nat.le_of_ble_eq_true rfl)
      · have hF := tc_it hF c15
        refine lv_iload hx hb dX2_lay_47 (lv_at hl 0 rfl) ?_
        refine lv_bipush (v := 8) hx hb dX2_lay_49 (by decide) ?_
        refine lv_icmp_le (tgt := 64) hx hb dX2_lay_51 (by decide) (fun c16 => ?_) (fun c16 => ?_)
        · have hF := tc_it hF c16
          refine lv_aload_n hx hb dX2_lay_64 rfl (lv_at hl 3 rfl) ?_
          refine lv_aload_n hx hb dX2_lay_65 rfl (lv_at hl 2 rfl) ?_
          refine tc_get (v := .int (x.1 25 b5)) hx hb hts hinX1 hown hK (hW.c g6) (C := RX1) (T := TX1) (N := 8) rfl 5 (by decide) (hts (.fieldLink RX2 108 "TreadCranes$Crane" "hookPlace" "I") (List.mem_of_getElem? (i := 6) rfl)) (fun _ h9 => h9) rfl dX2_lay_66 ?_
          refine lv_iload hx hb dX2_lay_69 (lv_at hl 0 rfl) ?_
          refine lv_iload_n hx hb dX2_lay_71 rfl (lv_at hl 4 rfl) ?_
          obtain ⟨r17, h18, hF⟩ := tc_bi hF
          refine tc_cr (W.runV (As := [.int (x.1 25 b5), .int v14, .int a1]) (rest := []) ⟨hx, hb, hml, hown, hts⟩ (mt_X2_hooksAllow l D cU cO cI e0 A E x (x.1 25 b5) v14 a1 r17 h18) (cwV 3 hts gX2_lay_X2_hooksAllow rfl rfl rfl (by decide +kernel) ⟨Nat.le_of_ble_eq_true rfl, Nat.le_of_ble_eq_true rfl⟩) ⟨fun a U g mk q => ⟨q.1, q.2.1, q.2.2.call⟩, tc_rcv (hW.o) hK rfl, fun U hU hW9 => ⟨rfl, by rw [hU]; exact hW, hKC.warm hW9⟩⟩ rfl rfl hl.1 rfl (lv_room (Nat.le_of_ble_eq_true rfl)) dX2_lay_72 ⟨Nat.le_of_ble_eq_true rfl, Nat.le_of_ble_eq_true rfl⟩) ?_
          refine lv_if_ne (tgt := 88) hx hb dX2_lay_75 (by decide) (fun c19 => ?_) (fun c19 => ?_)
          · have hF := tc_if hF c19
            refine lv_aload_n hx hb dX2_lay_88 rfl (lv_at hl 2 rfl) ?_
            refine lv_null hx hb dX2_lay_89 ?_
            refine tc_put (v := .null) (ty := .object "TreadCranes$Barrel") hx hb hts hinX1 tyX1 tyX1_ok nmX1 hown hK (hW.c g6) hS (hW.own (tc_lv.c g6)) (C := RX1) (T := TX1) (N := 8) rfl 7 (by decide) (hts (.fieldLink RX2 130 "TreadCranes$Crane" "load" "LTreadCranes$Barrel;") (List.mem_of_getElem? (i := 5) rfl)) (fun _ h9 => h9) rfl (by decide +kernel) rfl rfl (Nat.le_of_ble_eq_true rfl) dX2_lay_90 (fun H locs e1 z1 o1 hS => ?_)
            obtain ⟨x20, ex20⟩ : ∃ z : tc_X, z = tc_sr x 2 b5 none := ⟨_, rfl⟩
            have hF := tc_lt hF ex20
            have hW : tc_WC D cU cO e0 A E x20 H := by rw [ex20]; exact hW.sCr g6 (by simp only [tc_cC, tc_sr_eq, tc_sr_1]; exact e1) o1
            have g21 : b5 < tc_nc x20 := by rw [ex20]; exact g6
            refine lv_aload_n hx hb dX2_lay_93 rfl (lv_at hl 1 rfl) ?_
            refine lv_iconst (v := (-1)) hx hb dX2_lay_94 (by decide) ?_
            obtain ⟨g22, hF⟩ := tc_ob hF
            refine tc_put (v := .int (-1)) (ty := .int) hx hb hts hinX0 tyX0 tyX0_ok nmX0 hown hK (hW.b g22) hS (hW.own (tc_lv.b g22)) (C := RX0) (T := TX0) (N := 7) rfl 5 (by decide) (hts (.fieldLink RX2 158 "TreadCranes$Barrel" "crane" "I") (List.mem_of_getElem? (i := 8) rfl)) (fun _ h9 => h9) rfl (by decide +kernel) rfl rfl (Nat.le_of_ble_eq_true rfl) dX2_lay_95 (fun H locs e1 z1 o1 hS => ?_)
            obtain ⟨x23, ex23⟩ : ∃ z : tc_X, z = tc_si x20 14 j8 (-1) := ⟨_, rfl⟩
            have hF := tc_lt hF ex23
            have hW : tc_WC D cU cO e0 A E x23 H := by rw [ex23]; exact hW.sB g22 (by decide) (by decide) (by rw [tc_e14]; exact e1) o1
            have g24 : b5 < tc_nc x23 := by rw [ex23]; exact g21
            have g25 : j8 < tc_nb x23 := by rw [ex23]; exact g22
            refine lv_aload_n hx hb dX2_lay_98 rfl (lv_at hl 3 rfl) ?_
            refine lv_aload_n hx hb dX2_lay_99 rfl (lv_at hl 2 rfl) ?_
            refine tc_get (v := .int (x23.1 25 b5)) hx hb hts hinX1 hown hK (hW.c g24) (C := RX1) (T := TX1) (N := 8) rfl 5 (by decide) (hts (.fieldLink RX2 108 "TreadCranes$Crane" "hookPlace" "I") (List.mem_of_getElem? (i := 6) rfl)) (fun _ h9 => h9) rfl dX2_lay_100 ?_
            refine lv_aload_n hx hb dX2_lay_103 rfl (lv_at hl 1 rfl) ?_
            obtain ⟨x26, h27, hF⟩ := tc_bi hF
            refine tc_cwv (va_runV (As := [.int (x23.1 25 b5), .ref (E (6 + j8))]) (rest := []) ⟨hx, hb, hml, hown, hts⟩ (mt_X2_putUpon l D cU cO cI e0 A E x23 (x23.1 25 b5) j8 x26 h27) (cwV 2 hts gX2_lay_X2_putUpon rfl rfl rfl (by decide +kernel) ⟨Nat.le_of_ble_eq_true rfl, Nat.le_of_ble_eq_true rfl⟩) ⟨fun a U g mk q => ⟨q.1, q.2.1, q.2.2.call⟩, tc_rcv (hW.o) hK rfl, fun U hU hW9 => ⟨rfl, by rw [hU]; exact hW, hKX.go hS hU hW9⟩⟩ rfl rfl hl.1 rfl (lv_room (Nat.le_of_ble_eq_true rfl)) dX2_lay_104 ⟨Nat.le_of_ble_eq_true rfl, Nat.le_of_ble_eq_true rfl⟩) hS (fun _ _ h => h) (fun _ h => h) (fun H locs hW z1 o1 hS => ?_)
            refine lv_iload hx hb dX2_lay_107 (lv_at hl 0 rfl) ?_
            obtain ⟨h91, h92, h93⟩ := tc_pr3 (Option.some.inj hF)
            refine W.widen (k := 2) (n := 12) (Nat.le_of_ble_eq_true rfl) (Nat.le_of_ble_eq_true rfl) ?_
            refine vx_ret ?_
            exact W.iret hx hb hr (fun t ht hW9 => ⟨⟨h91.symm, by rw [← h92], by rw [← h93, ht]; exact hW⟩, tc_F hS ht⟩) hS.2.2 dX2_lay_109
          · have hF := tc_it hF c19
            obtain ⟨h91, h92, h93⟩ := tc_pr3 (Option.some.inj hF)
            obtain ⟨sa, hsa⟩ := hKX.2.2.2.2.2.1 _ (List.mem_of_getElem? (l := tc_tx) (i := 11) rfl)
            exact vx_throwS hx hb hst (names := ["java/lang/RuntimeException", "java/lang/Exception"]) hown tc_fit.2.2.1 tc_fit.2.2.2 (hts (.classLink RX2 40 "java/lang/IllegalStateException") (List.mem_of_getElem? (i := 1) rfl)) (hts (.initialized "java/lang/IllegalStateException") (List.mem_of_getElem? (i := 2) rfl)) hsa (tc_hat (fun w9 h9 => hts w9 (List.mem_cons_of_mem _ (List.mem_append_left _ (List.mem_append_right _ h9)))) tc_n3 hKX.2.2.2.2.2.2.1 hKX.2.2.2.2.2.2.2.2.2.1) tc_o3 hKX.2.2.1 hKX.2.2.2.1 hS (by rw [hml]; exact hl.1) dX2_lay_78 dX2_lay_81 dX2_lay_82 dX2_lay_84 dX2_lay_87 (fun z9 h9 => (hno z9 h9).elim) (by decide) (Nat.le_of_ble_eq_true rfl) (Nat.le_of_ble_eq_true rfl) (Nat.le_of_ble_eq_true rfl) hlocks (h91 ▸ tc_xx (k := 3) (by decide) hS hW) hS.2.2 (Nat.le_of_ble_eq_true rfl) (Nat.le_of_ble_eq_true rfl)
        · have hF := tc_if hF c16
          obtain ⟨h91, h92, h93⟩ := tc_pr3 (Option.some.inj hF)
          obtain ⟨sa, hsa⟩ := hKX.2.2.2.2.2.1 _ (List.mem_of_getElem? (l := tc_tx) (i := 10) rfl)
          exact vx_throwS hx hb hst (names := ["java/lang/RuntimeException", "java/lang/Exception"]) hown tc_fit.2.2.1 tc_fit.2.2.2 (hts (.classLink RX2 40 "java/lang/IllegalStateException") (List.mem_of_getElem? (i := 1) rfl)) (hts (.initialized "java/lang/IllegalStateException") (List.mem_of_getElem? (i := 2) rfl)) hsa (tc_hat (fun w9 h9 => hts w9 (List.mem_cons_of_mem _ (List.mem_append_left _ (List.mem_append_right _ h9)))) tc_n3 hKX.2.2.2.2.2.2.1 hKX.2.2.2.2.2.2.2.2.2.1) tc_o3 hKX.2.2.1 hKX.2.2.2.1 hS (by rw [hml]; exact hl.1) dX2_lay_54 dX2_lay_57 dX2_lay_58 dX2_lay_60 dX2_lay_63 (fun z9 h9 => (hno z9 h9).elim) (by decide) (Nat.le_of_ble_eq_true rfl) (Nat.le_of_ble_eq_true rfl) (Nat.le_of_ble_eq_true rfl) hlocks (h91 ▸ tc_xx (k := 3) (by decide) hS hW) hS.2.2 (Nat.le_of_ble_eq_true rfl) (Nat.le_of_ble_eq_true rfl)
