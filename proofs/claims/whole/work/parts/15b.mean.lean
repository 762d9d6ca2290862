def lp_X2_mean_6 : Nat → tc_X → Int32 → Int32 → Int32 → Option (UInt64)
  | 0, _, _, _, _ => none
  | n_6 + 1, x, w1, w2, w3 => (if (nI (tc_nb x)) ≤ w3 then (if w2 = 0 then some FP.dconst0 else some (FP.ddiv (FP.i2d w1) (FP.i2d w2))) else (if ¬ w3 < 0 ∧ w3.toNatClampNeg < tc_nb x then tc_let w3.toNatClampNeg (fun b7 => (if (x.1 15 b7) = 0 then tc_let (w1 + (x.1 11 b7)) (fun v11 => tc_let (w2 + 1) (fun v12 => tc_let (w3 + 1) (fun v13 => lp_X2_mean_6 n_6 x v11 v12 v13))) else tc_let (w3 + 1) (fun v10 => lp_X2_mean_6 n_6 x w1 w2 v10))) else none))
def f_X2_mean (x : tc_X)  : Option (UInt64) := lp_X2_mean_6 100 x 0 0 0
set_option maxHeartbeats 4000000 in
set_option maxRecDepth 100000 in
theorem mt_X2_mean (l : Launch) (D : va_G) (cU cO cI : ClassId) (e0 : Nat) (A : Nat → Prop) (E : Nat → Nat) (x : tc_X) (r : UInt64) (hF : f_X2_mean x = some r) : MetD lw_cs l yX2_mean wsX2_mean ({ frames := 3, cells := 0, slots := 0, locals := 67 } : Room) (va_Pc [.ref (E 0)] (fun U => tc_WC D cU cO e0 A E x U.heap ∧ tc_KC D cU cO cI U)) (tc_QD r (fun _ => True) (fun _ => False)) 0 0 (fun _ => False) := by
  refine MetD.ofW (cc := cX2_mean) (maxL := 5) (ret := (some .double)) (by decide) rfl ?_
  intro p e s m args below meth c s₁ B hml hv hd0
  change W p l e _ s m _ below meth c s.heap [] 0 0 _ _
  obtain ⟨rfl, hW, hKC⟩ := hv
  have hx := B.exec
  have hb := B.bytes
  have hr := B.returns
  have hts := atoms_spec (ws := wsX2_mean) B.pre
  have hown : s.vm.findClass RX2 = some m.cls := findClass_of_methodNamed B.named
  have hlocks := B.notSynchronized
  have hK := hKC.1
  have hinX0 : ∀ w ∈ wsX00, w ∈ wsX2_mean := fun w9 h9 => List.mem_cons_of_mem _ (List.mem_append_left _ (List.mem_append_right _ h9))
  have hinX2 : ∀ w ∈ wsX20, w ∈ wsX2_mean := fun w9 h9 => List.mem_cons_of_mem _ (List.mem_append_left _ (List.mem_append_left _ (List.mem_append_right _ h9)))
  have hl := lv_entry ([.ref (E 0)]) (n := 5) (Nat.le_of_ble_eq_true rfl)
  rw [lg_entry_eq]
  generalize (lg_sl ([.ref (E 0)]) ++ List.replicate (5 - (lg_sl ([.ref (E 0)])).length) Slot.unset).toArray = ls at hl ⊢
  have hl : lv_has ls 5 [(0, .ref (E 0))] := hl
  refine lv_iconst (v := 0) hx hb dX2_mean_0 (by decide) ?_
  refine lv_istore_n (lv' := [(1, .int 0), (0, .ref (E 0))]) hx hb dX2_mean_1 rfl hl (by decide) rfl (fun ls hl => ?_)
  refine lv_iconst (v := 0) hx hb dX2_mean_2 (by decide) ?_
  refine lv_istore_n (lv' := [(2, .int 0), (1, .int 0), (0, .ref (E 0))]) hx hb dX2_mean_3 rfl hl (by decide) rfl (fun ls hl => ?_)
  refine lv_iconst (v := 0) hx hb dX2_mean_4 (by decide) ?_
  refine lv_istore_n (lv' := [(3, .int 0), (2, .int 0), (1, .int 0), (0, .ref (E 0))]) hx hb dX2_mean_5 rfl hl (by decide) rfl (fun ls hl => ?_)
  refine tc_lp3 (fun n w1 w2 w3 => lp_X2_mean_6 n x w1 w2 w3) (fun w1 w2 w3 => [(0, .ref (E 0)), (1, .int w1), (2, .int w2), (3, .int w3)]) 100 0 0 0 ?_ ?_ hF (lv_sub hl [3, 2, 1, 0] rfl)
  · intro n_6 w1 w2 w3 ih_6 hF ls hl
    have hF : lp_X2_mean_6 (n_6 + 1) x w1 w2 w3 = some r := hF
    rw [lp_X2_mean_6] at hF
    refine lv_iload_n hx hb dX2_mean_6 rfl (lv_at hl 3 rfl) ?_
    refine lv_aload_n hx hb dX2_mean_7 rfl (lv_at hl 0 rfl) ?_
    refine tc_get (v := .ref (E 2)) hx hb hts hinX2 hown hK (hW.o) (C := RX2) (T := TX2) (N := 4) rfl 1 (by decide) (hts (.fieldLink RX2 18 "TreadCranes" "barrels" "Ljava/util/ArrayList;") (List.mem_of_getElem? (i := 1) rfl)) (fun _ h9 => h9) rfl dX2_mean_8 ?_
    obtain ⟨mo, ha1, -⟩ := hW.2.2.1
    refine tc_cr (W.runV (As := []) (rest := [.int w3]) ⟨hx, hb, hml, hown, hts⟩ (mt_lsize l D (E 2) mo (E 4) (nI (tc_nb x))) (cwV 0 hts gX2_mean_Jx4a65c_size_8abf5 rfl rfl rfl (by decide +kernel) ⟨Nat.le_of_ble_eq_true rfl, Nat.le_of_ble_eq_true rfl⟩) ⟨fun a U g mk q => ⟨q.1, q.2.1, va_K.moved (Vm.Alike.refl U.vm) q.2.2⟩, tc_rcv ha1 hK rfl, fun U hU hW9 => ⟨rfl, by rw [hU]; exact ha1, va_K.moved hW9.alike (hK.sub [] rfl)⟩⟩ rfl rfl hl.1 rfl (lv_room (Nat.le_of_ble_eq_true rfl)) dX2_mean_11 ⟨Nat.le_of_ble_eq_true rfl, Nat.le_of_ble_eq_true rfl⟩) ?_
    refine lv_icmp_ge (tgt := 55) hx hb dX2_mean_14 (by decide) (fun c4 => ?_) (fun c4 => ?_)
    · have hF := tc_it hF c4
      refine lv_iload_n hx hb dX2_mean_55 rfl (lv_at hl 2 rfl) ?_
      refine lv_if_ne (tgt := 63) hx hb dX2_mean_56 (by decide) (fun c5 => ?_) (fun c5 => ?_)
      · have hF := tc_if hF c5
        refine lv_iload_n hx hb dX2_mean_63 rfl (lv_at hl 1 rfl) ?_
        refine lv_i2d hx hb dX2_mean_64 ?_
        refine lv_iload_n hx hb dX2_mean_65 rfl (lv_at hl 2 rfl) ?_
        refine lv_i2d hx hb dX2_mean_66 ?_
        refine lv_ddiv_any (s := s) (d0 := s.drawn) hd0 lw_bits hx hb dX2_mean_67 (fun r9 d1 hal hd1 => ?_)
        have h91 := Option.some.inj hF
        refine W.endD hd1 ?_
        exact W.dret hx hb hr (fun t ht hW9 => ⟨⟨_, rfl, by rw [← h91]; exact hal, trivial⟩, (va_S.rf (A := fun _ => False) (H0 := s.heap)).F ht⟩) (fun q h => absurd h List.not_mem_nil) dX2_mean_68
      · have hF := tc_it hF c5
        refine lv_dconst0 hx hb dX2_mean_59 ?_
        refine lv_goto (tgt := 68) hx hb dX2_mean_60 (by decide) ?_
        have h91 := Option.some.inj hF
        refine W.endD (s := s) (d0 := s.drawn) hd0 ?_
        exact W.dret hx hb hr (fun t ht hW9 => ⟨⟨_, rfl, by rw [← h91]; decide +kernel, trivial⟩, (va_S.rf (A := fun _ => False) (H0 := s.heap)).F ht⟩) (fun q h => absurd h List.not_mem_nil) dX2_mean_68
    · have hF := tc_if hF c4
      refine lv_aload_n hx hb dX2_mean_17 rfl (lv_at hl 0 rfl) ?_
      refine tc_get (v := .ref (E 2)) hx hb hts hinX2 hown hK (hW.o) (C := RX2) (T := TX2) (N := 4) rfl 1 (by decide) (hts (.fieldLink RX2 18 "TreadCranes" "barrels" "Ljava/util/ArrayList;") (List.mem_of_getElem? (i := 1) rfl)) (fun _ h9 => h9) rfl dX2_mean_18 ?_
      refine lv_iload_n hx hb dX2_mean_21 rfl (lv_at hl 3 rfl) ?_
      obtain ⟨g6, hF⟩ := tc_ob hF
      obtain ⟨b7, eb7⟩ : ∃ z : Nat, z = w3.toNatClampNeg := ⟨_, rfl⟩
      have hF := tc_lt hF eb7
      have g8 : b7 < tc_nb x := by rw [eb7]; exact g6.2
      obtain ⟨mo, cap, fl, ha1, ha2, ha3, ha4, ha5⟩ := tc_Li.full hW.2.2.1 (Nat.lt_of_le_of_lt (Nat.zero_le _) g6.2)
      refine tc_cr (W.runV (As := [.int w3]) (rest := []) ⟨hx, hb, hml, hown, hts⟩ (mt_lget l D cO (E 2) mo (E 4) (tc_nb x) cap fl w3 (E (6 + b7)) g6 ha3 ha4 (by rw [eb7]; exact ha5 _ g6.2)) (cwV 1 hts gX2_mean_Jx4a65c_get_915e3 rfl rfl rfl (by decide +kernel) ⟨Nat.le_of_ble_eq_true rfl, Nat.le_of_ble_eq_true rfl⟩) ⟨fun a U g mk q => ⟨q.1, q.2.1, q.2.2.1, va_K.moved (Vm.Alike.refl U.vm) q.2.2.2⟩, tc_rcv ha1 hK rfl, fun U hU hW9 => ⟨rfl, by rw [hU]; exact ha1, by rw [hU]; exact ha2, va_K.moved hW9.alike (hK.sub [1] rfl)⟩⟩ rfl rfl hl.1 rfl (lv_room (Nat.le_of_ble_eq_true rfl)) dX2_mean_22 ⟨Nat.le_of_ble_eq_true rfl, Nat.le_of_ble_eq_true rfl⟩) ?_
      refine va_castS hx hb hown (hts (.classLink RX2 9 "TreadCranes$Barrel") (List.mem_of_getElem? (i := 2) rfl)) ((hK.1 1 _ rfl).2) (tc_rcv (hW.b g8) hK rfl) dX2_mean_25 ?_
      refine lv_astore (lv' := [(4, .ref (E (6 + b7))), (0, .ref (E 0)), (1, .int w1), (2, .int w2), (3, .int w3)]) hx hb dX2_mean_28 hl (by decide) rfl (fun ls hl => ?_)
      refine lv_aload hx hb dX2_mean_30 (lv_at hl 0 rfl) ?_
      refine tc_get (v := .int (x.1 15 b7)) hx hb hts hinX0 hown hK (hW.b g8) (C := RX0) (T := TX0) (N := 7) rfl 6 (by decide) (hts (.fieldLink RX2 196 "TreadCranes$Barrel" "broken" "Z") (List.mem_of_getElem? (i := 3) rfl)) (fun _ h9 => h9) rfl dX2_mean_32 ?_
      refine lv_if_ne (tgt := 49) hx hb dX2_mean_35 (by decide) (fun c9 => ?_) (fun c9 => ?_)
      · have hF := tc_if hF c9
        obtain ⟨v10, ev10⟩ : ∃ z : Int32, z = w3 + 1 := ⟨_, rfl⟩
        have hF := tc_lt hF ev10
        refine lv_iinc (v := v10) (lv' := [(3, .int v10), (4, .ref (E (6 + b7))), (0, .ref (E 0)), (1, .int w1), (2, .int w2)]) hx hb dX2_mean_49 hl (k := 4) rfl (by rw [ev10]; rfl) (by decide) rfl (fun ls hl => ?_)
        refine lv_goto (tgt := 6) hx hb dX2_mean_52 (by decide) ?_
        exact ih_6 w1 w2 v10 hF _ (lv_sub hl [2, 3, 4, 0] rfl)
      · have hF := tc_it hF c9
        refine lv_iload_n hx hb dX2_mean_38 rfl (lv_at hl 2 rfl) ?_
        refine lv_aload hx hb dX2_mean_39 (lv_at hl 0 rfl) ?_
        refine tc_get (v := .int (x.1 11 b7)) hx hb hts hinX0 hown hK (hW.b g8) (C := RX0) (T := TX0) (N := 7) rfl 1 (by decide) (hts (.fieldLink RX2 134 "TreadCranes$Barrel" "weight" "I") (List.mem_of_getElem? (i := 4) rfl)) (fun _ h9 => h9) rfl dX2_mean_41 ?_
        refine lv_iadd hx hb dX2_mean_44 ?_
        refine lv_topi (fun v11 ev11 => ?_)
        have hF := tc_lt hF ev11
        refine lv_istore_n (lv' := [(1, .int v11), (4, .ref (E (6 + b7))), (0, .ref (E 0)), (2, .int w2), (3, .int w3)]) hx hb dX2_mean_45 rfl hl (by decide) rfl (fun ls hl => ?_)
        obtain ⟨v12, ev12⟩ : ∃ z : Int32, z = w2 + 1 := ⟨_, rfl⟩
        have hF := tc_lt hF ev12
        refine lv_iinc (v := v12) (lv' := [(2, .int v12), (1, .int v11), (4, .ref (E (6 + b7))), (0, .ref (E 0)), (3, .int w3)]) hx hb dX2_mean_46 hl (k := 3) rfl (by rw [ev12]; rfl) (by decide) rfl (fun ls hl => ?_)
        obtain ⟨v13, ev13⟩ : ∃ z : Int32, z = w3 + 1 := ⟨_, rfl⟩
        have hF := tc_lt hF ev13
        refine lv_iinc (v := v13) (lv' := [(3, .int v13), (2, .int v12), (1, .int v11), (4, .ref (E (6 + b7))), (0, .ref (E 0))]) hx hb dX2_mean_49 hl (k := 4) rfl (by rw [ev13]; rfl) (by decide) rfl (fun ls hl => ?_)
        refine lv_goto (tgt := 6) hx hb dX2_mean_52 (by decide) ?_
        exact ih_6 v11 v12 v13 hF _ (lv_sub hl [4, 2, 1, 0] rfl)
  · intro w1 w2 w3 h9
    have h9 : lp_X2_mean_6 0 x w1 w2 w3 = some r := h9
    rw [lp_X2_mean_6] at h9
    cases h9

def lp_X3_mean_11 : Nat → tc_Y → Int32 → Int32 → Int32 → Option (UInt64 × tc_Y)
  | 0, _, _, _, _ => none
  | n_11 + 1, x1, w2, w3, w4 => (if (x1 2 0) ≤ w4 then (if w3 = 0 then some (FP.dconst0, x1) else some ((FP.ddiv (FP.i2d w2) (FP.i2d w3)), x1)) else (if ¬ w4 < 0 ∧ w4.toNatClampNeg < 40 then (if (x1 4 w4.toNatClampNeg) = (-2) then tc_let (w4 + 1) (fun v12 => lp_X3_mean_11 n_11 x1 w2 w3 v12) else tc_let (w2 + (x1 3 w4.toNatClampNeg)) (fun v9 => tc_let (w3 + 1) (fun v10 => tc_let (w4 + 1) (fun v11 => lp_X3_mean_11 n_11 x1 v9 v10 v11)))) else none))
def f_X3_mean (x : tc_Y)  : Option (UInt64 × tc_Y) := tc_let (tc_ym x 0 0 0) (fun x1 => lp_X3_mean_11 100 x1 0 0 0)
set_option maxHeartbeats 4000000 in
set_option maxRecDepth 100000 in
theorem mt_X3_mean (l : Launch) (D : va_G) (cU cO cI : ClassId) (A : Nat → Prop) (E : Nat → Nat) (x : tc_Y) (r : UInt64) (z : tc_Y) (hF : f_X3_mean x = some (r, z)) : MetD lw_cs l yX3_mean wsX3_mean ({ frames := 0, cells := 0, slots := 0, locals := 0 } : Room) (va_Pc [.ref (E 0)] (fun U => tc_WM D cI A E x U.heap ∧ tc_KM D cU cO cI A U)) (tc_QD r (tc_WM D cI A E z) A) 0 0 A := by
  refine MetD.ofW (cc := cX3_mean) (maxL := 4) (ret := (some .double)) (by decide) rfl ?_
  intro p e s m args below meth c s₁ B hml hv hd0
  change W p l e _ s m _ below meth c s.heap [] 0 0 _ _
  obtain ⟨rfl, hW, hKM⟩ := hv
  have hx := B.exec
  have hb := B.bytes
  have hr := B.returns
  have hts := atoms_spec (ws := wsX3_mean) B.pre
  have hown : s.vm.findClass RX3 = some m.cls := findClass_of_methodNamed B.named
  have hlocks := B.notSynchronized
  have hK := hKM.1
  have hA := hKM.2
  have hinX3 : ∀ w ∈ wsX30, w ∈ wsX3_mean := fun w9 h9 => List.mem_cons_of_mem _ (List.mem_append_right _ h9)
  have hS : va_S A s.heap s.heap [] := va_S.rf
  have hl := lv_entry ([.ref (E 0)]) (n := 4) (Nat.le_of_ble_eq_true rfl)
  rw [lg_entry_eq]
  generalize (lg_sl ([.ref (E 0)]) ++ List.replicate (4 - (lg_sl ([.ref (E 0)])).length) Slot.unset).toArray = ls at hl ⊢
  have hl : lv_has ls 4 [(0, .ref (E 0))] := hl
  refine lv_aload_n hx hb dX3_mean_0 rfl (lv_at hl 0 rfl) ?_
  refine lv_iconst (v := 0) hx hb dX3_mean_1 (by decide) ?_
  refine tc_put (v := .int 0) (ty := .int) hx hb hts hinX3 tyX3 tyX3_ok nmX3 hown hK (hW.1) hS (hW.own (Or.inl rfl)) (C := RX3) (T := TX3) (N := 15) rfl 0 (by decide) (hts (.fieldLink RX3 43 "TreadCranesModel" "thrown" "I") (List.mem_of_getElem? (i := 1) rfl)) (fun _ h9 => h9) rfl (by decide +kernel) rfl rfl (Nat.le_of_ble_eq_true rfl) dX3_mean_2 (fun H locs e1 z1 o1 hS => ?_)
  obtain ⟨x1, ex1⟩ : ∃ z : tc_Y, z = tc_ym x 0 0 0 := ⟨_, rfl⟩
  have hF := tc_lt hF ex1
  have hW : tc_WM D cI A E x1 H := by rw [ex1]; exact hW.sf (Or.inl rfl) (by rw [tc_m0]; exact e1) o1
  refine lv_iconst (v := 0) hx hb dX3_mean_5 (by decide) ?_
  refine lv_istore_n (lv' := [(1, .int 0), (0, .ref (E 0))]) hx hb dX3_mean_6 rfl hl (by decide) rfl (fun ls hl => ?_)
  refine lv_iconst (v := 0) hx hb dX3_mean_7 (by decide) ?_
  refine lv_istore_n (lv' := [(2, .int 0), (1, .int 0), (0, .ref (E 0))]) hx hb dX3_mean_8 rfl hl (by decide) rfl (fun ls hl => ?_)
  refine lv_iconst (v := 0) hx hb dX3_mean_9 (by decide) ?_
  refine lv_istore_n (lv' := [(3, .int 0), (2, .int 0), (1, .int 0), (0, .ref (E 0))]) hx hb dX3_mean_10 rfl hl (by decide) rfl (fun ls hl => ?_)
  refine tc_lp3 (fun n w2 w3 w4 => lp_X3_mean_11 n x1 w2 w3 w4) (fun w2 w3 w4 => [(0, .ref (E 0)), (1, .int w2), (2, .int w3), (3, .int w4)]) 100 0 0 0 ?_ ?_ hF (lv_sub hl [3, 2, 1, 0] rfl)
  · intro n_11 w2 w3 w4 ih_11 hF ls hl
    have hF : lp_X3_mean_11 (n_11 + 1) x1 w2 w3 w4 = some (r, z) := hF
    rw [lp_X3_mean_11] at hF
    refine lv_iload_n hx hb dX3_mean_11 rfl (lv_at hl 3 rfl) ?_
    refine lv_aload_n hx hb dX3_mean_12 rfl (lv_at hl 0 rfl) ?_
    refine tc_get (v := .int (x1 2 0)) hx hb hts hinX3 hown hK (hW.1) (C := RX3) (T := TX3) (N := 15) rfl 2 (by decide) (hts (.fieldLink RX3 54 "TreadCranesModel" "barrels" "I") (List.mem_of_getElem? (i := 2) rfl)) (fun _ h9 => h9) rfl dX3_mean_13 ?_
    refine lv_icmp_ge (tgt := 51) hx hb dX3_mean_16 (by decide) (fun c5 => ?_) (fun c5 => ?_)
    · have hF := tc_it hF c5
      refine lv_iload_n hx hb dX3_mean_51 rfl (lv_at hl 2 rfl) ?_
      refine lv_if_ne (tgt := 59) hx hb dX3_mean_52 (by decide) (fun c6 => ?_) (fun c6 => ?_)
      · have hF := tc_if hF c6
        refine lv_iload_n hx hb dX3_mean_59 rfl (lv_at hl 1 rfl) ?_
        refine lv_i2d hx hb dX3_mean_60 ?_
        refine lv_iload_n hx hb dX3_mean_61 rfl (lv_at hl 2 rfl) ?_
        refine lv_i2d hx hb dX3_mean_62 ?_
        refine lv_ddiv_any (s := s) (d0 := s.drawn) hd0 lw_bits hx hb dX3_mean_63 (fun r9 d1 hal hd1 => ?_)
        obtain ⟨h91, h92⟩ := tc_pr2 (Option.some.inj hF)
        refine W.endD hd1 ?_
        exact W.dret hx hb hr (fun t ht hW9 => ⟨⟨_, rfl, by rw [← h91]; exact hal, by rw [← h92, ht]; exact hW⟩, tc_F hS ht⟩) hS.2.2 dX3_mean_64
      · have hF := tc_it hF c6
        refine lv_dconst0 hx hb dX3_mean_55 ?_
        refine lv_goto (tgt := 64) hx hb dX3_mean_56 (by decide) ?_
        obtain ⟨h91, h92⟩ := tc_pr2 (Option.some.inj hF)
        refine W.endD (s := s) (d0 := s.drawn) hd0 ?_
        exact W.dret hx hb hr (fun t ht hW9 => ⟨⟨_, rfl, by rw [← h91]; decide +kernel, by rw [← h92, ht]; exact hW⟩, tc_F hS ht⟩) hS.2.2 dX3_mean_64
    · have hF := tc_if hF c5
      refine lv_aload_n hx hb dX3_mean_19 rfl (lv_at hl 0 rfl) ?_
      refine tc_get (v := .ref (E 4)) hx hb hts hinX3 hown hK (hW.1) (C := RX3) (T := TX3) (N := 15) rfl 4 (by decide) (hts (.fieldLink RX3 13 "TreadCranesModel" "at" "[I") (List.mem_of_getElem? (i := 3) rfl)) (fun _ h9 => h9) rfl dX3_mean_20 ?_
      refine lv_iload_n hx hb dX3_mean_23 rfl (lv_at hl 3 rfl) ?_
      obtain ⟨g7, hF⟩ := tc_ob hF
      refine tc_iald (f := x1 4) hx hb hK (hW.lo ⟨by decide, by decide⟩) 2 rfl g7 dX3_mean_24 ?_
      refine lv_bipush (v := (-2)) hx hb dX3_mean_25 (by decide) ?_
      refine lv_icmp_ne (tgt := 33) hx hb dX3_mean_27 (by decide) (fun c8 => ?_) (fun c8 => ?_)
      · have hF := tc_if hF c8
        refine lv_iload_n hx hb dX3_mean_33 rfl (lv_at hl 1 rfl) ?_
        refine lv_aload_n hx hb dX3_mean_34 rfl (lv_at hl 0 rfl) ?_
        refine tc_get (v := .ref (E 3)) hx hb hts hinX3 hown hK (hW.1) (C := RX3) (T := TX3) (N := 15) rfl 3 (by decide) (hts (.fieldLink RX3 9 "TreadCranesModel" "weight" "[I") (List.mem_of_getElem? (i := 4) rfl)) (fun _ h9 => h9) rfl dX3_mean_35 ?_
        refine lv_iload_n hx hb dX3_mean_38 rfl (lv_at hl 3 rfl) ?_
        refine tc_iald (f := x1 3) hx hb hK (hW.lo ⟨by decide, by decide⟩) 2 rfl g7 dX3_mean_39 ?_
        refine lv_iadd hx hb dX3_mean_40 ?_
        refine lv_topi (fun v9 ev9 => ?_)
        have hF := tc_lt hF ev9
        refine lv_istore_n (lv' := [(1, .int v9), (0, .ref (E 0)), (2, .int w3), (3, .int w4)]) hx hb dX3_mean_41 rfl hl (by decide) rfl (fun ls hl => ?_)
        obtain ⟨v10, ev10⟩ : ∃ z : Int32, z = w3 + 1 := ⟨_, rfl⟩
        have hF := tc_lt hF ev10
        refine lv_iinc (v := v10) (lv' := [(2, .int v10), (1, .int v9), (0, .ref (E 0)), (3, .int w4)]) hx hb dX3_mean_42 hl (k := 2) rfl (by rw [ev10]; rfl) (by decide) rfl (fun ls hl => ?_)
        obtain ⟨v11, ev11⟩ : ∃ z : Int32, z = w4 + 1 := ⟨_, rfl⟩
        have hF := tc_lt hF ev11
        refine lv_iinc (v := v11) (lv' := [(3, .int v11), (2, .int v10), (1, .int v9), (0, .ref (E 0))]) hx hb dX3_mean_45 hl (k := 3) rfl (by rw [ev11]; rfl) (by decide) rfl (fun ls hl => ?_)
        refine lv_goto (tgt := 11) hx hb dX3_mean_48 (by decide) ?_
        exact ih_11 v9 v10 v11 hF _ (lv_sub hl [3, 2, 1, 0] rfl)
      · have hF := tc_it hF c8
        refine lv_goto (tgt := 45) hx hb dX3_mean_30 (by decide) ?_
        obtain ⟨v12, ev12⟩ : ∃ z : Int32, z = w4 + 1 := ⟨_, rfl⟩
        have hF := tc_lt hF ev12
        refine lv_iinc (v := v12) (lv' := [(3, .int v12), (0, .ref (E 0)), (1, .int w2), (2, .int w3)]) hx hb dX3_mean_45 hl (k := 3) rfl (by rw [ev12]; rfl) (by decide) rfl (fun ls hl => ?_)
        refine lv_goto (tgt := 11) hx hb dX3_mean_48 (by decide) ?_
        exact ih_11 w2 w3 v12 hF _ (lv_sub hl [1, 2, 3, 0] rfl)
  · intro w2 w3 w4 h9
    have h9 : lp_X3_mean_11 0 x1 w2 w3 w4 = some (r, z) := h9
    rw [lp_X3_mean_11] at h9
    cases h9

def lp_X3_digest_139 : Nat → tc_Y → Int32 → Int64 → Int32 → (Int64 → Int32 → Option (Int64 × tc_Y)) → Option (Int64 × tc_Y)
  | 0, _, _, _, _, _ => none
  | n_139 + 1, x1, w12, w14, w15, kc => (if 9 ≤ w15 then kc w14 w15 else Option.bind (f_X3_craneTold x1 w12 w15) (fun r18 => tc_let ((w14 * 31) + r18.toInt64) (fun v20 => tc_let (w15 + 1) (fun v21 => lp_X3_digest_139 n_139 x1 w12 v20 v21 kc))))
def lp_X3_digest_128 : Nat → tc_Y → Int64 → Int32 → Option (Int64 × tc_Y)
  | 0, _, _, _ => none
  | n_128 + 1, x1, w11, w12 => (if (x1 6 0) ≤ w12 then some (w11, x1) else lp_X3_digest_139 10 x1 w12 w11 0 (fun w14 w15 => tc_let (w12 + 1) (fun v17 => lp_X3_digest_128 n_128 x1 w14 v17)))
def lp_X3_digest_93 : Nat → tc_Y → Int32 → Int64 → Int32 → (Int64 → Int32 → Option (Int64 × tc_Y)) → Option (Int64 × tc_Y)
  | 0, _, _, _, _, _ => none
  | n_93 + 1, x1, w9, w22, w23, kc => (if 5 ≤ w23 then kc w22 w23 else Option.bind (f_X3_barrelTold x1 w9 w23) (fun r26 => tc_let ((w22 * 31) + r26.toInt64) (fun v28 => tc_let (w23 + 1) (fun v29 => lp_X3_digest_93 n_93 x1 w9 v28 v29 kc))))
def lp_X3_digest_82 : Nat → tc_Y → Int64 → Int32 → Option (Int64 × tc_Y)
  | 0, _, _, _ => none
  | n_82 + 1, x1, w8, w9 => (if (x1 2 0) ≤ w9 then lp_X3_digest_128 6 x1 w8 0 else lp_X3_digest_93 6 x1 w9 w8 0 (fun w22 w23 => tc_let (w9 + 1) (fun v25 => lp_X3_digest_82 n_82 x1 w22 v25)))
def lp_X3_digest_47 : Nat → tc_Y → Int32 → Int64 → Int32 → (Int64 → Int32 → Option (Int64 × tc_Y)) → Option (Int64 × tc_Y)
  | 0, _, _, _, _, _ => none
  | n_47 + 1, x1, w6, w30, w31, kc => (if 4 ≤ w31 then kc w30 w31 else Option.bind (f_X3_placeTold x1 w6 w31) (fun r34 => tc_let ((w30 * 31) + r34.toInt64) (fun v36 => tc_let (w31 + 1) (fun v37 => lp_X3_digest_47 n_47 x1 w6 v36 v37 kc))))
def lp_X3_digest_38 : Nat → tc_Y → Int64 → Int32 → Option (Int64 × tc_Y)
  | 0, _, _, _ => none
  | n_38 + 1, x1, w5, w6 => (if 16 ≤ w6 then lp_X3_digest_82 41 x1 w5 0 else lp_X3_digest_47 5 x1 w6 w5 0 (fun w30 w31 => tc_let (w6 + 1) (fun v33 => lp_X3_digest_38 n_38 x1 w30 v33)))
def lp_X3_digest_11 : Nat → tc_Y → Int64 → Int32 → Option (Int64 × tc_Y)
  | 0, _, _, _ => none
  | n_11 + 1, x1, w2, w3 => (if 7 ≤ w3 then lp_X3_digest_38 17 x1 w2 0 else Option.bind (f_X3_counted x1 w3) (fun r38 => tc_let ((w2 * 31) + r38.toInt64) (fun v40 => tc_let (w3 + 1) (fun v41 => lp_X3_digest_11 n_11 x1 v40 v41))))
def f_X3_digest (x : tc_Y)  : Option (Int64 × tc_Y) := tc_let (tc_ym x 0 0 0) (fun x1 => lp_X3_digest_11 8 x1 1151 0)
set_option maxHeartbeats 4000000 in
set_option maxRecDepth 100000 in
theorem mt_X3_digest (l : Launch) (D : va_G) (cU cO cI : ClassId) (A : Nat → Prop) (E : Nat → Nat) (x : tc_Y) (r : Int64) (z : tc_Y) (hF : f_X3_digest x = some (r, z)) : Met l yX3_digest wsX3_digest ({ frames := 3, cells := 399, slots := 2166, locals := 72 } : Room) (va_Pc [.ref (E 0)] (fun U => tc_WM D cI A E x U.heap ∧ tc_KM D cU cO cI A U)) (tc_Qw (some (.long r)) (tc_WM D cI A E z) A) 399 2166 A := by
  refine Met.ofW (cc := cX3_digest) (maxL := 5) (ret := (some .long)) (by decide) rfl ?_
  intro p e s m args below meth c s₁ B hml hv
  obtain ⟨rfl, hW, hKM⟩ := hv
  have hx := B.exec
  have hb := B.bytes
  have hr := B.returns
  have hts := atoms_spec (ws := wsX3_digest) B.pre
  have hown : s.vm.findClass RX3 = some m.cls := findClass_of_methodNamed B.named
  have hlocks := B.notSynchronized
  have hK := hKM.1
  have hA := hKM.2
  have hinX3 : ∀ w ∈ wsX30, w ∈ wsX3_digest := fun w9 h9 => List.mem_cons_of_mem _ (List.mem_append_right _ h9)
  have hS : va_S A s.heap s.heap [] := va_S.rf
  have hl := lv_entry ([.ref (E 0)]) (n := 5) (Nat.le_of_ble_eq_true rfl)
  rw [lg_entry_eq]
  generalize (lg_sl ([.ref (E 0)]) ++ List.replicate (5 - (lg_sl ([.ref (E 0)])).length) Slot.unset).toArray = ls at hl ⊢
  have hl : lv_has ls 5 [(0, .ref (E 0))] := hl
  refine lv_aload_n hx hb dX3_digest_0 rfl (lv_at hl 0 rfl) ?_
  refine lv_iconst (v := 0) hx hb dX3_digest_1 (by decide) ?_
  refine tc_put (v := .int 0) (ty := .int) hx hb hts hinX3 tyX3 tyX3_ok nmX3 hown hK (hW.1) hS (hW.own (Or.inl rfl)) (C := RX3) (T := TX3) (N := 15) rfl 0 (by decide) (hts (.fieldLink RX3 43 "TreadCranesModel" "thrown" "I") (List.mem_of_getElem? (i := 1) rfl)) (fun _ h9 => h9) rfl (by decide +kernel) rfl rfl (Nat.le_of_ble_eq_true rfl) dX3_digest_2 (fun H locs e1 z1 o1 hS => ?_)
  obtain ⟨x1, ex1⟩ : ∃ z : tc_Y, z = tc_ym x 0 0 0 := ⟨_, rfl⟩
  have hF := tc_lt hF ex1
  have hW : tc_WM D cI A E x1 H := by rw [ex1]; exact hW.sf (Or.inl rfl) (by rw [tc_m0]; exact e1) o1
  refine lv_ldc2 (v := 1151) hx hb hown (hts (.constantLong RX3 133 (1151)) (List.mem_of_getElem? (i := 2) rfl)) dX3_digest_5 ?_
  refine lv_lstore_n (lv' := [(1, .long 1151), (0, .ref (E 0))]) hx hb dX3_digest_8 rfl hl (by decide) rfl (fun ls hl => ?_)
  refine lv_iconst (v := 0) hx hb dX3_digest_9 (by decide) ?_
  refine lv_istore_n (lv' := [(3, .int 0), (1, .long 1151), (0, .ref (E 0))]) hx hb dX3_digest_10 rfl hl (by decide) rfl (fun ls hl => ?_)
  refine tc_lpH2 (fun n w2 w3 => lp_X3_digest_11 n x1 w2 w3) (fun w2 w3 => [(0, .ref (E 0)), (1, .long w2), (3, .int w3)]) (tc_WM D cI A E x1) 8 1 7 1151 0 ?_ ?_ hF (lv_sub hl [2, 1, 0] rfl) hW hS
  · intro n_11 w2 w3 h9_11 ih_11 hF ls H locs hl hW hS
    have hF : lp_X3_digest_11 (n_11 + 1) x1 w2 w3 = some (r, z) := hF
    rw [lp_X3_digest_11] at hF
    refine lv_iload_n hx hb dX3_digest_11 rfl (lv_at hl 2 rfl) ?_
    refine lv_bipush (v := 7) hx hb dX3_digest_12 (by decide) ?_
    refine lv_icmp_ge (tgt := 36) hx hb dX3_digest_14 (by decide) (fun c4 => ?_) (fun c4 => ?_)
    · have hF := tc_it hF c4
      refine lv_iconst (v := 0) hx hb dX3_digest_36 (by decide) ?_
      refine lv_istore_n (lv' := [(3, .int 0), (0, .ref (E 0)), (1, .long w2)]) hx hb dX3_digest_37 rfl hl (by decide) rfl (fun ls hl => ?_)
      refine W.widen (k := 8) (n := 56) (by omega) (by omega) ?_
      refine tc_lpH2 (fun n w5 w6 => lp_X3_digest_38 n x1 w5 w6) (fun w5 w6 => [(0, .ref (E 0)), (1, .long w5), (3, .int w6)]) (tc_WM D cI A E x1) 17 5 20 w2 0 ?_ ?_ hF (lv_sub hl [1, 2, 0] rfl) hW hS
      · intro n_38 w5 w6 h9_38 ih_38 hF ls H locs hl hW hS
        have hF : lp_X3_digest_38 (n_38 + 1) x1 w5 w6 = some (r, z) := hF
        rw [lp_X3_digest_38] at hF
        refine lv_iload_n hx hb dX3_digest_38 rfl (lv_at hl 2 rfl) ?_
        refine lv_bipush (v := 16) hx hb dX3_digest_39 (by decide) ?_
        refine lv_icmp_ge (tgt := 80) hx hb dX3_digest_41 (by decide) (fun c7 => ?_) (fun c7 => ?_)
        · have hF := tc_it hF c7
          refine lv_iconst (v := 0) hx hb dX3_digest_80 (by decide) ?_
          refine lv_istore_n (lv' := [(3, .int 0), (0, .ref (E 0)), (1, .long w5)]) hx hb dX3_digest_81 rfl hl (by decide) rfl (fun ls hl => ?_)
          refine W.widen (k := 93) (n := 396) (by omega) (by omega) ?_
          refine tc_lpH2 (fun n w8 w9 => lp_X3_digest_82 n x1 w8 w9) (fun w8 w9 => [(0, .ref (E 0)), (1, .long w8), (3, .int w9)]) (tc_WM D cI A E x1) 41 6 30 w5 0 ?_ ?_ hF (lv_sub hl [1, 2, 0] rfl) hW hS
          · intro n_82 w8 w9 h9_82 ih_82 hF ls H locs hl hW hS
            have hF : lp_X3_digest_82 (n_82 + 1) x1 w8 w9 = some (r, z) := hF
            rw [lp_X3_digest_82] at hF
            refine lv_iload_n hx hb dX3_digest_82 rfl (lv_at hl 2 rfl) ?_
            refine lv_aload_n hx hb dX3_digest_83 rfl (lv_at hl 0 rfl) ?_
            refine tc_get (v := .int (x1 2 0)) hx hb hts hinX3 hown hK (hW.1) (C := RX3) (T := TX3) (N := 15) rfl 2 (by decide) (hts (.fieldLink RX3 54 "TreadCranesModel" "barrels" "I") (List.mem_of_getElem? (i := 4) rfl)) (fun _ h9 => h9) rfl dX3_digest_84 ?_
            refine lv_icmp_ge (tgt := 126) hx hb dX3_digest_87 (by decide) (fun c10 => ?_) (fun c10 => ?_)
            · have hF := tc_it hF c10
              refine lv_iconst (v := 0) hx hb dX3_digest_126 (by decide) ?_
              refine lv_istore_n (lv' := [(3, .int 0), (0, .ref (E 0)), (1, .long w8)]) hx hb dX3_digest_127 rfl hl (by decide) rfl (fun ls hl => ?_)
              refine W.widen (k := 339) (n := 1626) (by omega) (by omega) ?_
              refine tc_lpH2 (fun n w11 w12 => lp_X3_digest_128 n x1 w11 w12) (fun w11 w12 => [(0, .ref (E 0)), (1, .long w11), (3, .int w12)]) (tc_WM D cI A E x1) 6 10 90 w8 0 ?_ ?_ hF (lv_sub hl [1, 2, 0] rfl) hW hS
              · intro n_128 w11 w12 h9_128 ih_128 hF ls H locs hl hW hS
                have hF : lp_X3_digest_128 (n_128 + 1) x1 w11 w12 = some (r, z) := hF
                rw [lp_X3_digest_128] at hF
                refine lv_iload_n hx hb dX3_digest_128 rfl (lv_at hl 2 rfl) ?_
                refine lv_aload_n hx hb dX3_digest_129 rfl (lv_at hl 0 rfl) ?_
                refine tc_get (v := .int (x1 6 0)) hx hb hts hinX3 hown hK (hW.1) (C := RX3) (T := TX3) (N := 15) rfl 6 (by decide) (hts (.fieldLink RX3 51 "TreadCranesModel" "cranes" "I") (List.mem_of_getElem? (i := 5) rfl)) (fun _ h9 => h9) rfl dX3_digest_130 ?_
                refine lv_icmp_ge (tgt := 173) hx hb dX3_digest_133 (by decide) (fun c13 => ?_) (fun c13 => ?_)
                · have hF := tc_it hF c13
                  refine lv_lload_n hx hb dX3_digest_173 rfl (lv_at hl 1 rfl) ?_
                  obtain ⟨h91, h92⟩ := tc_pr2 (Option.some.inj hF)
                  refine W.widen (k := 399) (n := 2166) (by omega) (by omega) ?_
                  exact W.lret hx hb hr (fun t ht hW9 => ⟨⟨by rw [← h91], by rw [← h92, ht]; exact hW⟩, tc_F hS ht⟩) hS.2.2 dX3_digest_174
                · have hF := tc_if hF c13
                  refine lv_iconst (v := 0) hx hb dX3_digest_136 (by decide) ?_
                  refine lv_istore (lv' := [(4, .int 0), (0, .ref (E 0)), (1, .long w11), (3, .int w12)]) hx hb dX3_digest_137 hl (by decide) rfl (fun ls hl => ?_)
                  refine tc_lpH2 (fun n w14 w15 => lp_X3_digest_139 n x1 w12 w14 w15 (fun w14 w15 => tc_let (w12 + 1) (fun v17 => lp_X3_digest_128 n_128 x1 w14 v17))) (fun w14 w15 => [(0, .ref (E 0)), (1, .long w14), (3, .int w12), (4, .int w15)]) (tc_WM D cI A E x1) 10 1 9 w11 0 ?_ ?_ hF (lv_sub hl [1, 2, 3, 0] rfl) hW hS
                  · intro n_139 w14 w15 h9_139 ih_139 hF ls H locs hl hW hS
                    have hF : lp_X3_digest_139 (n_139 + 1) x1 w12 w14 w15 (fun w14 w15 => tc_let (w12 + 1) (fun v17 => lp_X3_digest_128 n_128 x1 w14 v17)) = some (r, z) := hF
                    rw [lp_X3_digest_139] at hF
                    refine lv_iload hx hb dX3_digest_139 (lv_at hl 3 rfl) ?_
                    refine lv_bipush (v := 9) hx hb dX3_digest_141 (by decide) ?_
                    refine lv_icmp_ge (tgt := 167) hx hb dX3_digest_143 (by decide) (fun c16 => ?_) (fun c16 => ?_)
                    · have hF := tc_it hF c16
                      try dsimp only at hF
                      obtain ⟨v17, ev17⟩ : ∃ z : Int32, z = w12 + 1 := ⟨_, rfl⟩
                      have hF := tc_lt hF ev17
                      refine lv_iinc (v := v17) (lv' := [(3, .int v17), (0, .ref (E 0)), (1, .long w14), (4, .int w15)]) hx hb dX3_digest_167 hl (k := 2) rfl (by rw [ev17]; rfl) (by decide) rfl (fun ls hl => ?_)
                      refine lv_goto (tgt := 128) hx hb dX3_digest_170 (by decide) ?_
                      refine W.widen (k := 339 + (6 - n_128) * 10) (n := 1626 + (6 - n_128) * 90) (by omega) (by omega) ?_
                      exact ih_128 w14 v17 hF _ _ _ (lv_sub hl [1, 2, 0] rfl) hW hS
                    · have hF := tc_if hF c16
                      refine lv_lload_n hx hb dX3_digest_146 rfl (lv_at hl 1 rfl) ?_
                      refine lv_ldc2 (v := 31) hx hb hown (hts (.constantLong RX3 135 (31)) (List.mem_of_getElem? (i := 3) rfl)) dX3_digest_147 ?_
                      refine lv_lmul hx hb dX3_digest_150 ?_
                      refine lv_aload_n hx hb dX3_digest_151 rfl (lv_at hl 0 rfl) ?_
                      refine lv_iload_n hx hb dX3_digest_152 rfl (lv_at hl 2 rfl) ?_
                      refine lv_iload hx hb dX3_digest_153 (lv_at hl 3 rfl) ?_
                      obtain ⟨r18, h19, hF⟩ := tc_bi hF
                      refine tc_cw (va_runV (As := [.int w12, .int w15]) (rest := [.long (w14 * 31)]) ⟨hx, hb, hml, hown, hts⟩ (mt_X3_craneTold l D cU cO cI A E x1 w12 w15 r18 h19) (cwV 2 hts gX3_digest_X3_craneTold rfl rfl rfl (by decide +kernel) ⟨Nat.le_of_ble_eq_true rfl, Nat.le_of_ble_eq_true rfl⟩) ⟨fun a U g mk q => ⟨q.1, q.2.1, q.2.2.call⟩, tc_rcv (hW.1) hK rfl, fun U hU hW9 => ⟨rfl, by rw [hU]; exact hW, hKM.go hS hU hW9⟩⟩ rfl rfl hl.1 rfl (lv_room (Nat.le_of_ble_eq_true rfl)) dX3_digest_155 ⟨by show 339 + (6 - (n_128 + 1)) * 10 + (10 - (n_139 + 1)) * 1 + 1 ≤ 399; omega, by show 1626 + (6 - (n_128 + 1)) * 90 + (10 - (n_139 + 1)) * 9 + 9 ≤ 2166; omega⟩) hS (fun _ _ h => h) (fun _ h => h) (fun H locs hW z1 o1 hS => ?_)
                      refine lv_i2l hx hb dX3_digest_158 rfl ?_
                      refine lv_ladd hx hb dX3_digest_159 ?_
                      refine lv_topl (fun v20 ev20 => ?_)
                      have hF := tc_lt hF ev20
                      refine lv_lstore_n (lv' := [(1, .long v20), (0, .ref (E 0)), (3, .int w12), (4, .int w15)]) hx hb dX3_digest_160 rfl hl (by decide) rfl (fun ls hl => ?_)
                      obtain ⟨v21, ev21⟩ : ∃ z : Int32, z = w15 + 1 := ⟨_, rfl⟩
                      have hF := tc_lt hF ev21
                      refine lv_iinc (v := v21) (lv' := [(4, .int v21), (1, .long v20), (0, .ref (E 0)), (3, .int w12)]) hx hb dX3_digest_161 hl (k := 3) rfl (by rw [ev21]; rfl) (by decide) rfl (fun ls hl => ?_)
                      refine lv_goto (tgt := 139) hx hb dX3_digest_164 (by decide) ?_
                      refine W.widen (k := 339 + (6 - (n_128 + 1)) * 10 + (10 - n_139) * 1) (n := 1626 + (6 - (n_128 + 1)) * 90 + (10 - n_139) * 9) (by omega) (by omega) ?_
                      exact ih_139 v20 v21 hF _ _ _ (lv_sub hl [2, 1, 3, 0] rfl) hW hS
                  · intro w14 w15 h9
                    have h9 : lp_X3_digest_139 0 x1 w12 w14 w15 (fun w14 w15 => tc_let (w12 + 1) (fun v17 => lp_X3_digest_128 n_128 x1 w14 v17)) = some (r, z) := h9
                    rw [lp_X3_digest_139] at h9
                    cases h9
              · intro w11 w12 h9
                have h9 : lp_X3_digest_128 0 x1 w11 w12 = some (r, z) := h9
                rw [lp_X3_digest_128] at h9
                cases h9
            · have hF := tc_if hF c10
              refine lv_iconst (v := 0) hx hb dX3_digest_90 (by decide) ?_
              refine lv_istore (lv' := [(4, .int 0), (0, .ref (E 0)), (1, .long w8), (3, .int w9)]) hx hb dX3_digest_91 hl (by decide) rfl (fun ls hl => ?_)
              refine tc_lpH2 (fun n w22 w23 => lp_X3_digest_93 n x1 w9 w22 w23 (fun w22 w23 => tc_let (w9 + 1) (fun v25 => lp_X3_digest_82 n_82 x1 w22 v25))) (fun w22 w23 => [(0, .ref (E 0)), (1, .long w22), (3, .int w9), (4, .int w23)]) (tc_WM D cI A E x1) 6 1 5 w8 0 ?_ ?_ hF (lv_sub hl [1, 2, 3, 0] rfl) hW hS
              · intro n_93 w22 w23 h9_93 ih_93 hF ls H locs hl hW hS
                have hF : lp_X3_digest_93 (n_93 + 1) x1 w9 w22 w23 (fun w22 w23 => tc_let (w9 + 1) (fun v25 => lp_X3_digest_82 n_82 x1 w22 v25)) = some (r, z) := hF
                rw [lp_X3_digest_93] at hF
                refine lv_iload hx hb dX3_digest_93 (lv_at hl 3 rfl) ?_
                refine lv_iconst (v := 5) hx hb dX3_digest_95 (by decide) ?_
                refine lv_icmp_ge (tgt := 120) hx hb dX3_digest_96 (by decide) (fun c24 => ?_) (fun c24 => ?_)
                · have hF := tc_it hF c24
                  try dsimp only at hF
                  obtain ⟨v25, ev25⟩ : ∃ z : Int32, z = w9 + 1 := ⟨_, rfl⟩
                  have hF := tc_lt hF ev25
                  refine lv_iinc (v := v25) (lv' := [(3, .int v25), (0, .ref (E 0)), (1, .long w22), (4, .int w23)]) hx hb dX3_digest_120 hl (k := 2) rfl (by rw [ev25]; rfl) (by decide) rfl (fun ls hl => ?_)
                  refine lv_goto (tgt := 82) hx hb dX3_digest_123 (by decide) ?_
                  refine W.widen (k := 93 + (41 - n_82) * 6) (n := 396 + (41 - n_82) * 30) (by omega) (by omega) ?_
                  exact ih_82 w22 v25 hF _ _ _ (lv_sub hl [1, 2, 0] rfl) hW hS
                · have hF := tc_if hF c24
                  refine lv_lload_n hx hb dX3_digest_99 rfl (lv_at hl 1 rfl) ?_
                  refine lv_ldc2 (v := 31) hx hb hown (hts (.constantLong RX3 135 (31)) (List.mem_of_getElem? (i := 3) rfl)) dX3_digest_100 ?_
                  refine lv_lmul hx hb dX3_digest_103 ?_
                  refine lv_aload_n hx hb dX3_digest_104 rfl (lv_at hl 0 rfl) ?_
                  refine lv_iload_n hx hb dX3_digest_105 rfl (lv_at hl 2 rfl) ?_
                  refine lv_iload hx hb dX3_digest_106 (lv_at hl 3 rfl) ?_
                  obtain ⟨r26, h27, hF⟩ := tc_bi hF
                  refine tc_cw (va_runV (As := [.int w9, .int w23]) (rest := [.long (w22 * 31)]) ⟨hx, hb, hml, hown, hts⟩ (mt_X3_barrelTold l D cU cO cI A E x1 w9 w23 r26 h27) (cwV 2 hts gX3_digest_X3_barrelTold rfl rfl rfl (by decide +kernel) ⟨Nat.le_of_ble_eq_true rfl, Nat.le_of_ble_eq_true rfl⟩) ⟨fun a U g mk q => ⟨q.1, q.2.1, q.2.2.call⟩, tc_rcv (hW.1) hK rfl, fun U hU hW9 => ⟨rfl, by rw [hU]; exact hW, hKM.go hS hU hW9⟩⟩ rfl rfl hl.1 rfl (lv_room (Nat.le_of_ble_eq_true rfl)) dX3_digest_108 ⟨by show 93 + (41 - (n_82 + 1)) * 6 + (6 - (n_93 + 1)) * 1 + 1 ≤ 399; omega, by show 396 + (41 - (n_82 + 1)) * 30 + (6 - (n_93 + 1)) * 5 + 5 ≤ 2166; omega⟩) hS (fun _ _ h => h) (fun _ h => h) (fun H locs hW z1 o1 hS => ?_)
                  refine lv_i2l hx hb dX3_digest_111 rfl ?_
                  refine lv_ladd hx hb dX3_digest_112 ?_
                  refine lv_topl (fun v28 ev28 => ?_)
                  have hF := tc_lt hF ev28
                  refine lv_lstore_n (lv' := [(1, .long v28), (0, .ref (E 0)), (3, .int w9), (4, .int w23)]) hx hb dX3_digest_113 rfl hl (by decide) rfl (fun ls hl => ?_)
                  obtain ⟨v29, ev29⟩ : ∃ z : Int32, z = w23 + 1 := ⟨_, rfl⟩
                  have hF := tc_lt hF ev29
                  refine lv_iinc (v := v29) (lv' := [(4, .int v29), (1, .long v28), (0, .ref (E 0)), (3, .int w9)]) hx hb dX3_digest_114 hl (k := 3) rfl (by rw [ev29]; rfl) (by decide) rfl (fun ls hl => ?_)
                  refine lv_goto (tgt := 93) hx hb dX3_digest_117 (by decide) ?_
                  refine W.widen (k := 93 + (41 - (n_82 + 1)) * 6 + (6 - n_93) * 1) (n := 396 + (41 - (n_82 + 1)) * 30 + (6 - n_93) * 5) (by omega) (by omega) ?_
                  exact ih_93 v28 v29 hF _ _ _ (lv_sub hl [2, 1, 3, 0] rfl) hW hS
              · intro w22 w23 h9
                have h9 : lp_X3_digest_93 0 x1 w9 w22 w23 (fun w22 w23 => tc_let (w9 + 1) (fun v25 => lp_X3_digest_82 n_82 x1 w22 v25)) = some (r, z) := h9
                rw [lp_X3_digest_93] at h9
                cases h9
          · intro w8 w9 h9
            have h9 : lp_X3_digest_82 0 x1 w8 w9 = some (r, z) := h9
            rw [lp_X3_digest_82] at h9
            cases h9
        · have hF := tc_if hF c7
          refine lv_iconst (v := 0) hx hb dX3_digest_44 (by decide) ?_
          refine lv_istore (lv' := [(4, .int 0), (0, .ref (E 0)), (1, .long w5), (3, .int w6)]) hx hb dX3_digest_45 hl (by decide) rfl (fun ls hl => ?_)
          refine tc_lpH2 (fun n w30 w31 => lp_X3_digest_47 n x1 w6 w30 w31 (fun w30 w31 => tc_let (w6 + 1) (fun v33 => lp_X3_digest_38 n_38 x1 w30 v33))) (fun w30 w31 => [(0, .ref (E 0)), (1, .long w30), (3, .int w6), (4, .int w31)]) (tc_WM D cI A E x1) 5 1 4 w5 0 ?_ ?_ hF (lv_sub hl [1, 2, 3, 0] rfl) hW hS
          · intro n_47 w30 w31 h9_47 ih_47 hF ls H locs hl hW hS
            have hF : lp_X3_digest_47 (n_47 + 1) x1 w6 w30 w31 (fun w30 w31 => tc_let (w6 + 1) (fun v33 => lp_X3_digest_38 n_38 x1 w30 v33)) = some (r, z) := hF
            rw [lp_X3_digest_47] at hF
            refine lv_iload hx hb dX3_digest_47 (lv_at hl 3 rfl) ?_
            refine lv_iconst (v := 4) hx hb dX3_digest_49 (by decide) ?_
            refine lv_icmp_ge (tgt := 74) hx hb dX3_digest_50 (by decide) (fun c32 => ?_) (fun c32 => ?_)
            · have hF := tc_it hF c32
              try dsimp only at hF
              obtain ⟨v33, ev33⟩ : ∃ z : Int32, z = w6 + 1 := ⟨_, rfl⟩
              have hF := tc_lt hF ev33
              refine lv_iinc (v := v33) (lv' := [(3, .int v33), (0, .ref (E 0)), (1, .long w30), (4, .int w31)]) hx hb dX3_digest_74 hl (k := 2) rfl (by rw [ev33]; rfl) (by decide) rfl (fun ls hl => ?_)
              refine lv_goto (tgt := 38) hx hb dX3_digest_77 (by decide) ?_
              refine W.widen (k := 8 + (17 - n_38) * 5) (n := 56 + (17 - n_38) * 20) (by omega) (by omega) ?_
              exact ih_38 w30 v33 hF _ _ _ (lv_sub hl [1, 2, 0] rfl) hW hS
            · have hF := tc_if hF c32
              refine lv_lload_n hx hb dX3_digest_53 rfl (lv_at hl 1 rfl) ?_
              refine lv_ldc2 (v := 31) hx hb hown (hts (.constantLong RX3 135 (31)) (List.mem_of_getElem? (i := 3) rfl)) dX3_digest_54 ?_
              refine lv_lmul hx hb dX3_digest_57 ?_
              refine lv_aload_n hx hb dX3_digest_58 rfl (lv_at hl 0 rfl) ?_
              refine lv_iload_n hx hb dX3_digest_59 rfl (lv_at hl 2 rfl) ?_
              refine lv_iload hx hb dX3_digest_60 (lv_at hl 3 rfl) ?_
              obtain ⟨r34, h35, hF⟩ := tc_bi hF
              refine tc_cw (va_runV (As := [.int w6, .int w31]) (rest := [.long (w30 * 31)]) ⟨hx, hb, hml, hown, hts⟩ (mt_X3_placeTold l D cU cO cI A E x1 w6 w31 r34 h35) (cwV 2 hts gX3_digest_X3_placeTold rfl rfl rfl (by decide +kernel) ⟨Nat.le_of_ble_eq_true rfl, Nat.le_of_ble_eq_true rfl⟩) ⟨fun a U g mk q => ⟨q.1, q.2.1, q.2.2.call⟩, tc_rcv (hW.1) hK rfl, fun U hU hW9 => ⟨rfl, by rw [hU]; exact hW, hKM.go hS hU hW9⟩⟩ rfl rfl hl.1 rfl (lv_room (Nat.le_of_ble_eq_true rfl)) dX3_digest_62 ⟨by show 8 + (17 - (n_38 + 1)) * 5 + (5 - (n_47 + 1)) * 1 + 1 ≤ 399; omega, by show 56 + (17 - (n_38 + 1)) * 20 + (5 - (n_47 + 1)) * 4 + 4 ≤ 2166; omega⟩) hS (fun _ _ h => h) (fun _ h => h) (fun H locs hW z1 o1 hS => ?_)
              refine lv_i2l hx hb dX3_digest_65 rfl ?_
              refine lv_ladd hx hb dX3_digest_66 ?_
              refine lv_topl (fun v36 ev36 => ?_)
              have hF := tc_lt hF ev36
              refine lv_lstore_n (lv' := [(1, .long v36), (0, .ref (E 0)), (3, .int w6), (4, .int w31)]) hx hb dX3_digest_67 rfl hl (by decide) rfl (fun ls hl => ?_)
              obtain ⟨v37, ev37⟩ : ∃ z : Int32, z = w31 + 1 := ⟨_, rfl⟩
              have hF := tc_lt hF ev37
              refine lv_iinc (v := v37) (lv' := [(4, .int v37), (1, .long v36), (0, .ref (E 0)), (3, .int w6)]) hx hb dX3_digest_68 hl (k := 3) rfl (by rw [ev37]; rfl) (by decide) rfl (fun ls hl => ?_)
              refine lv_goto (tgt := 47) hx hb dX3_digest_71 (by decide) ?_
              refine W.widen (k := 8 + (17 - (n_38 + 1)) * 5 + (5 - n_47) * 1) (n := 56 + (17 - (n_38 + 1)) * 20 + (5 - n_47) * 4) (by omega) (by omega) ?_
              exact ih_47 v36 v37 hF _ _ _ (lv_sub hl [2, 1, 3, 0] rfl) hW hS
          · intro w30 w31 h9
            have h9 : lp_X3_digest_47 0 x1 w6 w30 w31 (fun w30 w31 => tc_let (w6 + 1) (fun v33 => lp_X3_digest_38 n_38 x1 w30 v33)) = some (r, z) := h9
            rw [lp_X3_digest_47] at h9
            cases h9
      · intro w5 w6 h9
        have h9 : lp_X3_digest_38 0 x1 w5 w6 = some (r, z) := h9
        rw [lp_X3_digest_38] at h9
        cases h9
    · have hF := tc_if hF c4
      refine lv_lload_n hx hb dX3_digest_17 rfl (lv_at hl 1 rfl) ?_
      refine lv_ldc2 (v := 31) hx hb hown (hts (.constantLong RX3 135 (31)) (List.mem_of_getElem? (i := 3) rfl)) dX3_digest_18 ?_
      refine lv_lmul hx hb dX3_digest_21 ?_
      refine lv_aload_n hx hb dX3_digest_22 rfl (lv_at hl 0 rfl) ?_
      refine lv_iload_n hx hb dX3_digest_23 rfl (lv_at hl 2 rfl) ?_
      obtain ⟨r38, h39, hF⟩ := tc_bi hF
      refine tc_cw (va_runV (As := [.int w3]) (rest := [.long (w2 * 31)]) ⟨hx, hb, hml, hown, hts⟩ (mt_X3_counted l D cU cO cI A E x1 w3 r38 h39) (cwV 1 hts gX3_digest_X3_counted rfl rfl rfl (by decide +kernel) ⟨Nat.le_of_ble_eq_true rfl, Nat.le_of_ble_eq_true rfl⟩) ⟨fun a U g mk q => ⟨q.1, q.2.1, q.2.2.call⟩, tc_rcv (hW.1) hK rfl, fun U hU hW9 => ⟨rfl, by rw [hU]; exact hW, hKM.go hS hU hW9⟩⟩ rfl rfl hl.1 rfl (lv_room (Nat.le_of_ble_eq_true rfl)) dX3_digest_24 ⟨by show 0 + (8 - (n_11 + 1)) * 1 + 1 ≤ 399; omega, by show 0 + (8 - (n_11 + 1)) * 7 + 7 ≤ 2166; omega⟩) hS (fun _ _ h => h) (fun _ h => h) (fun H locs hW z1 o1 hS => ?_)
      refine lv_i2l hx hb dX3_digest_27 rfl ?_
      refine lv_ladd hx hb dX3_digest_28 ?_
      refine lv_topl (fun v40 ev40 => ?_)
      have hF := tc_lt hF ev40
      refine lv_lstore_n (lv' := [(1, .long v40), (0, .ref (E 0)), (3, .int w3)]) hx hb dX3_digest_29 rfl hl (by decide) rfl (fun ls hl => ?_)
      obtain ⟨v41, ev41⟩ : ∃ z : Int32, z = w3 + 1 := ⟨_, rfl⟩
      have hF := tc_lt hF ev41
      refine lv_iinc (v := v41) (lv' := [(3, .int v41), (1, .long v40), (0, .ref (E 0))]) hx hb dX3_digest_30 hl (k := 2) rfl (by rw [ev41]; rfl) (by decide) rfl (fun ls hl => ?_)
      refine lv_goto (tgt := 11) hx hb dX3_digest_33 (by decide) ?_
      refine W.widen (k := 0 + (8 - n_11) * 1) (n := 0 + (8 - n_11) * 7) (by omega) (by omega) ?_
      exact ih_11 v40 v41 hF _ _ _ (lv_sub hl [2, 1, 0] rfl) hW hS
  · intro w2 w3 h9
    have h9 : lp_X3_digest_11 0 x1 w2 w3 = some (r, z) := h9
    rw [lp_X3_digest_11] at h9
    cases h9
