def f_X2_land (x : tc_X) (a1 : Int32) (a2 : Int32) : Option (Nat × Int32 × tc_X) := Option.bind (f_X2_requirePlace x a1) (fun k1 => (if k1 = 0 then Option.bind (f_X2_requireWeight x a2) (fun k4 => (if k4 = 0 then (if 40 ≤ (nI (tc_nb x)) then some (3, 0, x) else Option.bind (f_X2_heightOf x a1) (fun r8 => (if r8 < 8 then Option.bind (f_X2_heightOf x a1) (fun r11 => Option.bind (f_X2_hooksAllow x a1 (r11 + 1) (-1)) (fun r13 => (if r13 = 0 then some (3, 0, x) else (if tc_nb x < 40 then tc_let (tc_nb x) (fun b18 => tc_let (tc_nB x (nI (tc_nb x)) a2) (fun x19 => Option.bind (f_X2_putUpon x19 a1 b18) (fun x21 => (if b18 < tc_nb x21 then some (0, (x21.1 10 b18), x21) else none)))) else none)))) else some (3, 0, x)))) else some (k4, 0, x))) else some (k1, 0, x)))
set_option maxHeartbeats 4000000 in
set_option maxRecDepth 100000 in
theorem mt_X2_land (l : Launch) (hst : l.stackTraces = false) (D : va_G) (cU cO cI : ClassId) (e0 : Nat) (A : Nat → Prop) (E : Nat → Nat) (x : tc_X) (a1 : Int32) (a2 : Int32) (k : Nat) (r : Int32) (z : tc_X) (hwf : tc_wf x) (hF : f_X2_land x a1 a2 = some (k, r, z)) : vx_Met l yX2_land wsX2_land ({ frames := 7, cells := 4, slots := 79, locals := 157 } : Room) (va_Pc [.ref (E 0), .int a1, .int a2] (fun U => tc_WC D cU cO e0 A E x U.heap ∧ tc_KX D cU cO cI e0 A U)) (tc_Qx k (some (.int r)) (fun H9 => ∃ E9 : Nat → Nat, E9 0 = E 0 ∧ tc_WC D cU cO e0 A E9 z H9) A) (tc_XC k (tc_WC D cU cO e0 A E x) A) 4 79 A := by
  refine vx_ofW (cc := cX2_land) (maxL := 4) (ret := (some .int)) (by decide) rfl ?_
  intro p e s m args below meth c s₁ B hml hno hv
  obtain ⟨rfl, hW, hKX⟩ := hv
  have hx := B.exec
  have hb := B.bytes
  have hr := B.returns
  have hts := atoms_spec (ws := wsX2_land) B.pre
  have hown : s.vm.findClass RX2 = some m.cls := findClass_of_methodNamed B.named
  have hlocks := B.notSynchronized
  have hKC := hKX.1
  have hK := hKC.1
  have hA := hKX.2.1
  have hinX0 : ∀ w ∈ wsX00, w ∈ wsX2_land := fun w9 h9 => List.mem_cons_of_mem _ (List.mem_append_left _ (List.mem_append_left _ (List.mem_append_left _ (List.mem_append_left _ (List.mem_append_left _ (List.mem_append_right _ h9))))))
  have hinX2 : ∀ w ∈ wsX20, w ∈ wsX2_land := fun w9 h9 => List.mem_cons_of_mem _ (List.mem_append_left _ (List.mem_append_left _ (List.mem_append_left _ (List.mem_append_left _ (List.mem_append_left _ (List.mem_append_left _ (List.mem_append_right _ h9)))))))
  have hS : va_S A s.heap s.heap [] := va_S.rf
  have hl := lv_entry ([.ref (E 0), .int a1, .int a2]) (n := 4) (Nat.le_of_ble_eq_true rfl)
  rw [lg_entry_eq]
  generalize (lg_sl ([.ref (E 0), .int a1, .int a2]) ++ List.replicate (4 - (lg_sl ([.ref (E 0), .int a1, .int a2])).length) Slot.unset).toArray = ls at hl ⊢
  have hl : lv_has ls 4 [(0, .ref (E 0)), (1, .int a1), (2, .int a2)] := hl
  refine lv_iload_n hx hb dX2_land_0 rfl (lv_at hl 1 rfl) ?_
  obtain ⟨k1, h2, hF⟩ := tc_bi hF
  refine tc_cxv (vx_runS (As := [.int a1]) (rest := []) ⟨hx, hb, hml, hown, hts⟩ (mt_X2_requirePlace l hst D cU cO cI e0 A E x a1 k1 h2) (va_cwS 1 hts gX2_land_X2_requirePlace rfl rfl rfl (by decide +kernel) ⟨Nat.le_of_ble_eq_true rfl, Nat.le_of_ble_eq_true rfl⟩) ⟨fun a U g mk q => ⟨q.1, q.2.1, q.2.2.call⟩, fun U hU hW9 => ⟨rfl, by rw [hU]; exact hW, hKX.go hS hU hW9⟩⟩ rfl rfl hl.1 rfl (lv_room (Nat.le_of_ble_eq_true rfl)) dX2_land_1 ⟨Nat.le_of_ble_eq_true rfl, Nat.le_of_ble_eq_true rfl⟩) hS (fun _ _ h => h) (fun _ h => h) (fun _ _ h => h) (fun ce q9 H locs c3 hW z1 o1 hS hce hcv hcl => ?_) (fun H locs c3 hW z1 o1 hS => ?_)
  · have hF := tc_if hF c3
    obtain ⟨h91, h92, h93⟩ := tc_pr3 (Option.some.inj hF)
    exact vx_out (fun z9 h9 => (hno z9 h9).elim) hlocks hce hcv hcl (fun t ht hal => ⟨⟨h91 ▸ c3, by rw [h91], by rw [ht]; exact hW⟩, tc_F hS ht⟩) hS.2.2 (Nat.le_of_ble_eq_true rfl) (Nat.le_of_ble_eq_true rfl)
  · have hF := tc_it hF c3
    refine lv_iload_n hx hb dX2_land_4 rfl (lv_at hl 2 rfl) ?_
    obtain ⟨k4, h5, hF⟩ := tc_bi hF
    refine tc_cxv (vx_runS (As := [.int a2]) (rest := []) ⟨hx, hb, hml, hown, hts⟩ (mt_X2_requireWeight l hst D cU cO cI e0 A E x a2 k4 h5) (va_cwS 1 hts gX2_land_X2_requireWeight rfl rfl rfl (by decide +kernel) ⟨Nat.le_of_ble_eq_true rfl, Nat.le_of_ble_eq_true rfl⟩) ⟨fun a U g mk q => ⟨q.1, q.2.1, q.2.2.call⟩, fun U hU hW9 => ⟨rfl, by rw [hU]; exact hW, hKX.go hS hU hW9⟩⟩ rfl rfl hl.1 rfl (lv_room (Nat.le_of_ble_eq_true rfl)) dX2_land_5 ⟨Nat.le_of_ble_eq_true rfl, Nat.le_of_ble_eq_true rfl⟩) hS (fun _ _ h => h) (fun _ h => h) (fun _ _ h => h) (fun ce q9 H locs c6 hW z1 o1 hS hce hcv hcl => ?_) (fun H locs c6 hW z1 o1 hS => ?_)
    · have hF := tc_if hF c6
      obtain ⟨h91, h92, h93⟩ := tc_pr3 (Option.some.inj hF)
      exact vx_out (fun z9 h9 => (hno z9 h9).elim) hlocks hce hcv hcl (fun t ht hal => ⟨⟨h91 ▸ c6, by rw [h91], by rw [ht]; exact hW⟩, tc_F hS ht⟩) hS.2.2 (Nat.le_of_ble_eq_true rfl) (Nat.le_of_ble_eq_true rfl)
    · have hF := tc_it hF c6
      refine lv_aload_n hx hb dX2_land_8 rfl (lv_at hl 0 rfl) ?_
      refine tc_get (v := .ref (E 2)) hx hb hts hinX2 hown hK (hW.o) (C := RX2) (T := TX2) (N := 4) rfl 1 (by decide) (hts (.fieldLink RX2 18 "TreadCranes" "barrels" "Ljava/util/ArrayList;") (List.mem_of_getElem? (i := 3) rfl)) (fun _ h9 => h9) rfl dX2_land_9 ?_
      obtain ⟨mo, ha1, -⟩ := hW.2.2.1
      refine tc_cr (W.runV (As := []) (rest := []) ⟨hx, hb, hml, hown, hts⟩ (mt_lsize l D (E 2) mo (E 4) (nI (tc_nb x))) (cwV 0 hts gX2_land_Jx4a65c_size_8abf5 rfl rfl rfl (by decide +kernel) ⟨Nat.le_of_ble_eq_true rfl, Nat.le_of_ble_eq_true rfl⟩) ⟨fun a U g mk q => ⟨q.1, q.2.1, va_K.moved (Vm.Alike.refl U.vm) q.2.2⟩, tc_rcv ha1 hK rfl, fun U hU hW9 => ⟨rfl, by rw [hU]; exact ha1, va_K.moved hW9.alike (hK.sub [] rfl)⟩⟩ rfl rfl hl.1 rfl (lv_room (Nat.le_of_ble_eq_true rfl)) dX2_land_12 ⟨Nat.le_of_ble_eq_true rfl, Nat.le_of_ble_eq_true rfl⟩) ?_
      refine lv_bipush (v := 40) hx hb dX2_land_15 (by decide) ?_
      refine lv_icmp_ge (tgt := 30) hx hb dX2_land_17 (by decide) (fun c7 => ?_) (fun c7 => ?_)
      · have hF := tc_it hF c7
        obtain ⟨h91, h92, h93⟩ := tc_pr3 (Option.some.inj hF)
        obtain ⟨sa, hsa⟩ := hKX.2.2.2.2.2.1 _ (List.mem_of_getElem? (l := tc_tx) (i := 0) rfl)
        exact vx_throwS hx hb hst (names := ["java/lang/RuntimeException", "java/lang/Exception"]) hown tc_fit.2.2.1 tc_fit.2.2.2 (hts (.classLink RX2 40 "java/lang/IllegalStateException") (List.mem_of_getElem? (i := 1) rfl)) (hts (.initialized "java/lang/IllegalStateException") (List.mem_of_getElem? (i := 2) rfl)) hsa (tc_hat (fun w9 h9 => hts w9 (List.mem_cons_of_mem _ (List.mem_append_left _ (List.mem_append_left _ (List.mem_append_right _ h9))))) tc_n3 hKX.2.2.2.2.2.2.1 hKX.2.2.2.2.2.2.2.2.2.1) tc_o3 hKX.2.2.1 hKX.2.2.2.1 hS (by rw [hml]; exact hl.1) dX2_land_30 dX2_land_33 dX2_land_34 dX2_land_36 dX2_land_39 (fun z9 h9 => (hno z9 h9).elim) (by decide) (Nat.le_of_ble_eq_true rfl) (Nat.le_of_ble_eq_true rfl) (Nat.le_of_ble_eq_true rfl) hlocks (h91 ▸ tc_xx (k := 3) (by decide) hS hW) hS.2.2 (Nat.le_of_ble_eq_true rfl) (Nat.le_of_ble_eq_true rfl)
      · have hF := tc_if hF c7
        refine lv_aload_n hx hb dX2_land_20 rfl (lv_at hl 0 rfl) ?_
        refine lv_iload_n hx hb dX2_land_21 rfl (lv_at hl 1 rfl) ?_
        obtain ⟨r8, h9, hF⟩ := tc_bi hF
        refine tc_cr (W.runV (As := [.int a1]) (rest := []) ⟨hx, hb, hml, hown, hts⟩ (mt_X2_heightOf l D cU cO cI e0 A E x a1 r8 h9) (cwV 1 hts gX2_land_X2_heightOf rfl rfl rfl (by decide +kernel) ⟨Nat.le_of_ble_eq_true rfl, Nat.le_of_ble_eq_true rfl⟩) ⟨fun a U g mk q => ⟨q.1, q.2.1, q.2.2.call⟩, tc_rcv (hW.o) hK rfl, fun U hU hW9 => ⟨rfl, by rw [hU]; exact hW, hKC.warm hW9⟩⟩ rfl rfl hl.1 rfl (lv_room (Nat.le_of_ble_eq_true rfl)) dX2_land_22 ⟨Nat.le_of_ble_eq_true rfl, Nat.le_of_ble_eq_true rfl⟩) ?_
        refine lv_bipush (v := 8) hx hb dX2_land_25 (by decide) ?_
        refine lv_icmp_lt (tgt := 40) hx hb dX2_land_27 (by decide) (fun c10 => ?_) (fun c10 => ?_)
        · have hF := tc_it hF c10
          refine lv_aload_n hx hb dX2_land_40 rfl (lv_at hl 0 rfl) ?_
          refine lv_iload_n hx hb dX2_land_41 rfl (lv_at hl 1 rfl) ?_
          refine lv_aload_n hx hb dX2_land_42 rfl (lv_at hl 0 rfl) ?_
          refine lv_iload_n hx hb dX2_land_43 rfl (lv_at hl 1 rfl) ?_
          obtain ⟨r11, h12, hF⟩ := tc_bi hF
          refine tc_cr (W.runV (As := [.int a1]) (rest := [.int a1, .ref (E 0)]) ⟨hx, hb, hml, hown, hts⟩ (mt_X2_heightOf l D cU cO cI e0 A E x a1 r11 h12) (cwV 1 hts gX2_land_X2_heightOf rfl rfl rfl (by decide +kernel) ⟨Nat.le_of_ble_eq_true rfl, Nat.le_of_ble_eq_true rfl⟩) ⟨fun a U g mk q => ⟨q.1, q.2.1, q.2.2.call⟩, tc_rcv (hW.o) hK rfl, fun U hU hW9 => ⟨rfl, by rw [hU]; exact hW, hKC.warm hW9⟩⟩ rfl rfl hl.1 rfl (lv_room (Nat.le_of_ble_eq_true rfl)) dX2_land_44 ⟨Nat.le_of_ble_eq_true rfl, Nat.le_of_ble_eq_true rfl⟩) ?_
          refine lv_iconst (v := 1) hx hb dX2_land_47 (by decide) ?_
          refine lv_iadd hx hb dX2_land_48 ?_
          refine lv_iconst (v := (-1)) hx hb dX2_land_49 (by decide) ?_
          obtain ⟨r13, h14, hF⟩ := tc_bi hF
          refine tc_cr (W.runV (As := [.int a1, .int (r11 + 1), .int (-1)]) (rest := []) ⟨hx, hb, hml, hown, hts⟩ (mt_X2_hooksAllow l D cU cO cI e0 A E x a1 (r11 + 1) (-1) r13 h14) (cwV 3 hts gX2_land_X2_hooksAllow rfl rfl rfl (by decide +kernel) ⟨Nat.le_of_ble_eq_true rfl, Nat.le_of_ble_eq_true rfl⟩) ⟨fun a U g mk q => ⟨q.1, q.2.1, q.2.2.call⟩, tc_rcv (hW.o) hK rfl, fun U hU hW9 => ⟨rfl, by rw [hU]; exact hW, hKC.warm hW9⟩⟩ rfl rfl hl.1 rfl (lv_room (Nat.le_of_ble_eq_true rfl)) dX2_land_50 ⟨Nat.le_of_ble_eq_true rfl, Nat.le_of_ble_eq_true rfl⟩) ?_
          refine lv_if_ne (tgt := 66) hx hb dX2_land_53 (by decide) (fun c15 => ?_) (fun c15 => ?_)
          · have hF := tc_if hF c15
            refine tc_newC (ci := 1) (fs := [.int 0, .int 0, .int 0, .int 0, .null, .int 0, .int 0]) hx hb hts hinX0 tyX0 tyX0_ok hown (hts (.classLink RX2 9 RX0) (List.mem_of_getElem? (i := 4) rfl)) (hts (.instantiable RX0 7) (List.mem_of_getElem? (i := 5) rfl)) (hts (.initialized RX0) (List.mem_of_getElem? (i := 6) rfl)) hK hS hA rfl (fun j hj => by rcases (show j = 0 ∨ j = 1 ∨ j = 2 ∨ j = 3 ∨ j = 4 ∨ j = 5 ∨ j = 6 by omega) with rfl | rfl | rfl | rfl | rfl | rfl | rfl <;> rfl) (Nat.le_of_ble_eq_true rfl) (Nat.le_of_ble_eq_true rfl) dX2_land_66 (fun q16 H hq9 hA_q16 e_q16 z1 o1 hS => ?_)
            have hn_q16 := hW.ne hq9
            have hW := hW.grown o1
            refine lv_dup hx hb dX2_land_69 rfl ?_
            refine lv_aload_n hx hb dX2_land_70 rfl (lv_at hl 0 rfl) ?_
            refine tc_get (v := .ref (E 2)) hx hb hts hinX2 hown hK (hW.o) (C := RX2) (T := TX2) (N := 4) rfl 1 (by decide) (hts (.fieldLink RX2 18 "TreadCranes" "barrels" "Ljava/util/ArrayList;") (List.mem_of_getElem? (i := 3) rfl)) (fun _ h9 => h9) rfl dX2_land_71 ?_
            obtain ⟨mo, ha1, -⟩ := hW.2.2.1
            refine tc_cr (W.runV (As := []) (rest := [.ref q16, .ref q16]) ⟨hx, hb, hml, hown, hts⟩ (mt_lsize l D (E 2) mo (E 4) (nI (tc_nb x))) (cwV 0 hts gX2_land_Jx4a65c_size_8abf5 rfl rfl rfl (by decide +kernel) ⟨Nat.le_of_ble_eq_true rfl, Nat.le_of_ble_eq_true rfl⟩) ⟨fun a U g mk q => ⟨q.1, q.2.1, va_K.moved (Vm.Alike.refl U.vm) q.2.2⟩, tc_rcv ha1 hK rfl, fun U hU hW9 => ⟨rfl, by rw [hU]; exact ha1, va_K.moved hW9.alike (hK.sub [] rfl)⟩⟩ rfl rfl hl.1 rfl (lv_room (Nat.le_of_ble_eq_true rfl)) dX2_land_74 ⟨Nat.le_of_ble_eq_true rfl, Nat.le_of_ble_eq_true rfl⟩) ?_
            refine lv_iload_n hx hb dX2_land_77 rfl (lv_at hl 2 rfl) ?_
            refine tc_cwv (va_runI (As := [.int (nI (tc_nb x)), .int a2]) (rest := [.ref q16]) ⟨hx, hb, hml, hown, hts⟩ (mt_X0_init l D q16 (nI (tc_nb x)) a2) (cwI 2 hts gX2_land_X0_init rfl rfl rfl (hts (.initialized RX0) (List.mem_of_getElem? (i := 6) rfl)) (hts (.methodLink RX2 53 yX0_init) (List.mem_of_getElem? (i := 72) rfl)) (hts (.instanceMethod yX0_init) (List.mem_of_getElem? (i := 73) rfl)) rfl (by decide +kernel) ⟨Nat.le_of_ble_eq_true rfl, Nat.le_of_ble_eq_true rfl⟩) ⟨fun a U g mk q9 => ⟨q9.1, q9.2.1, va_K.moved (Vm.Alike.refl U.vm) q9.2.2⟩, fun U hU hW9 => ⟨rfl, by rw [hU]; exact e_q16, va_K.moved hW9.alike (hK.sub (tys' := []) [] rfl)⟩⟩ rfl rfl hl.1 rfl (lv_room (Nat.le_of_ble_eq_true rfl)) dX2_land_78 ⟨Nat.le_of_ble_eq_true rfl, Nat.le_of_ble_eq_true rfl⟩) hS (fun _ _ h => by rw [h]; exact hA_q16) (fun _ h => by rw [h]; exact hA_q16) (fun H locs e_q16 z1 o1 hS => ?_)
            have hW := hW.kept2 (fun j9 hj9 => o1 _ (hW.lt hj9) (hn_q16 j9 hj9))
            refine lv_astore_n (lv' := [(3, .ref q16), (0, .ref (E 0)), (1, .int a1), (2, .int a2)]) hx hb dX2_land_81 rfl hl (by decide) rfl (fun ls hl => ?_)
            refine lv_aload_n hx hb dX2_land_82 rfl (lv_at hl 1 rfl) ?_
            refine tc_get (v := .ref (E 2)) hx hb hts hinX2 hown hK (hW.o) (C := RX2) (T := TX2) (N := 4) rfl 1 (by decide) (hts (.fieldLink RX2 18 "TreadCranes" "barrels" "Ljava/util/ArrayList;") (List.mem_of_getElem? (i := 3) rfl)) (fun _ h9 => h9) rfl dX2_land_83 ?_
            refine lv_aload_n hx hb dX2_land_86 rfl (lv_at hl 0 rfl) ?_
            obtain ⟨g17, hF⟩ := tc_ob hF
            obtain ⟨mo, mi, cap, fl, ha1, ha2, ha3, ha4, ha5, ha6, ha7⟩ := tc_LWofB hKX hS hW
            have hAny := tc_AnyO hKX.1.1 e_q16 rfl hKX.2.2.2.2.2.2.2.2.2.2.2.2.2.2.2.1
            refine tc_cw (va_runV (As := [.ref q16]) (rest := []) ⟨hx, hb, hml, hown, hts⟩ (mt_ladd l D cO e0 mi _ (E 2) mo (E 4) (tc_nb x) cap fl q16 (by omega) ha1 ha2 (fun z9 => hn_q16 2 (tc_lv.f (by decide)) z9.symm) (tc_q4 hW hA_q16 hn_q16)) (cwV 1 hts gX2_land_Jx4a65c_add_9ea2d rfl rfl rfl (by decide +kernel) ⟨Nat.le_of_ble_eq_true rfl, Nat.le_of_ble_eq_true rfl⟩) ⟨fun a U g mk q9 => ⟨q9.1, q9.2.1.moved rfl (Vm.Alike.refl U.vm), tc_AnyM (Vm.Alike.refl U.vm) q9.2.2 rfl⟩, tc_rcv ha6 hK rfl, fun U hU hW9 => ⟨rfl, ha7 U hU hW9, tc_AnyM hW9.alike hAny (by rw [hU])⟩⟩ rfl rfl hl.1 rfl (lv_room (Nat.le_of_ble_eq_true rfl)) dX2_land_87 ⟨Nat.le_of_ble_eq_true rfl, Nat.le_of_ble_eq_true rfl⟩) hS (fun z9 _ h9 => ha5 z9 h9) (fun z9 h9 => ha5 z9 h9) (fun H locs hR z1 o1 hS9 => ?_)
            obtain ⟨d9, c9, f9, r1, r2, r3, r4, r5, r6, r7, r8⟩ := hR
            obtain ⟨E, hE0, hEq, hW⟩ := tc_addedB hW hwf g17 (fun z9 h9 => hA z9 (Nat.le_trans hS.1 h9)) hA_q16 hn_q16 e_q16 (tc_q4 hW hA_q16 hn_q16) ha4 ha3 r1 r2 r3 r4 r5 r6 r7 r8 o1
            have hS := hS9
            obtain ⟨b18, eb18⟩ : ∃ z : Nat, z = tc_nb x := ⟨_, rfl⟩
            have hF := tc_lt hF eb18
            rw [← eb18] at hEq
            have hl : lv_has ls 4 [(3, .ref (E (6 + b18))), (0, .ref (E 0)), (1, .int a1), (2, .int a2)] := by first | (rw [hE0, hEq]; exact hl) | (rw [hE0]; exact hl)
            obtain ⟨x19, ex19⟩ : ∃ z : tc_X, z = tc_nB x (nI (tc_nb x)) a2 := ⟨_, rfl⟩
            have hF := tc_lt hF ex19
            have hW : tc_WC D cU cO e0 A E x19 H := by rw [ex19]; exact hW
            have g20 : b18 < tc_nb x19 := by rw [ex19, eb18]; exact Nat.lt_succ_self _
            refine lv_pop hx hb dX2_land_90 rfl ?_
            refine lv_aload_n hx hb dX2_land_91 rfl (lv_at hl 1 rfl) ?_
            refine lv_iload_n hx hb dX2_land_92 rfl (lv_at hl 2 rfl) ?_
            refine lv_aload_n hx hb dX2_land_93 rfl (lv_at hl 0 rfl) ?_
            obtain ⟨x21, h22, hF⟩ := tc_bi hF
            refine tc_cwv (va_runV (As := [.int a1, .ref (E (6 + b18))]) (rest := []) ⟨hx, hb, hml, hown, hts⟩ (mt_X2_putUpon l D cU cO cI e0 A E x19 a1 b18 x21 h22) (cwV 2 hts gX2_land_X2_putUpon rfl rfl rfl (by decide +kernel) ⟨Nat.le_of_ble_eq_true rfl, Nat.le_of_ble_eq_true rfl⟩) ⟨fun a U g mk q => ⟨q.1, q.2.1, q.2.2.call⟩, tc_rcv (hW.o) hK rfl, fun U hU hW9 => ⟨rfl, by rw [hU]; exact hW, hKX.go hS hU hW9⟩⟩ rfl rfl hl.1 rfl (lv_room (Nat.le_of_ble_eq_true rfl)) dX2_land_94 ⟨Nat.le_of_ble_eq_true rfl, Nat.le_of_ble_eq_true rfl⟩) hS (fun _ _ h => h) (fun _ h => h) (fun H locs hW z1 o1 hS => ?_)
            refine lv_aload_n hx hb dX2_land_97 rfl (lv_at hl 0 rfl) ?_
            obtain ⟨g23, hF⟩ := tc_ob hF
            refine tc_get (v := .int (x21.1 10 b18)) hx hb hts hinX0 hown hK (hW.b g23) (C := RX0) (T := TX0) (N := 7) rfl 0 (by decide) (hts (.fieldLink RX2 64 "TreadCranes$Barrel" "number" "I") (List.mem_of_getElem? (i := 7) rfl)) (fun _ h9 => h9) rfl dX2_land_98 ?_
            obtain ⟨h91, h92, h93⟩ := tc_pr3 (Option.some.inj hF)
            refine W.widen (k := 4) (n := 79) (Nat.le_of_ble_eq_true rfl) (Nat.le_of_ble_eq_true rfl) ?_
            refine vx_ret ?_
            exact W.iret hx hb hr (fun t ht hW9 => ⟨⟨h91.symm, by rw [← h92], by rw [← h93, ht]; exact ⟨E, hE0, hW⟩⟩, tc_F hS ht⟩) hS.2.2 dX2_land_101
          · have hF := tc_it hF c15
            obtain ⟨h91, h92, h93⟩ := tc_pr3 (Option.some.inj hF)
            obtain ⟨sa, hsa⟩ := hKX.2.2.2.2.2.1 _ (List.mem_of_getElem? (l := tc_tx) (i := 1) rfl)
            exact vx_throwS hx hb hst (names := ["java/lang/RuntimeException", "java/lang/Exception"]) hown tc_fit.2.2.1 tc_fit.2.2.2 (hts (.classLink RX2 40 "java/lang/IllegalStateException") (List.mem_of_getElem? (i := 1) rfl)) (hts (.initialized "java/lang/IllegalStateException") (List.mem_of_getElem? (i := 2) rfl)) hsa (tc_hat (fun w9 h9 => hts w9 (List.mem_cons_of_mem _ (List.mem_append_left _ (List.mem_append_left _ (List.mem_append_right _ h9))))) tc_n3 hKX.2.2.2.2.2.2.1 hKX.2.2.2.2.2.2.2.2.2.1) tc_o3 hKX.2.2.1 hKX.2.2.2.1 hS (by rw [hml]; exact hl.1) dX2_land_56 dX2_land_59 dX2_land_60 dX2_land_62 dX2_land_65 (fun z9 h9 => (hno z9 h9).elim) (by decide) (Nat.le_of_ble_eq_true rfl) (Nat.le_of_ble_eq_true rfl) (Nat.le_of_ble_eq_true rfl) hlocks (h91 ▸ tc_xx (k := 3) (by decide) hS hW) hS.2.2 (Nat.le_of_ble_eq_true rfl) (Nat.le_of_ble_eq_true rfl)
        · have hF := tc_if hF c10
          obtain ⟨h91, h92, h93⟩ := tc_pr3 (Option.some.inj hF)
          obtain ⟨sa, hsa⟩ := hKX.2.2.2.2.2.1 _ (List.mem_of_getElem? (l := tc_tx) (i := 0) rfl)
          exact vx_throwS hx hb hst (names := ["java/lang/RuntimeException", "java/lang/Exception"]) hown tc_fit.2.2.1 tc_fit.2.2.2 (hts (.classLink RX2 40 "java/lang/IllegalStateException") (List.mem_of_getElem? (i := 1) rfl)) (hts (.initialized "java/lang/IllegalStateException") (List.mem_of_getElem? (i := 2) rfl)) hsa (tc_hat (fun w9 h9 => hts w9 (List.mem_cons_of_mem _ (List.mem_append_left _ (List.mem_append_left _ (List.mem_append_right _ h9))))) tc_n3 hKX.2.2.2.2.2.2.1 hKX.2.2.2.2.2.2.2.2.2.1) tc_o3 hKX.2.2.1 hKX.2.2.2.1 hS (by rw [hml]; exact hl.1) dX2_land_30 dX2_land_33 dX2_land_34 dX2_land_36 dX2_land_39 (fun z9 h9 => (hno z9 h9).elim) (by decide) (Nat.le_of_ble_eq_true rfl) (Nat.le_of_ble_eq_true rfl) (Nat.le_of_ble_eq_true rfl) hlocks (h91 ▸ tc_xx (k := 3) (by decide) hS hW) hS.2.2 (Nat.le_of_ble_eq_true rfl) (Nat.le_of_ble_eq_true rfl)

def f_X2_build (x : tc_X) (a1 : Int32) (a2 : Int32) (a3 : Int32) (a4 : Int32) : Option (Nat × Int32 × tc_X) := Option.bind (f_X2_requirePlace x a1) (fun k1 => (if k1 = 0 then Option.bind (f_X2_isBetween a2 1 15) (fun r4 => (if r4 = 0 then some (2, 0, x) else Option.bind (f_X2_isBetween a3 1 6) (fun r7 => (if r7 = 0 then some (2, 0, x) else Option.bind (f_X2_requireWalkers x a4) (fun k10 => (if k10 = 0 then (if (nI (tc_nc x)) < 5 then (if tc_nc x < 5 then tc_let (tc_nc x) (fun b16 => tc_let (tc_nC x a1 a2 a3 a4) (fun x17 => some (0, ((nI (tc_nc x17)) - 1), x17))) else none) else some (3, 0, x)) else some (k10, 0, x))))))) else some (k1, 0, x)))
set_option maxHeartbeats 4000000 in
set_option maxRecDepth 100000 in
theorem mt_X2_build (l : Launch) (hst : l.stackTraces = false) (D : va_G) (cU cO cI : ClassId) (e0 : Nat) (A : Nat → Prop) (E : Nat → Nat) (x : tc_X) (a1 : Int32) (a2 : Int32) (a3 : Int32) (a4 : Int32) (k : Nat) (r : Int32) (z : tc_X) (hwf : tc_wf x) (hF : f_X2_build x a1 a2 a3 a4 = some (k, r, z)) : vx_Met l yX2_build wsX2_build ({ frames := 7, cells := 4, slots := 80, locals := 157 } : Room) (va_Pc [.ref (E 0), .int a1, .int a2, .int a3, .int a4] (fun U => tc_WC D cU cO e0 A E x U.heap ∧ tc_KX D cU cO cI e0 A U)) (tc_Qx k (some (.int r)) (fun H9 => ∃ E9 : Nat → Nat, E9 0 = E 0 ∧ tc_WC D cU cO e0 A E9 z H9) A) (tc_XC k (tc_WC D cU cO e0 A E x) A) 4 80 A := by
  refine vx_ofW (cc := cX2_build) (maxL := 5) (ret := (some .int)) (by decide) rfl ?_
  intro p e s m args below meth c s₁ B hml hno hv
  obtain ⟨rfl, hW, hKX⟩ := hv
  have hx := B.exec
  have hb := B.bytes
  have hr := B.returns
  have hts := atoms_spec (ws := wsX2_build) B.pre
  have hown : s.vm.findClass RX2 = some m.cls := findClass_of_methodNamed B.named
  have hlocks := B.notSynchronized
  have hKC := hKX.1
  have hK := hKC.1
  have hA := hKX.2.1
  have hinX1 : ∀ w ∈ wsX10, w ∈ wsX2_build := fun w9 h9 => List.mem_cons_of_mem _ (List.mem_append_left _ (List.mem_append_left _ (List.mem_append_left _ (List.mem_append_left _ (List.mem_append_right _ h9)))))
  have hinX2 : ∀ w ∈ wsX20, w ∈ wsX2_build := fun w9 h9 => List.mem_cons_of_mem _ (List.mem_append_left _ (List.mem_append_left _ (List.mem_append_left _ (List.mem_append_left _ (List.mem_append_left _ (List.mem_append_right _ h9))))))
  have hS : va_S A s.heap s.heap [] := va_S.rf
  have hl := lv_entry ([.ref (E 0), .int a1, .int a2, .int a3, .int a4]) (n := 5) (Nat.le_of_ble_eq_true rfl)
  rw [lg_entry_eq]
  generalize (lg_sl ([.ref (E 0), .int a1, .int a2, .int a3, .int a4]) ++ List.replicate (5 - (lg_sl ([.ref (E 0), .int a1, .int a2, .int a3, .int a4])).length) Slot.unset).toArray = ls at hl ⊢
  have hl : lv_has ls 5 [(0, .ref (E 0)), (1, .int a1), (2, .int a2), (3, .int a3), (4, .int a4)] := hl
  refine lv_iload_n hx hb dX2_build_0 rfl (lv_at hl 1 rfl) ?_
  obtain ⟨k1, h2, hF⟩ := tc_bi hF
  refine tc_cxv (vx_runS (As := [.int a1]) (rest := []) ⟨hx, hb, hml, hown, hts⟩ (mt_X2_requirePlace l hst D cU cO cI e0 A E x a1 k1 h2) (va_cwS 1 hts gX2_build_X2_requirePlace rfl rfl rfl (by decide +kernel) ⟨Nat.le_of_ble_eq_true rfl, Nat.le_of_ble_eq_true rfl⟩) ⟨fun a U g mk q => ⟨q.1, q.2.1, q.2.2.call⟩, fun U hU hW9 => ⟨rfl, by rw [hU]; exact hW, hKX.go hS hU hW9⟩⟩ rfl rfl hl.1 rfl (lv_room (Nat.le_of_ble_eq_true rfl)) dX2_build_1 ⟨Nat.le_of_ble_eq_true rfl, Nat.le_of_ble_eq_true rfl⟩) hS (fun _ _ h => h) (fun _ h => h) (fun _ _ h => h) (fun ce q9 H locs c3 hW z1 o1 hS hce hcv hcl => ?_) (fun H locs c3 hW z1 o1 hS => ?_)
  · have hF := tc_if hF c3
    obtain ⟨h91, h92, h93⟩ := tc_pr3 (Option.some.inj hF)
    exact vx_out (fun z9 h9 => (hno z9 h9).elim) hlocks hce hcv hcl (fun t ht hal => ⟨⟨h91 ▸ c3, by rw [h91], by rw [ht]; exact hW⟩, tc_F hS ht⟩) hS.2.2 (Nat.le_of_ble_eq_true rfl) (Nat.le_of_ble_eq_true rfl)
  · have hF := tc_it hF c3
    refine lv_iload_n hx hb dX2_build_4 rfl (lv_at hl 2 rfl) ?_
    refine lv_iconst (v := 1) hx hb dX2_build_5 (by decide) ?_
    refine lv_bipush (v := 15) hx hb dX2_build_6 (by decide) ?_
    obtain ⟨r4, h5, hF⟩ := tc_bi hF
    refine tc_cr (W.runS (As := [.int a2, .int 1, .int 15]) (rest := []) ⟨hx, hb, hml, hown, hts⟩ (mt_X2_isBetween l   a2 1 15 r4 h5) (va_cwS 3 hts gX2_build_X2_isBetween rfl rfl rfl (by decide +kernel) ⟨Nat.le_of_ble_eq_true rfl, Nat.le_of_ble_eq_true rfl⟩) ⟨fun a U g mk q => q, fun U hU hW9 => ⟨rfl, trivial⟩⟩ rfl rfl hl.1 rfl (lv_room (Nat.le_of_ble_eq_true rfl)) dX2_build_8 ⟨Nat.le_of_ble_eq_true rfl, Nat.le_of_ble_eq_true rfl⟩) ?_
    refine lv_if_eq (tgt := 24) hx hb dX2_build_11 (by decide) (fun c6 => ?_) (fun c6 => ?_)
    · have hF := tc_it hF c6
      obtain ⟨h91, h92, h93⟩ := tc_pr3 (Option.some.inj hF)
      obtain ⟨sa, hsa⟩ := hKX.2.2.2.2.2.1 _ (List.mem_of_getElem? (l := tc_tx) (i := 2) rfl)
      exact vx_throwS hx hb hst (names := ["java/lang/RuntimeException", "java/lang/Exception"]) hown tc_fit.2.1 tc_fit.2.2.2 (hts (.classLink RX2 71 "java/lang/IllegalArgumentException") (List.mem_of_getElem? (i := 1) rfl)) (hts (.initialized "java/lang/IllegalArgumentException") (List.mem_of_getElem? (i := 2) rfl)) hsa (tc_hat (fun w9 h9 => hts w9 (List.mem_cons_of_mem _ (List.mem_append_left _ (List.mem_append_left _ (List.mem_append_right _ h9))))) tc_n2 hKX.2.2.2.2.2.2.1 hKX.2.2.2.2.2.2.2.2.1) tc_o2 hKX.2.2.1 hKX.2.2.2.1 hS (by rw [hml]; exact hl.1) dX2_build_24 dX2_build_27 dX2_build_28 dX2_build_30 dX2_build_33 (fun z9 h9 => (hno z9 h9).elim) (by decide) (Nat.le_of_ble_eq_true rfl) (Nat.le_of_ble_eq_true rfl) (Nat.le_of_ble_eq_true rfl) hlocks (h91 ▸ tc_xx (k := 2) (by decide) hS hW) hS.2.2 (Nat.le_of_ble_eq_true rfl) (Nat.le_of_ble_eq_true rfl)
    · have hF := tc_if hF c6
      refine lv_iload_n hx hb dX2_build_14 rfl (lv_at hl 3 rfl) ?_
      refine lv_iconst (v := 1) hx hb dX2_build_15 (by decide) ?_
      refine lv_bipush (v := 6) hx hb dX2_build_16 (by decide) ?_
      obtain ⟨r7, h8, hF⟩ := tc_bi hF
      refine tc_cr (W.runS (As := [.int a3, .int 1, .int 6]) (rest := []) ⟨hx, hb, hml, hown, hts⟩ (mt_X2_isBetween l   a3 1 6 r7 h8) (va_cwS 3 hts gX2_build_X2_isBetween rfl rfl rfl (by decide +kernel) ⟨Nat.le_of_ble_eq_true rfl, Nat.le_of_ble_eq_true rfl⟩) ⟨fun a U g mk q => q, fun U hU hW9 => ⟨rfl, trivial⟩⟩ rfl rfl hl.1 rfl (lv_room (Nat.le_of_ble_eq_true rfl)) dX2_build_18 ⟨Nat.le_of_ble_eq_true rfl, Nat.le_of_ble_eq_true rfl⟩) ?_
      refine lv_if_ne (tgt := 34) hx hb dX2_build_21 (by decide) (fun c9 => ?_) (fun c9 => ?_)
      · have hF := tc_if hF c9
        refine lv_iload hx hb dX2_build_34 (lv_at hl 4 rfl) ?_
        obtain ⟨k10, h11, hF⟩ := tc_bi hF
        refine tc_cxv (vx_runS (As := [.int a4]) (rest := []) ⟨hx, hb, hml, hown, hts⟩ (mt_X2_requireWalkers l hst D cU cO cI e0 A E x a4 k10 h11) (va_cwS 1 hts gX2_build_X2_requireWalkers rfl rfl rfl (by decide +kernel) ⟨Nat.le_of_ble_eq_true rfl, Nat.le_of_ble_eq_true rfl⟩) ⟨fun a U g mk q => ⟨q.1, q.2.1, q.2.2.call⟩, fun U hU hW9 => ⟨rfl, by rw [hU]; exact hW, hKX.go hS hU hW9⟩⟩ rfl rfl hl.1 rfl (lv_room (Nat.le_of_ble_eq_true rfl)) dX2_build_36 ⟨Nat.le_of_ble_eq_true rfl, Nat.le_of_ble_eq_true rfl⟩) hS (fun _ _ h => h) (fun _ h => h) (fun _ _ h => h) (fun ce q9 H locs c12 hW z1 o1 hS hce hcv hcl => ?_) (fun H locs c12 hW z1 o1 hS => ?_)
        · have hF := tc_if hF c12
          obtain ⟨h91, h92, h93⟩ := tc_pr3 (Option.some.inj hF)
          exact vx_out (fun z9 h9 => (hno z9 h9).elim) hlocks hce hcv hcl (fun t ht hal => ⟨⟨h91 ▸ c12, by rw [h91], by rw [ht]; exact hW⟩, tc_F hS ht⟩) hS.2.2 (Nat.le_of_ble_eq_true rfl) (Nat.le_of_ble_eq_true rfl)
        · have hF := tc_it hF c12
          refine lv_aload_n hx hb dX2_build_39 rfl (lv_at hl 0 rfl) ?_
          refine tc_get (v := .ref (E 3)) hx hb hts hinX2 hown hK (hW.o) (C := RX2) (T := TX2) (N := 4) rfl 2 (by decide) (hts (.fieldLink RX2 22 "TreadCranes" "cranes" "Ljava/util/ArrayList;") (List.mem_of_getElem? (i := 5) rfl)) (fun _ h9 => h9) rfl dX2_build_40 ?_
          obtain ⟨mo, ha1, -⟩ := hW.2.2.2.1
          refine tc_cr (W.runV (As := []) (rest := []) ⟨hx, hb, hml, hown, hts⟩ (mt_lsize l D (E 3) mo (E 5) (nI (tc_nc x))) (cwV 0 hts gX2_build_Jx4a65c_size_8abf5 rfl rfl rfl (by decide +kernel) ⟨Nat.le_of_ble_eq_true rfl, Nat.le_of_ble_eq_true rfl⟩) ⟨fun a U g mk q => ⟨q.1, q.2.1, va_K.moved (Vm.Alike.refl U.vm) q.2.2⟩, tc_rcv ha1 hK rfl, fun U hU hW9 => ⟨rfl, by rw [hU]; exact ha1, va_K.moved hW9.alike (hK.sub [] rfl)⟩⟩ rfl rfl hl.1 rfl (lv_room (Nat.le_of_ble_eq_true rfl)) dX2_build_43 ⟨Nat.le_of_ble_eq_true rfl, Nat.le_of_ble_eq_true rfl⟩) ?_
          refine lv_iconst (v := 5) hx hb dX2_build_46 (by decide) ?_
          refine lv_icmp_lt (tgt := 60) hx hb dX2_build_47 (by decide) (fun c13 => ?_) (fun c13 => ?_)
          · have hF := tc_it hF c13
            refine lv_aload_n hx hb dX2_build_60 rfl (lv_at hl 0 rfl) ?_
            refine tc_get (v := .ref (E 3)) hx hb hts hinX2 hown hK (hW.o) (C := RX2) (T := TX2) (N := 4) rfl 2 (by decide) (hts (.fieldLink RX2 22 "TreadCranes" "cranes" "Ljava/util/ArrayList;") (List.mem_of_getElem? (i := 5) rfl)) (fun _ h9 => h9) rfl dX2_build_61 ?_
            refine tc_newC (ci := 2) (fs := [.int 0, .int 0, .int 0, .int 0, .int 0, .int 0, .int 0, .null]) hx hb hts hinX1 tyX1 tyX1_ok hown (hts (.classLink RX2 81 RX1) (List.mem_of_getElem? (i := 6) rfl)) (hts (.instantiable RX1 8) (List.mem_of_getElem? (i := 7) rfl)) (hts (.initialized RX1) (List.mem_of_getElem? (i := 8) rfl)) hK hS hA rfl (fun j hj => by rcases (show j = 0 ∨ j = 1 ∨ j = 2 ∨ j = 3 ∨ j = 4 ∨ j = 5 ∨ j = 6 ∨ j = 7 by omega) with rfl | rfl | rfl | rfl | rfl | rfl | rfl | rfl <;> rfl) (Nat.le_of_ble_eq_true rfl) (Nat.le_of_ble_eq_true rfl) dX2_build_64 (fun q14 H hq9 hA_q14 e_q14 z1 o1 hS => ?_)
            have hn_q14 := hW.ne hq9
            have hW := hW.grown o1
            refine lv_dup hx hb dX2_build_67 rfl ?_
            refine lv_iload_n hx hb dX2_build_68 rfl (lv_at hl 1 rfl) ?_
            refine lv_iload_n hx hb dX2_build_69 rfl (lv_at hl 2 rfl) ?_
            refine lv_iload_n hx hb dX2_build_70 rfl (lv_at hl 3 rfl) ?_
            refine lv_iload hx hb dX2_build_71 (lv_at hl 4 rfl) ?_
            refine tc_cwv (va_runI (As := [.int a1, .int a2, .int a3, .int a4]) (rest := [.ref q14, .ref (E 3)]) ⟨hx, hb, hml, hown, hts⟩ (mt_X1_init l D q14 a1 a2 a3 a4) (cwI 4 hts gX2_build_X1_init rfl rfl rfl (hts (.initialized RX1) (List.mem_of_getElem? (i := 8) rfl)) (hts (.methodLink RX2 83 yX1_init) (List.mem_of_getElem? (i := 30) rfl)) (hts (.instanceMethod yX1_init) (List.mem_of_getElem? (i := 31) rfl)) rfl (by decide +kernel) ⟨Nat.le_of_ble_eq_true rfl, Nat.le_of_ble_eq_true rfl⟩) ⟨fun a U g mk q9 => ⟨q9.1, q9.2.1, va_K.moved (Vm.Alike.refl U.vm) q9.2.2⟩, fun U hU hW9 => ⟨rfl, by rw [hU]; exact e_q14, va_K.moved hW9.alike (hK.sub (tys' := []) [] rfl)⟩⟩ rfl rfl hl.1 rfl (lv_room (Nat.le_of_ble_eq_true rfl)) dX2_build_73 ⟨Nat.le_of_ble_eq_true rfl, Nat.le_of_ble_eq_true rfl⟩) hS (fun _ _ h => by rw [h]; exact hA_q14) (fun _ h => by rw [h]; exact hA_q14) (fun H locs e_q14 z1 o1 hS => ?_)
            have hW := hW.kept2 (fun j9 hj9 => o1 _ (hW.lt hj9) (hn_q14 j9 hj9))
            obtain ⟨g15, hF⟩ := tc_ob hF
            obtain ⟨mo, mi, cap, fl, ha1, ha2, ha3, ha4, ha5, ha6, ha7⟩ := tc_LWofC hKX hS hW
            have hAny := tc_AnyO hKX.1.1 e_q14 rfl hKX.2.2.2.2.2.2.2.2.2.2.2.2.2.2.2.2
            refine tc_cw (va_runV (As := [.ref q14]) (rest := []) ⟨hx, hb, hml, hown, hts⟩ (mt_ladd l D cO e0 mi _ (E 3) mo (E 5) (tc_nc x) cap fl q14 (by omega) ha1 ha2 (fun z9 => hn_q14 3 (tc_lv.f (by decide)) z9.symm) (tc_q5 hW hA_q14 hn_q14)) (cwV 1 hts gX2_build_Jx4a65c_add_9ea2d rfl rfl rfl (by decide +kernel) ⟨Nat.le_of_ble_eq_true rfl, Nat.le_of_ble_eq_true rfl⟩) ⟨fun a U g mk q9 => ⟨q9.1, q9.2.1.moved rfl (Vm.Alike.refl U.vm), tc_AnyM (Vm.Alike.refl U.vm) q9.2.2 rfl⟩, tc_rcv ha6 hK rfl, fun U hU hW9 => ⟨rfl, ha7 U hU hW9, tc_AnyM hW9.alike hAny (by rw [hU])⟩⟩ rfl rfl hl.1 rfl (lv_room (Nat.le_of_ble_eq_true rfl)) dX2_build_76 ⟨Nat.le_of_ble_eq_true rfl, Nat.le_of_ble_eq_true rfl⟩) hS (fun z9 _ h9 => ha5 z9 h9) (fun z9 h9 => ha5 z9 h9) (fun H locs hR z1 o1 hS9 => ?_)
            obtain ⟨d9, c9, f9, r1, r2, r3, r4, r5, r6, r7, r8⟩ := hR
            obtain ⟨E, hE0, hEq, hW⟩ := tc_addedC hW hwf g15 (fun z9 h9 => hA z9 (Nat.le_trans hS.1 h9)) hA_q14 hn_q14 e_q14 (tc_q5 hW hA_q14 hn_q14) ha4 ha3 r1 r2 r3 r4 r5 r6 r7 r8 o1
            have hS := hS9
            obtain ⟨b16, eb16⟩ : ∃ z : Nat, z = tc_nc x := ⟨_, rfl⟩
            have hF := tc_lt hF eb16
            rw [← eb16] at hEq
            have hl : lv_has ls 5 [(0, .ref (E 0)), (1, .int a1), (2, .int a2), (3, .int a3), (4, .int a4)] := by first | (rw [hE0, hEq]; exact hl) | (rw [hE0]; exact hl)
            obtain ⟨x17, ex17⟩ : ∃ z : tc_X, z = tc_nC x a1 a2 a3 a4 := ⟨_, rfl⟩
            have hF := tc_lt hF ex17
            have hW : tc_WC D cU cO e0 A E x17 H := by rw [ex17]; exact hW
            have g18 : b16 < tc_nc x17 := by rw [ex17, eb16]; exact Nat.lt_succ_self _
            refine lv_pop hx hb dX2_build_79 rfl ?_
            refine lv_aload_n hx hb dX2_build_80 rfl (lv_at hl 0 rfl) ?_
            refine tc_get (v := .ref (E 3)) hx hb hts hinX2 hown hK (hW.o) (C := RX2) (T := TX2) (N := 4) rfl 2 (by decide) (hts (.fieldLink RX2 22 "TreadCranes" "cranes" "Ljava/util/ArrayList;") (List.mem_of_getElem? (i := 5) rfl)) (fun _ h9 => h9) rfl dX2_build_81 ?_
            obtain ⟨mo, ha1, -⟩ := hW.2.2.2.1
            refine tc_cr (W.runV (As := []) (rest := []) ⟨hx, hb, hml, hown, hts⟩ (mt_lsize l D (E 3) mo (E 5) (nI (tc_nc x17))) (cwV 0 hts gX2_build_Jx4a65c_size_8abf5 rfl rfl rfl (by decide +kernel) ⟨Nat.le_of_ble_eq_true rfl, Nat.le_of_ble_eq_true rfl⟩) ⟨fun a U g mk q => ⟨q.1, q.2.1, va_K.moved (Vm.Alike.refl U.vm) q.2.2⟩, tc_rcv ha1 hK rfl, fun U hU hW9 => ⟨rfl, by rw [hU]; exact ha1, va_K.moved hW9.alike (hK.sub [] rfl)⟩⟩ rfl rfl hl.1 rfl (lv_room (Nat.le_of_ble_eq_true rfl)) dX2_build_84 ⟨Nat.le_of_ble_eq_true rfl, Nat.le_of_ble_eq_true rfl⟩) ?_
            refine lv_iconst (v := 1) hx hb dX2_build_87 (by decide) ?_
            refine lv_isub hx hb dX2_build_88 ?_
            obtain ⟨h91, h92, h93⟩ := tc_pr3 (Option.some.inj hF)
            refine W.widen (k := 4) (n := 80) (Nat.le_of_ble_eq_true rfl) (Nat.le_of_ble_eq_true rfl) ?_
            refine vx_ret ?_
            exact W.iret hx hb hr (fun t ht hW9 => ⟨⟨h91.symm, by rw [← h92], by rw [← h93, ht]; exact ⟨E, hE0, hW⟩⟩, tc_F hS ht⟩) hS.2.2 dX2_build_89
          · have hF := tc_if hF c13
            obtain ⟨h91, h92, h93⟩ := tc_pr3 (Option.some.inj hF)
            obtain ⟨sa, hsa⟩ := hKX.2.2.2.2.2.1 _ (List.mem_of_getElem? (l := tc_tx) (i := 3) rfl)
            exact vx_throwS hx hb hst (names := ["java/lang/RuntimeException", "java/lang/Exception"]) hown tc_fit.2.2.1 tc_fit.2.2.2 (hts (.classLink RX2 40 "java/lang/IllegalStateException") (List.mem_of_getElem? (i := 3) rfl)) (hts (.initialized "java/lang/IllegalStateException") (List.mem_of_getElem? (i := 4) rfl)) hsa (tc_hat (fun w9 h9 => hts w9 (List.mem_cons_of_mem _ (List.mem_append_left _ (List.mem_append_right _ h9)))) tc_n3 hKX.2.2.2.2.2.2.1 hKX.2.2.2.2.2.2.2.2.2.1) tc_o3 hKX.2.2.1 hKX.2.2.2.1 hS (by rw [hml]; exact hl.1) dX2_build_50 dX2_build_53 dX2_build_54 dX2_build_56 dX2_build_59 (fun z9 h9 => (hno z9 h9).elim) (by decide) (Nat.le_of_ble_eq_true rfl) (Nat.le_of_ble_eq_true rfl) (Nat.le_of_ble_eq_true rfl) hlocks (h91 ▸ tc_xx (k := 3) (by decide) hS hW) hS.2.2 (Nat.le_of_ble_eq_true rfl) (Nat.le_of_ble_eq_true rfl)
      · have hF := tc_it hF c9
        obtain ⟨h91, h92, h93⟩ := tc_pr3 (Option.some.inj hF)
        obtain ⟨sa, hsa⟩ := hKX.2.2.2.2.2.1 _ (List.mem_of_getElem? (l := tc_tx) (i := 2) rfl)
        exact vx_throwS hx hb hst (names := ["java/lang/RuntimeException", "java/lang/Exception"]) hown tc_fit.2.1 tc_fit.2.2.2 (hts (.classLink RX2 71 "java/lang/IllegalArgumentException") (List.mem_of_getElem? (i := 1) rfl)) (hts (.initialized "java/lang/IllegalArgumentException") (List.mem_of_getElem? (i := 2) rfl)) hsa (tc_hat (fun w9 h9 => hts w9 (List.mem_cons_of_mem _ (List.mem_append_left _ (List.mem_append_left _ (List.mem_append_right _ h9))))) tc_n2 hKX.2.2.2.2.2.2.1 hKX.2.2.2.2.2.2.2.2.1) tc_o2 hKX.2.2.1 hKX.2.2.2.1 hS (by rw [hml]; exact hl.1) dX2_build_24 dX2_build_27 dX2_build_28 dX2_build_30 dX2_build_33 (fun z9 h9 => (hno z9 h9).elim) (by decide) (Nat.le_of_ble_eq_true rfl) (Nat.le_of_ble_eq_true rfl) (Nat.le_of_ble_eq_true rfl) hlocks (h91 ▸ tc_xx (k := 2) (by decide) hS hW) hS.2.2 (Nat.le_of_ble_eq_true rfl) (Nat.le_of_ble_eq_true rfl)
