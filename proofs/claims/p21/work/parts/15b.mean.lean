def lp_X2_mean_6 : Nat → tc_X → Int32 → Int32 → Int32 → Option (UInt64)
  | 0, _, _, _, _ => none
  | n_6 + 1, x, w1, w2, w3 => (if (nI (tc_nb x)) ≤ w3 then (if w2 = 0 then some FP.dconst0 else some (FP.ddiv (FP.i2d w1) (FP.i2d w2))) else (if ¬ w3 < 0 ∧ w3.toNatClampNeg < tc_nb x then tc_let w3.toNatClampNeg (fun b7 => (if (x.1 15 b7) = 0 then tc_let (w1 + (x.1 11 b7)) (fun v11 => tc_let (w2 + 1) (fun v12 => tc_let (w3 + 1) (fun v13 => lp_X2_mean_6 n_6 x v11 v12 v13))) else tc_let (w3 + 1) (fun v10 => lp_X2_mean_6 n_6 x w1 w2 v10))) else none))
def f_X2_mean (x : tc_X)  : Option (UInt64) := lp_X2_mean_6 100 x 0 0 0
set_option maxHeartbeats 4000000 in
set_option maxRecDepth 100000 in
theorem mt_X2_mean (l : Launch) (D : va_G) (cU cO cI : ClassId) (e0 : Nat) (A : Nat → Prop) (E : Nat → Nat) (x : tc_X) (r : UInt64) (hF : f_X2_mean x = some r) : MetD lw_cs l yX2_mean wsX2_mean ({ frames := 3, cells := 0, slots := 0, locals := 67 } : Room) (va_Pc [.ref (E 0)] (fun U => tc_WC D cU cO e0 A E x U.heap ∧ tc_KC D cU cO cI U)) (tc_QD r (fun _ => True) (fun _ => False)) 0 0 (fun _ => False) := by
  refine MetD.ofW (cc := cX2_mean) (maxL := 5) (ret := (some .double)) (by decide) rfl ?_
  intro p e s m args below meth c s₁ B hml hv hd0
  change W p l e _ s m _ below meth c s.heap [] 0 0 _ _
  obtain ⟨rfl, hW, hKC⟩ := hv
  have hx := B.exec
  have hb := B.bytes
  have hr := B.returns
  have hts := atoms_spec (ws := wsX2_mean) B.pre
  have hown : s.vm.findClass RX2 = some m.cls := findClass_of_methodNamed B.named
  have hlocks := B.notSynchronized
  have hK := hKC.1
  have hinX0 : ∀ w ∈ wsX00, w ∈ wsX2_mean := fun w9 h9 => List.mem_cons_of_mem _ (List.mem_append_left _ (List.mem_append_right _ h9))
  have hinX2 : ∀ w ∈ wsX20, w ∈ wsX2_mean := fun w9 h9 => List.mem_cons_of_mem _ (List.mem_append_left _ (List.mem_append_left _ (List.mem_append_right _ h9)))
  have hl := lv_entry ([.ref (E 0)]) (n := 5) (Nat.le_of_ble_eq_true rfl)
  rw [lg_entry_eq]
  generalize (lg_sl ([.ref (E 0)]) ++ List.replicate (5 - (lg_sl ([.ref (E 0)])).length) Slot.unset).toArray = ls at hl ⊢
  have hl : lv_has ls 5 [(0, .ref (E 0))] := hl
  refine lv_iconst (v := 0) hx hb dX2_mean_0 (by decide) ?_
  refine lv_istore_n (lv' := [(1, .int 0), (0, .ref (E 0))]) hx hb dX2_mean_1 rfl hl (by decide) rfl (fun ls hl => ?_)
  refine lv_iconst (v := 0) hx hb dX2_mean_2 (by decide) ?_
  refine lv_istore_n (lv' := [(2, .int 0), (1, .int 0), (0, .ref (E 0))]) hx hb dX2_mean_3 rfl hl (by decide) rfl (fun ls hl => ?_)
  refine lv_iconst (v := 0) hx hb dX2_mean_4 (by decide) ?_
  refine lv_istore_n (lv' := [(3, .int 0), (2, .int 0), (1, .int 0), (0, .ref (E 0))]) hx hb dX2_mean_5 rfl hl (by decide) rfl (fun ls hl => ?_)
  refine tc_lp3 (fun n w1 w2 w3 => lp_X2_mean_6 n x w1 w2 w3) (fun w1 w2 w3 => [(0, .ref (E 0)), (1, .int w1), (2, .int w2), (3, .int w3)]) 100 0 0 0 ?_ ?_ hF (lv_sub hl [3, 2, 1, 0] rfl)
  · intro n_6 w1 w2 w3 ih_6 hF ls hl
    have hF : lp_X2_mean_6 (n_6 + 1) x w1 w2 w3 = some r := hF
    rw [lp_X2_mean_6] at hF
    refine lv_iload_n hx hb dX2_mean_6 rfl (lv_at hl 3 rfl) ?_
    refine lv_aload_n hx hb dX2_mean_7 rfl (lv_at hl 0 rfl) ?_
    refine tc_get (v := .ref (E 2)) hx hb hts hinX2 hown hK (hW.o) (C := RX2) (T := TX2) (N := 4) rfl 1 (by decide) (hts (.fieldLink RX2 18 "TreadCranes" "barrels" "Ljava/util/ArrayList;") (List.mem_of_getElem? (i := 1) rfl)) (fun _ h9 => h9) rfl dX2_mean_8 ?_
    obtain ⟨mo, ha1, -⟩ := hW.2.2.1
    refine tc_cr (W.runV (As := []) (rest := [.int w3]) ⟨hx, hb, hml, hown, hts⟩ (mt_lsize l D (E 2) mo (E 4) (nI (tc_nb x))) (cwV 0 hts gX2_mean_Jx4a65c_size_8abf5 rfl rfl rfl (by decide +kernel) ⟨Nat.le_of_ble_eq_true rfl, Nat.le_of_ble_eq_true rfl⟩) ⟨fun a U g mk q => ⟨q.1, q.2.1, va_K.moved (Vm.Alike.refl U.vm) q.2.2⟩, tc_rcv ha1 hK rfl, fun U hU hW9 => ⟨rfl, by rw [hU]; exact ha1, va_K.moved hW9.alike (hK.sub [] rfl)⟩⟩ rfl rfl hl.1 rfl (lv_room (Nat.le_of_ble_eq_true rfl)) dX2_mean_11 ⟨Nat.le_of_ble_eq_true rfl, Nat.le_of_ble_eq_true rfl⟩) ?_
    refine lv_icmp_ge (tgt := 55) hx hb dX2_mean_14 (by decide) (fun c4 => ?_) (fun c4 => ?_)
    · have hF := tc_it hF c4
      refine lv_iload_n hx hb dX2_mean_55 rfl (lv_at hl 2 rfl) ?_
      refine lv_if_ne (tgt := 63) hx hb dX2_mean_56 (by decide) (fun c5 => ?_) (fun c5 => ?_)
      · have hF := tc_if hF c5
        refine lv_iload_n hx hb dX2_mean_63 rfl (lv_at hl 1 rfl) ?_
        refine lv_i2d hx hb dX2_mean_64 ?_
        refine lv_iload_n hx hb dX2_mean_65 rfl (lv_at hl 2 rfl) ?_
        refine lv_i2d hx hb dX2_mean_66 ?_
        refine lv_ddiv_any (s := s) (d0 := s.drawn) hd0 lw_bits hx hb dX2_mean_67 (fun r9 d1 hal hd1 => ?_)
        have h91 := Option.some.inj hF
        refine W.endD hd1 ?_
        exact W.dret hx hb hr (fun t ht hW9 => ⟨⟨_, rfl, by rw [← h91]; exact hal, trivial⟩, (va_S.rf (A := fun _ => False) (H0 := s.heap)).F ht⟩) (fun q h => absurd h List.not_mem_nil) dX2_mean_68
      · have hF := tc_it hF c5
        refine lv_dconst0 hx hb dX2_mean_59 ?_
        refine lv_goto (tgt := 68) hx hb dX2_mean_60 (by decide) ?_
        have h91 := Option.some.inj hF
        refine W.endD (s := s) (d0 := s.drawn) hd0 ?_
        exact W.dret hx hb hr (fun t ht hW9 => ⟨⟨_, rfl, by rw [← h91]; decide +kernel, trivial⟩, (va_S.rf (A := fun _ => False) (H0 := s.heap)).F ht⟩) (fun q h => absurd h List.not_mem_nil) dX2_mean_68
    · have hF := tc_if hF c4
      refine lv_aload_n hx hb dX2_mean_17 rfl (lv_at hl 0 rfl) ?_
      refine tc_get (v := .ref (E 2)) hx hb hts hinX2 hown hK (hW.o) (C := RX2) (T := TX2) (N := 4) rfl 1 (by decide) (hts (.fieldLink RX2 18 "TreadCranes" "barrels" "Ljava/util/ArrayList;") (List.mem_of_getElem? (i := 1) rfl)) (fun _ h9 => h9) rfl dX2_mean_18 ?_
      refine lv_iload_n hx hb dX2_mean_21 rfl (lv_at hl 3 rfl) ?_
      obtain ⟨g6, hF⟩ := tc_ob hF
      obtain ⟨b7, eb7⟩ : ∃ z : Nat, z = w3.toNatClampNeg := ⟨_, rfl⟩
      have hF := tc_lt hF eb7
      have g8 : b7 < tc_nb x := by rw [eb7]; exact g6.2
      obtain ⟨mo, cap, fl, ha1, ha2, ha3, ha4, ha5⟩ := tc_Li.full hW.2.2.1 (Nat.lt_of_le_of_lt (Nat.zero_le _) g6.2)
      refine tc_cr (W.runV (As := [.int w3]) (rest := []) ⟨hx, hb, hml, hown, hts⟩ (mt_lget l D cO (E 2) mo (E 4) (tc_nb x) cap fl w3 (E (6 + b7)) g6 ha3 ha4 (by rw [eb7]; exact ha5 _ g6.2)) (cwV 1 hts gX2_mean_Jx4a65c_get_915e3 rfl rfl rfl (by decide +kernel) ⟨Nat.le_of_ble_eq_true rfl, Nat.le_of_ble_eq_true rfl⟩) ⟨fun a U g mk q => ⟨q.1, q.2.1, q.2.2.1, va_K.moved (Vm.Alike.refl U.vm) q.2.2.2⟩, tc_rcv ha1 hK rfl, fun U hU hW9 => ⟨rfl, by rw [hU]; exact ha1, by rw [hU]; exact ha2, va_K.moved hW9.alike (hK.sub [1] rfl)⟩⟩ rfl rfl hl.1 rfl (lv_room (Nat.le_of_ble_eq_true rfl)) dX2_mean_22 ⟨Nat.le_of_ble_eq_true rfl, Nat.le_of_ble_eq_true rfl⟩) ?_
      refine va_castS hx hb hown (hts (.classLink RX2 9 "TreadCranes$Barrel") (List.mem_of_getElem? (i := 2) rfl)) ((hK.1 1 _ rfl).2) (tc_rcv (hW.b g8) hK rfl) dX2_mean_25 ?_
      refine lv_astore (lv' := [(4, .ref (E (6 + b7))), (0, .ref (E 0)), (1, .int w1), (2, .int w2), (3, .int w3)]) hx hb dX2_mean_28 hl (by decide) rfl (fun ls hl => ?_)
      refine lv_aload hx hb dX2_mean_30 (lv_at hl 0 rfl) ?_
      refine tc_get (v := .int (x.1 15 b7)) hx hb hts hinX0 hown hK (hW.b g8) (C := RX0) (T := TX0) (N := 7) rfl 6 (by decide) (hts (.fieldLink RX2 196 "TreadCranes$Barrel" "broken" "Z") (List.mem_of_getElem? (i := 3) rfl)) (fun _ h9 => h9) rfl dX2_mean_32 ?_
      refine lv_if_ne (tgt := 49) hx hb dX2_mean_35 (by decide) (fun c9 => ?_) (fun c9 => ?_)
      · have hF := tc_if hF c9
        obtain ⟨v10, ev10⟩ : ∃ z : Int32, z = w3 + 1 := ⟨_, rfl⟩
        have hF := tc_lt hF ev10
        refine lv_iinc (v := v10) (lv' := [(3, .int v10), (4, .ref (E (6 + b7))), (0, .ref (E 0)), (1, .int w1), (2, .int w2)]) hx hb dX2_mean_49 hl (k := 4) rfl (by rw [ev10]; rfl) (by decide) rfl (fun ls hl => ?_)
        refine lv_goto (tgt := 6) hx hb dX2_mean_52 (by decide) ?_
        exact ih_6 w1 w2 v10 hF _ (lv_sub hl [2, 3, 4, 0] rfl)
      · have hF := tc_it hF c9
        refine lv_iload_n hx hb dX2_mean_38 rfl (lv_at hl 2 rfl) ?_
        refine lv_aload hx hb dX2_mean_39 (lv_at hl 0 rfl) ?_
        refine tc_get (v := .int (x.1 11 b7)) hx hb hts hinX0 hown hK (hW.b g8) (C := RX0) (T := TX0) (N := 7) rfl 1 (by decide) (hts (.fieldLink RX2 134 "TreadCranes$Barrel" "weight" "I") (List.mem_of_getElem? (i := 4) rfl)) (fun _ h9 => h9) rfl dX2_mean_41 ?_
        refine lv_iadd hx hb dX2_mean_44 ?_
        refine lv_topi (fun v11 ev11 => ?_)
        have hF := tc_lt hF ev11
        refine lv_istore_n (lv' := [(1, .int v11), (4, .ref (E (6 + b7))), (0, .ref (E 0)), (2, .int w2), (3, .int w3)]) hx hb dX2_mean_45 rfl hl (by decide) rfl (fun ls hl => ?_)
        obtain ⟨v12, ev12⟩ : ∃ z : Int32, z = w2 + 1 := ⟨_, rfl⟩
        have hF := tc_lt hF ev12
        refine lv_iinc (v := v12) (lv' := [(2, .int v12), (1, .int v11), (4, .ref (E (6 + b7))), (0, .ref (E 0)), (3, .int w3)]) hx hb dX2_mean_46 hl (k := 3) rfl (by rw [ev12]; rfl) (by decide) rfl (fun ls hl => ?_)
        obtain ⟨v13, ev13⟩ : ∃ z : Int32, z = w3 + 1 := ⟨_, rfl⟩
        have hF := tc_lt hF ev13
        refine lv_iinc (v := v13) (lv' := [(3, .int v13), (2, .int v12), (1, .int v11), (4, .ref (E (6 + b7))), (0, .ref (E 0))]) hx hb dX2_mean_49 hl (k := 4) rfl (by rw [ev13]; rfl) (by decide) rfl (fun ls hl => ?_)
        refine lv_goto (tgt := 6) hx hb dX2_mean_52 (by decide) ?_
        exact ih_6 v11 v12 v13 hF _ (lv_sub hl [4, 2, 1, 0] rfl)
  · intro w1 w2 w3 h9
    have h9 : lp_X2_mean_6 0 x w1 w2 w3 = some r := h9
    rw [lp_X2_mean_6] at h9
    cases h9
