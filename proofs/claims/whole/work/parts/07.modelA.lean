def f_X3_isCrane (x : tc_Y) (a1 : Int32) : Option (Int32) := Option.bind (f_X3_isIn a1 0 ((x 6 0) - 1)) (fun r1 => (if r1 = 0 ∨ r1 = 1 then some r1 else none))
set_option maxHeartbeats 4000000 in
set_option maxRecDepth 100000 in
theorem mt_X3_isCrane (l : Launch) (D : va_G) (cU cO cI : ClassId) (A : Nat → Prop) (E : Nat → Nat) (x : tc_Y) (a1 : Int32) (r : Int32) (hF : f_X3_isCrane x a1 = some r) : Met l yX3_isCrane wsX3_isCrane ({ frames := 1, cells := 0, slots := 0, locals := 22 } : Room) (va_Pc [.ref (E 0), .int a1] (fun U => tc_WM D cI A E x U.heap ∧ va_K D vwCl (tc_ty cU cO cI) U)) (k2_QcV (.int r)) 0 0 (fun _ => False) := by
  refine Met.ofW (cc := cX3_isCrane) (maxL := 2) (ret := (some .boolean)) (by decide) rfl ?_
  intro p e s m args below meth c s₁ B hml hv
  obtain ⟨rfl, hW, hK⟩ := hv
  have hx := B.exec
  have hb := B.bytes
  have hr := B.returns
  have hts := atoms_spec (ws := wsX3_isCrane) B.pre
  have hown : s.vm.findClass RX3 = some m.cls := findClass_of_methodNamed B.named
  have hlocks := B.notSynchronized
  have hinX3 : ∀ w ∈ wsX30, w ∈ wsX3_isCrane := fun w9 h9 => List.mem_cons_of_mem _ (List.mem_append_right _ h9)
  have hl := lv_entry ([.ref (E 0), .int a1]) (n := 2) (Nat.le_of_ble_eq_true rfl)
  rw [lg_entry_eq]
  generalize (lg_sl ([.ref (E 0), .int a1]) ++ List.replicate (2 - (lg_sl ([.ref (E 0), .int a1])).length) Slot.unset).toArray = ls at hl ⊢
  have hl : lv_has ls 2 [(0, .ref (E 0)), (1, .int a1)] := hl
  refine lv_iload_n hx hb dX3_isCrane_0 rfl (lv_at hl 1 rfl) ?_
  refine lv_iconst (v := 0) hx hb dX3_isCrane_1 (by decide) ?_
  refine lv_aload_n hx hb dX3_isCrane_2 rfl (lv_at hl 0 rfl) ?_
  refine tc_get (v := .int (x 6 0)) hx hb hts hinX3 hown hK (hW.1) (C := RX3) (T := TX3) (N := 15) rfl 6 (by decide) (hts (.fieldLink RX3 51 "TreadCranesModel" "cranes" "I") (List.mem_of_getElem? (i := 1) rfl)) (fun _ h9 => h9) rfl dX3_isCrane_3 ?_
  refine lv_iconst (v := 1) hx hb dX3_isCrane_6 (by decide) ?_
  refine lv_isub hx hb dX3_isCrane_7 ?_
  obtain ⟨r1, h2, hF⟩ := tc_bi hF
  refine tc_cr (W.runS (As := [.int a1, .int 0, .int ((x 6 0) - 1)]) (rest := []) ⟨hx, hb, hml, hown, hts⟩ (mt_X3_isIn l   a1 0 ((x 6 0) - 1) r1 h2) (va_cwS 3 hts gX3_isCrane_X3_isIn rfl rfl rfl (by decide +kernel) ⟨Nat.le_of_ble_eq_true rfl, Nat.le_of_ble_eq_true rfl⟩) ⟨fun a U g mk q => q, fun U hU hW9 => ⟨rfl, trivial⟩⟩ rfl rfl hl.1 rfl (lv_room (Nat.le_of_ble_eq_true rfl)) dX3_isCrane_8 ⟨Nat.le_of_ble_eq_true rfl, Nat.le_of_ble_eq_true rfl⟩) ?_
  obtain ⟨g3, hF⟩ := tc_ob hF
  have h91 := Option.some.inj hF
  exact W.zret hx hb hr (tc_nz g3) (fun t ht hW9 => ⟨by rw [← h91], ht⟩) (fun q h => absurd h List.not_mem_nil) dX3_isCrane_11

def f_X3_thrown (x : tc_Y)  : Option (Int32) := some (x 0 0)
set_option maxHeartbeats 4000000 in
set_option maxRecDepth 100000 in
theorem mt_X3_thrown (l : Launch) (D : va_G) (cU cO cI : ClassId) (A : Nat → Prop) (E : Nat → Nat) (x : tc_Y) (r : Int32) (hF : f_X3_thrown x = some r) : Met l yX3_thrown wsX3_thrown ({ frames := 0, cells := 0, slots := 0, locals := 0 } : Room) (va_Pc [.ref (E 0)] (fun U => tc_WM D cI A E x U.heap ∧ va_K D vwCl (tc_ty cU cO cI) U)) (k2_QcV (.int r)) 0 0 (fun _ => False) := by
  refine Met.ofW (cc := cX3_thrown) (maxL := 1) (ret := (some .int)) (by decide) rfl ?_
  intro p e s m args below meth c s₁ B hml hv
  obtain ⟨rfl, hW, hK⟩ := hv
  have hx := B.exec
  have hb := B.bytes
  have hr := B.returns
  have hts := atoms_spec (ws := wsX3_thrown) B.pre
  have hown : s.vm.findClass RX3 = some m.cls := findClass_of_methodNamed B.named
  have hlocks := B.notSynchronized
  have hinX3 : ∀ w ∈ wsX30, w ∈ wsX3_thrown := fun w9 h9 => List.mem_cons_of_mem _ (List.mem_append_right _ h9)
  have hl := lv_entry ([.ref (E 0)]) (n := 1) (Nat.le_of_ble_eq_true rfl)
  rw [lg_entry_eq]
  generalize (lg_sl ([.ref (E 0)]) ++ List.replicate (1 - (lg_sl ([.ref (E 0)])).length) Slot.unset).toArray = ls at hl ⊢
  have hl : lv_has ls 1 [(0, .ref (E 0))] := hl
  refine lv_aload_n hx hb dX3_thrown_0 rfl (lv_at hl 0 rfl) ?_
  refine tc_get (v := .int (x 0 0)) hx hb hts hinX3 hown hK (hW.1) (C := RX3) (T := TX3) (N := 15) rfl 0 (by decide) (hts (.fieldLink RX3 43 "TreadCranesModel" "thrown" "I") (List.mem_of_getElem? (i := 1) rfl)) (fun _ h9 => h9) rfl dX3_thrown_1 ?_
  have h91 := Option.some.inj hF
  exact W.iret hx hb hr (fun t ht hW9 => ⟨by rw [← h91], ht⟩) (fun q h => absurd h List.not_mem_nil) dX3_thrown_4

def lp_X3_high_4 : Nat → tc_Y → Int32 → Int32 → Int32 → Option (Int32)
  | 0, _, _, _, _ => none
  | n_4 + 1, x, a1, w1, w2 => (if (x 2 0) ≤ w2 then some w1 else (if ¬ w2 < 0 ∧ w2.toNatClampNeg < 40 then (if (x 4 w2.toNatClampNeg) = a1 then tc_let (w1 + 1) (fun v8 => tc_let (w2 + 1) (fun v9 => lp_X3_high_4 n_4 x a1 v8 v9)) else tc_let (w1 + 0) (fun v6 => tc_let (w2 + 1) (fun v7 => lp_X3_high_4 n_4 x a1 v6 v7))) else none))
def f_X3_high (x : tc_Y) (a1 : Int32) : Option (Int32) := lp_X3_high_4 100 x a1 0 0
set_option maxHeartbeats 4000000 in
set_option maxRecDepth 100000 in
theorem mt_X3_high (l : Launch) (D : va_G) (cU cO cI : ClassId) (A : Nat → Prop) (E : Nat → Nat) (x : tc_Y) (a1 : Int32) (r : Int32) (hF : f_X3_high x a1 = some r) : Met l yX3_high wsX3_high ({ frames := 0, cells := 0, slots := 0, locals := 0 } : Room) (va_Pc [.ref (E 0), .int a1] (fun U => tc_WM D cI A E x U.heap ∧ va_K D vwCl (tc_ty cU cO cI) U)) (k2_QcV (.int r)) 0 0 (fun _ => False) := by
  refine Met.ofW (cc := cX3_high) (maxL := 4) (ret := (some .int)) (by decide) rfl ?_
  intro p e s m args below meth c s₁ B hml hv
  obtain ⟨rfl, hW, hK⟩ := hv
  have hx := B.exec
  have hb := B.bytes
  have hr := B.returns
  have hts := atoms_spec (ws := wsX3_high) B.pre
  have hown : s.vm.findClass RX3 = some m.cls := findClass_of_methodNamed B.named
  have hlocks := B.notSynchronized
  have hinX3 : ∀ w ∈ wsX30, w ∈ wsX3_high := fun w9 h9 => List.mem_cons_of_mem _ (List.mem_append_right _ h9)
  have hl := lv_entry ([.ref (E 0), .int a1]) (n := 4) (Nat.le_of_ble_eq_true rfl)
  rw [lg_entry_eq]
  generalize (lg_sl ([.ref (E 0), .int a1]) ++ List.replicate (4 - (lg_sl ([.ref (E 0), .int a1])).length) Slot.unset).toArray = ls at hl ⊢
  have hl : lv_has ls 4 [(0, .ref (E 0)), (1, .int a1)] := hl
  refine lv_iconst (v := 0) hx hb dX3_high_0 (by decide) ?_
  refine lv_istore_n (lv' := [(2, .int 0), (0, .ref (E 0)), (1, .int a1)]) hx hb dX3_high_1 rfl hl (by decide) rfl (fun ls hl => ?_)
  refine lv_iconst (v := 0) hx hb dX3_high_2 (by decide) ?_
  refine lv_istore_n (lv' := [(3, .int 0), (2, .int 0), (0, .ref (E 0)), (1, .int a1)]) hx hb dX3_high_3 rfl hl (by decide) rfl (fun ls hl => ?_)
  refine tc_lp2 (fun n w1 w2 => lp_X3_high_4 n x a1 w1 w2) (fun w1 w2 => [(0, .ref (E 0)), (1, .int a1), (2, .int w1), (3, .int w2)]) 100 0 0 ?_ ?_ hF (lv_sub hl [2, 3, 1, 0] rfl)
  · intro n_4 w1 w2 ih_4 hF ls hl
    have hF : lp_X3_high_4 (n_4 + 1) x a1 w1 w2 = some r := hF
    rw [lp_X3_high_4] at hF
    refine lv_iload_n hx hb dX3_high_4 rfl (lv_at hl 3 rfl) ?_
    refine lv_aload_n hx hb dX3_high_5 rfl (lv_at hl 0 rfl) ?_
    refine tc_get (v := .int (x 2 0)) hx hb hts hinX3 hown hK (hW.1) (C := RX3) (T := TX3) (N := 15) rfl 2 (by decide) (hts (.fieldLink RX3 54 "TreadCranesModel" "barrels" "I") (List.mem_of_getElem? (i := 1) rfl)) (fun _ h9 => h9) rfl dX3_high_6 ?_
    refine lv_icmp_ge (tgt := 36) hx hb dX3_high_9 (by decide) (fun c3 => ?_) (fun c3 => ?_)
    · have hF := tc_it hF c3
      refine lv_iload_n hx hb dX3_high_36 rfl (lv_at hl 2 rfl) ?_
      have h91 := Option.some.inj hF
      exact W.iret hx hb hr (fun t ht hW9 => ⟨by rw [← h91], ht⟩) (fun q h => absurd h List.not_mem_nil) dX3_high_37
    · have hF := tc_if hF c3
      refine lv_iload_n hx hb dX3_high_12 rfl (lv_at hl 2 rfl) ?_
      refine lv_aload_n hx hb dX3_high_13 rfl (lv_at hl 0 rfl) ?_
      refine tc_get (v := .ref (E 4)) hx hb hts hinX3 hown hK (hW.1) (C := RX3) (T := TX3) (N := 15) rfl 4 (by decide) (hts (.fieldLink RX3 13 "TreadCranesModel" "at" "[I") (List.mem_of_getElem? (i := 2) rfl)) (fun _ h9 => h9) rfl dX3_high_14 ?_
      refine lv_iload_n hx hb dX3_high_17 rfl (lv_at hl 3 rfl) ?_
      obtain ⟨g4, hF⟩ := tc_ob hF
      refine tc_iald (f := x 4) hx hb hK (hW.lo ⟨by decide, by decide⟩) 2 rfl g4 dX3_high_18 ?_
      refine lv_iload_n hx hb dX3_high_19 rfl (lv_at hl 1 rfl) ?_
      refine lv_icmp_ne (tgt := 27) hx hb dX3_high_20 (by decide) (fun c5 => ?_) (fun c5 => ?_)
      · have hF := tc_if hF c5
        refine lv_iconst (v := 0) hx hb dX3_high_27 (by decide) ?_
        refine lv_iadd hx hb dX3_high_28 ?_
        refine lv_topi (fun v6 ev6 => ?_)
        have hF := tc_lt hF ev6
        refine lv_istore_n (lv' := [(2, .int v6), (0, .ref (E 0)), (1, .int a1), (3, .int w2)]) hx hb dX3_high_29 rfl hl (by decide) rfl (fun ls hl => ?_)
        obtain ⟨v7, ev7⟩ : ∃ z : Int32, z = w2 + 1 := ⟨_, rfl⟩
        have hF := tc_lt hF ev7
        refine lv_iinc (v := v7) (lv' := [(3, .int v7), (2, .int v6), (0, .ref (E 0)), (1, .int a1)]) hx hb dX3_high_30 hl (k := 3) rfl (by rw [ev7]; rfl) (by decide) rfl (fun ls hl => ?_)
        refine lv_goto (tgt := 4) hx hb dX3_high_33 (by decide) ?_
        exact ih_4 v6 v7 hF _ (lv_sub hl [2, 3, 1, 0] rfl)
      · have hF := tc_it hF c5
        refine lv_iconst (v := 1) hx hb dX3_high_23 (by decide) ?_
        refine lv_goto (tgt := 28) hx hb dX3_high_24 (by decide) ?_
        refine lv_iadd hx hb dX3_high_28 ?_
        refine lv_topi (fun v8 ev8 => ?_)
        have hF := tc_lt hF ev8
        refine lv_istore_n (lv' := [(2, .int v8), (0, .ref (E 0)), (1, .int a1), (3, .int w2)]) hx hb dX3_high_29 rfl hl (by decide) rfl (fun ls hl => ?_)
        obtain ⟨v9, ev9⟩ : ∃ z : Int32, z = w2 + 1 := ⟨_, rfl⟩
        have hF := tc_lt hF ev9
        refine lv_iinc (v := v9) (lv' := [(3, .int v9), (2, .int v8), (0, .ref (E 0)), (1, .int a1)]) hx hb dX3_high_30 hl (k := 3) rfl (by rw [ev9]; rfl) (by decide) rfl (fun ls hl => ?_)
        refine lv_goto (tgt := 4) hx hb dX3_high_33 (by decide) ?_
        exact ih_4 v8 v9 hF _ (lv_sub hl [2, 3, 1, 0] rfl)
  · intro w1 w2 h9
    have h9 : lp_X3_high_4 0 x a1 w1 w2 = some r := h9
    rw [lp_X3_high_4] at h9
    cases h9

def lp_X3_top_2 : Nat → tc_Y → Int32 → Int32 → Option (Int32)
  | 0, _, _, _ => none
  | n_2 + 1, x, a1, w1 => (if (x 2 0) ≤ w1 then some (-1) else (if ¬ w1 < 0 ∧ w1.toNatClampNeg < 40 then (if (x 4 w1.toNatClampNeg) = a1 then Option.bind (f_X3_high x a1) (fun r6 => (if (x 5 w1.toNatClampNeg) = (r6 - 1) then some w1 else tc_let (w1 + 1) (fun v9 => lp_X3_top_2 n_2 x a1 v9))) else tc_let (w1 + 1) (fun v5 => lp_X3_top_2 n_2 x a1 v5)) else none))
def f_X3_top (x : tc_Y) (a1 : Int32) : Option (Int32) := lp_X3_top_2 100 x a1 0
set_option maxHeartbeats 4000000 in
set_option maxRecDepth 100000 in
theorem mt_X3_top (l : Launch) (D : va_G) (cU cO cI : ClassId) (A : Nat → Prop) (E : Nat → Nat) (x : tc_Y) (a1 : Int32) (r : Int32) (hF : f_X3_top x a1 = some r) : Met l yX3_top wsX3_top ({ frames := 1, cells := 0, slots := 0, locals := 23 } : Room) (va_Pc [.ref (E 0), .int a1] (fun U => tc_WM D cI A E x U.heap ∧ va_K D vwCl (tc_ty cU cO cI) U)) (k2_QcV (.int r)) 0 0 (fun _ => False) := by
  refine Met.ofW (cc := cX3_top) (maxL := 3) (ret := (some .int)) (by decide) rfl ?_
  intro p e s m args below meth c s₁ B hml hv
  obtain ⟨rfl, hW, hK⟩ := hv
  have hx := B.exec
  have hb := B.bytes
  have hr := B.returns
  have hts := atoms_spec (ws := wsX3_top) B.pre
  have hown : s.vm.findClass RX3 = some m.cls := findClass_of_methodNamed B.named
  have hlocks := B.notSynchronized
  have hinX3 : ∀ w ∈ wsX30, w ∈ wsX3_top := fun w9 h9 => List.mem_cons_of_mem _ (List.mem_append_right _ h9)
  have hl := lv_entry ([.ref (E 0), .int a1]) (n := 3) (Nat.le_of_ble_eq_true rfl)
  rw [lg_entry_eq]
  generalize (lg_sl ([.ref (E 0), .int a1]) ++ List.replicate (3 - (lg_sl ([.ref (E 0), .int a1])).length) Slot.unset).toArray = ls at hl ⊢
  have hl : lv_has ls 3 [(0, .ref (E 0)), (1, .int a1)] := hl
  refine lv_iconst (v := 0) hx hb dX3_top_0 (by decide) ?_
  refine lv_istore_n (lv' := [(2, .int 0), (0, .ref (E 0)), (1, .int a1)]) hx hb dX3_top_1 rfl hl (by decide) rfl (fun ls hl => ?_)
  refine tc_lp1 (fun n w1 => lp_X3_top_2 n x a1 w1) (fun w1 => [(0, .ref (E 0)), (1, .int a1), (2, .int w1)]) 100 0 ?_ ?_ hF (lv_sub hl [1, 2, 0] rfl)
  · intro n_2 w1 ih_2 hF ls hl
    have hF : lp_X3_top_2 (n_2 + 1) x a1 w1 = some r := hF
    rw [lp_X3_top_2] at hF
    refine lv_iload_n hx hb dX3_top_2 rfl (lv_at hl 2 rfl) ?_
    refine lv_aload_n hx hb dX3_top_3 rfl (lv_at hl 0 rfl) ?_
    refine tc_get (v := .int (x 2 0)) hx hb hts hinX3 hown hK (hW.1) (C := RX3) (T := TX3) (N := 15) rfl 2 (by decide) (hts (.fieldLink RX3 54 "TreadCranesModel" "barrels" "I") (List.mem_of_getElem? (i := 1) rfl)) (fun _ h9 => h9) rfl dX3_top_4 ?_
    refine lv_icmp_ge (tgt := 44) hx hb dX3_top_7 (by decide) (fun c2 => ?_) (fun c2 => ?_)
    · have hF := tc_it hF c2
      refine lv_iconst (v := (-1)) hx hb dX3_top_44 (by decide) ?_
      have h91 := Option.some.inj hF
      exact W.iret hx hb hr (fun t ht hW9 => ⟨by rw [← h91], ht⟩) (fun q h => absurd h List.not_mem_nil) dX3_top_45
    · have hF := tc_if hF c2
      refine lv_aload_n hx hb dX3_top_10 rfl (lv_at hl 0 rfl) ?_
      refine tc_get (v := .ref (E 4)) hx hb hts hinX3 hown hK (hW.1) (C := RX3) (T := TX3) (N := 15) rfl 4 (by decide) (hts (.fieldLink RX3 13 "TreadCranesModel" "at" "[I") (List.mem_of_getElem? (i := 2) rfl)) (fun _ h9 => h9) rfl dX3_top_11 ?_
      refine lv_iload_n hx hb dX3_top_14 rfl (lv_at hl 2 rfl) ?_
      obtain ⟨g3, hF⟩ := tc_ob hF
      refine tc_iald (f := x 4) hx hb hK (hW.lo ⟨by decide, by decide⟩) 2 rfl g3 dX3_top_15 ?_
      refine lv_iload_n hx hb dX3_top_16 rfl (lv_at hl 1 rfl) ?_
      refine lv_icmp_ne (tgt := 38) hx hb dX3_top_17 (by decide) (fun c4 => ?_) (fun c4 => ?_)
      · have hF := tc_if hF c4
        obtain ⟨v5, ev5⟩ : ∃ z : Int32, z = w1 + 1 := ⟨_, rfl⟩
        have hF := tc_lt hF ev5
        refine lv_iinc (v := v5) (lv' := [(2, .int v5), (0, .ref (E 0)), (1, .int a1)]) hx hb dX3_top_38 hl (k := 2) rfl (by rw [ev5]; rfl) (by decide) rfl (fun ls hl => ?_)
        refine lv_goto (tgt := 2) hx hb dX3_top_41 (by decide) ?_
        exact ih_2 v5 hF _ (lv_sub hl [1, 2, 0] rfl)
      · have hF := tc_it hF c4
        refine lv_aload_n hx hb dX3_top_20 rfl (lv_at hl 0 rfl) ?_
        refine tc_get (v := .ref (E 5)) hx hb hts hinX3 hown hK (hW.1) (C := RX3) (T := TX3) (N := 15) rfl 5 (by decide) (hts (.fieldLink RX3 16 "TreadCranesModel" "below" "[I") (List.mem_of_getElem? (i := 3) rfl)) (fun _ h9 => h9) rfl dX3_top_21 ?_
        refine lv_iload_n hx hb dX3_top_24 rfl (lv_at hl 2 rfl) ?_
        refine tc_iald (f := x 5) hx hb hK (hW.lo ⟨by decide, by decide⟩) 2 rfl g3 dX3_top_25 ?_
        refine lv_aload_n hx hb dX3_top_26 rfl (lv_at hl 0 rfl) ?_
        refine lv_iload_n hx hb dX3_top_27 rfl (lv_at hl 1 rfl) ?_
        obtain ⟨r6, h7, hF⟩ := tc_bi hF
        refine tc_cr (W.runV (As := [.int a1]) (rest := [.int (x 5 w1.toNatClampNeg)]) ⟨hx, hb, hml, hown, hts⟩ (mt_X3_high l D cU cO cI A E x a1 r6 h7) (cwV 1 hts gX3_top_X3_high rfl rfl rfl (by decide +kernel) ⟨Nat.le_of_ble_eq_true rfl, Nat.le_of_ble_eq_true rfl⟩) ⟨fun a U g mk q => ⟨q.1, q.2.1, va_K.moved (Vm.Alike.refl U.vm) q.2.2⟩, tc_rcv (hW.1) hK rfl, fun U hU hW9 => ⟨rfl, by rw [hU]; exact hW, va_K.moved hW9.alike hK⟩⟩ rfl rfl hl.1 rfl (lv_room (Nat.le_of_ble_eq_true rfl)) dX3_top_28 ⟨Nat.le_of_ble_eq_true rfl, Nat.le_of_ble_eq_true rfl⟩) ?_
        refine lv_iconst (v := 1) hx hb dX3_top_31 (by decide) ?_
        refine lv_isub hx hb dX3_top_32 ?_
        refine lv_icmp_ne (tgt := 38) hx hb dX3_top_33 (by decide) (fun c8 => ?_) (fun c8 => ?_)
        · have hF := tc_if hF c8
          obtain ⟨v9, ev9⟩ : ∃ z : Int32, z = w1 + 1 := ⟨_, rfl⟩
          have hF := tc_lt hF ev9
          refine lv_iinc (v := v9) (lv' := [(2, .int v9), (0, .ref (E 0)), (1, .int a1)]) hx hb dX3_top_38 hl (k := 2) rfl (by rw [ev9]; rfl) (by decide) rfl (fun ls hl => ?_)
          refine lv_goto (tgt := 2) hx hb dX3_top_41 (by decide) ?_
          exact ih_2 v9 hF _ (lv_sub hl [1, 2, 0] rfl)
        · have hF := tc_it hF c8
          refine lv_iload_n hx hb dX3_top_36 rfl (lv_at hl 2 rfl) ?_
          have h91 := Option.some.inj hF
          exact W.iret hx hb hr (fun t ht hW9 => ⟨by rw [← h91], ht⟩) (fun q h => absurd h List.not_mem_nil) dX3_top_37
  · intro w1 h9
    have h9 : lp_X3_top_2 0 x a1 w1 = some r := h9
    rw [lp_X3_top_2] at h9
    cases h9

def f_X3_loaded (x : tc_Y) (a1 : Int32) : Option (Int32) := (if ¬ a1 < 0 ∧ a1.toNatClampNeg < 5 then (if (x 14 a1.toNatClampNeg) = (-1) then some 0 else some 1) else none)
set_option maxHeartbeats 4000000 in
set_option maxRecDepth 100000 in
theorem mt_X3_loaded (l : Launch) (D : va_G) (cU cO cI : ClassId) (A : Nat → Prop) (E : Nat → Nat) (x : tc_Y) (a1 : Int32) (r : Int32) (hF : f_X3_loaded x a1 = some r) : Met l yX3_loaded wsX3_loaded ({ frames := 0, cells := 0, slots := 0, locals := 0 } : Room) (va_Pc [.ref (E 0), .int a1] (fun U => tc_WM D cI A E x U.heap ∧ va_K D vwCl (tc_ty cU cO cI) U)) (k2_QcV (.int r)) 0 0 (fun _ => False) := by
  refine Met.ofW (cc := cX3_loaded) (maxL := 2) (ret := (some .int)) (by decide) rfl ?_
  intro p e s m args below meth c s₁ B hml hv
  obtain ⟨rfl, hW, hK⟩ := hv
  have hx := B.exec
  have hb := B.bytes
  have hr := B.returns
  have hts := atoms_spec (ws := wsX3_loaded) B.pre
  have hown : s.vm.findClass RX3 = some m.cls := findClass_of_methodNamed B.named
  have hlocks := B.notSynchronized
  have hinX3 : ∀ w ∈ wsX30, w ∈ wsX3_loaded := fun w9 h9 => List.mem_cons_of_mem _ (List.mem_append_right _ h9)
  have hl := lv_entry ([.ref (E 0), .int a1]) (n := 2) (Nat.le_of_ble_eq_true rfl)
  rw [lg_entry_eq]
  generalize (lg_sl ([.ref (E 0), .int a1]) ++ List.replicate (2 - (lg_sl ([.ref (E 0), .int a1])).length) Slot.unset).toArray = ls at hl ⊢
  have hl : lv_has ls 2 [(0, .ref (E 0)), (1, .int a1)] := hl
  refine lv_aload_n hx hb dX3_loaded_0 rfl (lv_at hl 0 rfl) ?_
  refine tc_get (v := .ref (E 14)) hx hb hts hinX3 hown hK (hW.1) (C := RX3) (T := TX3) (N := 15) rfl 14 (by decide) (hts (.fieldLink RX3 40 "TreadCranesModel" "load" "[I") (List.mem_of_getElem? (i := 1) rfl)) (fun _ h9 => h9) rfl dX3_loaded_1 ?_
  refine lv_iload_n hx hb dX3_loaded_4 rfl (lv_at hl 1 rfl) ?_
  obtain ⟨g1, hF⟩ := tc_ob hF
  refine tc_iald (f := x 14) hx hb hK (hW.hi ⟨by decide, by decide⟩) 2 rfl g1 dX3_loaded_5 ?_
  refine lv_iconst (v := (-1)) hx hb dX3_loaded_6 (by decide) ?_
  refine lv_icmp_ne (tgt := 14) hx hb dX3_loaded_7 (by decide) (fun c2 => ?_) (fun c2 => ?_)
  · have hF := tc_if hF c2
    refine lv_iconst (v := 1) hx hb dX3_loaded_14 (by decide) ?_
    have h91 := Option.some.inj hF
    exact W.iret hx hb hr (fun t ht hW9 => ⟨by rw [← h91], ht⟩) (fun q h => absurd h List.not_mem_nil) dX3_loaded_15
  · have hF := tc_it hF c2
    refine lv_iconst (v := 0) hx hb dX3_loaded_10 (by decide) ?_
    refine lv_goto (tgt := 15) hx hb dX3_loaded_11 (by decide) ?_
    have h91 := Option.some.inj hF
    exact W.iret hx hb hr (fun t ht hW9 => ⟨by rw [← h91], ht⟩) (fun q h => absurd h List.not_mem_nil) dX3_loaded_15

def f_X3_strength (x : tc_Y) (a1 : Int32) : Option (Int32) := (if ¬ a1 < 0 ∧ a1.toNatClampNeg < 5 then (if ¬ (x 9 a1.toNatClampNeg) = 0 then some ((12 * (x 10 a1.toNatClampNeg)) / (x 9 a1.toNatClampNeg)) else none) else none)
set_option maxHeartbeats 4000000 in
set_option maxRecDepth 100000 in
theorem mt_X3_strength (l : Launch) (D : va_G) (cU cO cI : ClassId) (A : Nat → Prop) (E : Nat → Nat) (x : tc_Y) (a1 : Int32) (r : Int32) (hF : f_X3_strength x a1 = some r) : Met l yX3_strength wsX3_strength ({ frames := 0, cells := 0, slots := 0, locals := 0 } : Room) (va_Pc [.ref (E 0), .int a1] (fun U => tc_WM D cI A E x U.heap ∧ va_K D vwCl (tc_ty cU cO cI) U)) (k2_QcV (.int r)) 0 0 (fun _ => False) := by
  refine Met.ofW (cc := cX3_strength) (maxL := 2) (ret := (some .int)) (by decide) rfl ?_
  intro p e s m args below meth c s₁ B hml hv
  obtain ⟨rfl, hW, hK⟩ := hv
  have hx := B.exec
  have hb := B.bytes
  have hr := B.returns
  have hts := atoms_spec (ws := wsX3_strength) B.pre
  have hown : s.vm.findClass RX3 = some m.cls := findClass_of_methodNamed B.named
  have hlocks := B.notSynchronized
  have hinX3 : ∀ w ∈ wsX30, w ∈ wsX3_strength := fun w9 h9 => List.mem_cons_of_mem _ (List.mem_append_right _ h9)
  have hl := lv_entry ([.ref (E 0), .int a1]) (n := 2) (Nat.le_of_ble_eq_true rfl)
  rw [lg_entry_eq]
  generalize (lg_sl ([.ref (E 0), .int a1]) ++ List.replicate (2 - (lg_sl ([.ref (E 0), .int a1])).length) Slot.unset).toArray = ls at hl ⊢
  have hl : lv_has ls 2 [(0, .ref (E 0)), (1, .int a1)] := hl
  refine lv_bipush (v := 12) hx hb dX3_strength_0 (by decide) ?_
  refine lv_aload_n hx hb dX3_strength_2 rfl (lv_at hl 0 rfl) ?_
  refine tc_get (v := .ref (E 10)) hx hb hts hinX3 hown hK (hW.1) (C := RX3) (T := TX3) (N := 15) rfl 10 (by decide) (hts (.fieldLink RX3 28 "TreadCranesModel" "walkers" "[I") (List.mem_of_getElem? (i := 1) rfl)) (fun _ h9 => h9) rfl dX3_strength_3 ?_
  refine lv_iload_n hx hb dX3_strength_6 rfl (lv_at hl 1 rfl) ?_
  obtain ⟨g1, hF⟩ := tc_ob hF
  refine tc_iald (f := x 10) hx hb hK (hW.hi ⟨by decide, by decide⟩) 2 rfl g1 dX3_strength_7 ?_
  refine lv_imul hx hb dX3_strength_8 ?_
  refine lv_aload_n hx hb dX3_strength_9 rfl (lv_at hl 0 rfl) ?_
  refine tc_get (v := .ref (E 9)) hx hb hts hinX3 hown hK (hW.1) (C := RX3) (T := TX3) (N := 15) rfl 9 (by decide) (hts (.fieldLink RX3 25 "TreadCranesModel" "drum" "[I") (List.mem_of_getElem? (i := 2) rfl)) (fun _ h9 => h9) rfl dX3_strength_10 ?_
  refine lv_iload_n hx hb dX3_strength_13 rfl (lv_at hl 1 rfl) ?_
  refine tc_iald (f := x 9) hx hb hK (hW.hi ⟨by decide, by decide⟩) 2 rfl g1 dX3_strength_14 ?_
  obtain ⟨g2, hF⟩ := tc_ob hF
  refine lv_idiv hx hb dX3_strength_15 g2 ?_
  have h91 := Option.some.inj hF
  exact W.iret hx hb hr (fun t ht hW9 => ⟨by rw [← h91], ht⟩) (fun q h => absurd h List.not_mem_nil) dX3_strength_16

def f_X3_wound (x : tc_Y) (a1 : Int32) (a2 : Int32) : Option (Int32) := (if ¬ a1 < 0 ∧ a1.toNatClampNeg < 5 then (if ¬ (x 9 a1.toNatClampNeg) = 0 then some (((a2 + (x 9 a1.toNatClampNeg)) - 1) / (x 9 a1.toNatClampNeg)) else none) else none)
set_option maxHeartbeats 4000000 in
set_option maxRecDepth 100000 in
theorem mt_X3_wound (l : Launch) (D : va_G) (cU cO cI : ClassId) (A : Nat → Prop) (E : Nat → Nat) (x : tc_Y) (a1 : Int32) (a2 : Int32) (r : Int32) (hF : f_X3_wound x a1 a2 = some r) : Met l yX3_wound wsX3_wound ({ frames := 0, cells := 0, slots := 0, locals := 0 } : Room) (va_Pc [.ref (E 0), .int a1, .int a2] (fun U => tc_WM D cI A E x U.heap ∧ va_K D vwCl (tc_ty cU cO cI) U)) (k2_QcV (.int r)) 0 0 (fun _ => False) := by
  refine Met.ofW (cc := cX3_wound) (maxL := 3) (ret := (some .int)) (by decide) rfl ?_
  intro p e s m args below meth c s₁ B hml hv
  obtain ⟨rfl, hW, hK⟩ := hv
  have hx := B.exec
  have hb := B.bytes
  have hr := B.returns
  have hts := atoms_spec (ws := wsX3_wound) B.pre
  have hown : s.vm.findClass RX3 = some m.cls := findClass_of_methodNamed B.named
  have hlocks := B.notSynchronized
  have hinX3 : ∀ w ∈ wsX30, w ∈ wsX3_wound := fun w9 h9 => List.mem_cons_of_mem _ (List.mem_append_right _ h9)
  have hl := lv_entry ([.ref (E 0), .int a1, .int a2]) (n := 3) (Nat.le_of_ble_eq_true rfl)
  rw [lg_entry_eq]
  generalize (lg_sl ([.ref (E 0), .int a1, .int a2]) ++ List.replicate (3 - (lg_sl ([.ref (E 0), .int a1, .int a2])).length) Slot.unset).toArray = ls at hl ⊢
  have hl : lv_has ls 3 [(0, .ref (E 0)), (1, .int a1), (2, .int a2)] := hl
  refine lv_iload_n hx hb dX3_wound_0 rfl (lv_at hl 2 rfl) ?_
  refine lv_aload_n hx hb dX3_wound_1 rfl (lv_at hl 0 rfl) ?_
  refine tc_get (v := .ref (E 9)) hx hb hts hinX3 hown hK (hW.1) (C := RX3) (T := TX3) (N := 15) rfl 9 (by decide) (hts (.fieldLink RX3 25 "TreadCranesModel" "drum" "[I") (List.mem_of_getElem? (i := 1) rfl)) (fun _ h9 => h9) rfl dX3_wound_2 ?_
  refine lv_iload_n hx hb dX3_wound_5 rfl (lv_at hl 1 rfl) ?_
  obtain ⟨g1, hF⟩ := tc_ob hF
  refine tc_iald (f := x 9) hx hb hK (hW.hi ⟨by decide, by decide⟩) 2 rfl g1 dX3_wound_6 ?_
  refine lv_iadd hx hb dX3_wound_7 ?_
  refine lv_iconst (v := 1) hx hb dX3_wound_8 (by decide) ?_
  refine lv_isub hx hb dX3_wound_9 ?_
  refine lv_aload_n hx hb dX3_wound_10 rfl (lv_at hl 0 rfl) ?_
  refine tc_get (v := .ref (E 9)) hx hb hts hinX3 hown hK (hW.1) (C := RX3) (T := TX3) (N := 15) rfl 9 (by decide) (hts (.fieldLink RX3 25 "TreadCranesModel" "drum" "[I") (List.mem_of_getElem? (i := 1) rfl)) (fun _ h9 => h9) rfl dX3_wound_11 ?_
  refine lv_iload_n hx hb dX3_wound_14 rfl (lv_at hl 1 rfl) ?_
  refine tc_iald (f := x 9) hx hb hK (hW.hi ⟨by decide, by decide⟩) 2 rfl g1 dX3_wound_15 ?_
  obtain ⟨g2, hF⟩ := tc_ob hF
  refine lv_idiv hx hb dX3_wound_16 g2 ?_
  have h91 := Option.some.inj hF
  exact W.iret hx hb hr (fun t ht hW9 => ⟨by rw [← h91], ht⟩) (fun q h => absurd h List.not_mem_nil) dX3_wound_17

def f_X3_isInReach (x : tc_Y) (a1 : Int32) (a2 : Int32) : Option (Int32) := (if ¬ a1 < 0 ∧ a1.toNatClampNeg < 5 then tc_let (tc_abs (a2 - (x 7 a1.toNatClampNeg))) (fun v2 => (if (x 8 a1.toNatClampNeg) < v2 then some 0 else some 1)) else none)
set_option maxHeartbeats 4000000 in
set_option maxRecDepth 100000 in
theorem mt_X3_isInReach (l : Launch) (D : va_G) (cU cO cI : ClassId) (A : Nat → Prop) (E : Nat → Nat) (x : tc_Y) (a1 : Int32) (a2 : Int32) (r : Int32) (hF : f_X3_isInReach x a1 a2 = some r) : Met l yX3_isInReach wsX3_isInReach ({ frames := 1, cells := 0, slots := 0, locals := 13 } : Room) (va_Pc [.ref (E 0), .int a1, .int a2] (fun U => tc_WM D cI A E x U.heap ∧ va_K D vwCl (tc_ty cU cO cI) U)) (k2_QcV (.int r)) 0 0 (fun _ => False) := by
  refine Met.ofW (cc := cX3_isInReach) (maxL := 3) (ret := (some .boolean)) (by decide) rfl ?_
  intro p e s m args below meth c s₁ B hml hv
  obtain ⟨rfl, hW, hK⟩ := hv
  have hx := B.exec
  have hb := B.bytes
  have hr := B.returns
  have hts := atoms_spec (ws := wsX3_isInReach) B.pre
  have hown : s.vm.findClass RX3 = some m.cls := findClass_of_methodNamed B.named
  have hlocks := B.notSynchronized
  have hinX3 : ∀ w ∈ wsX30, w ∈ wsX3_isInReach := fun w9 h9 => List.mem_cons_of_mem _ (List.mem_append_right _ h9)
  have hl := lv_entry ([.ref (E 0), .int a1, .int a2]) (n := 3) (Nat.le_of_ble_eq_true rfl)
  rw [lg_entry_eq]
  generalize (lg_sl ([.ref (E 0), .int a1, .int a2]) ++ List.replicate (3 - (lg_sl ([.ref (E 0), .int a1, .int a2])).length) Slot.unset).toArray = ls at hl ⊢
  have hl : lv_has ls 3 [(0, .ref (E 0)), (1, .int a1), (2, .int a2)] := hl
  refine lv_iload_n hx hb dX3_isInReach_0 rfl (lv_at hl 2 rfl) ?_
  refine lv_aload_n hx hb dX3_isInReach_1 rfl (lv_at hl 0 rfl) ?_
  refine tc_get (v := .ref (E 7)) hx hb hts hinX3 hown hK (hW.1) (C := RX3) (T := TX3) (N := 15) rfl 7 (by decide) (hts (.fieldLink RX3 19 "TreadCranesModel" "post" "[I") (List.mem_of_getElem? (i := 1) rfl)) (fun _ h9 => h9) rfl dX3_isInReach_2 ?_
  refine lv_iload_n hx hb dX3_isInReach_5 rfl (lv_at hl 1 rfl) ?_
  obtain ⟨g1, hF⟩ := tc_ob hF
  refine tc_iald (f := x 7) hx hb hK (hW.hi ⟨by decide, by decide⟩) 2 rfl g1 dX3_isInReach_6 ?_
  refine lv_isub hx hb dX3_isInReach_7 ?_
  refine va_mabs hx hb (by rw [hml]; exact hl.1.symm) hown (hts (.methodLink RX3 61 Lib.Math.abs.name) (List.mem_of_getElem? (i := 2) rfl)) (hts (.static Lib.Math.abs.name) (List.mem_of_getElem? (i := 3) rfl)) (hts (.initialized "java/lang/Math") (List.mem_of_getElem? (i := 4) rfl)) (hts (.code Lib.Math.abs.name Lib.Math.abs.code 1 (some .int)) (List.mem_of_getElem? (i := 5) rfl)) (Nat.le_of_ble_eq_true rfl) (Nat.le_of_ble_eq_true rfl) (Nat.le_of_ble_eq_true rfl) (Nat.le_of_ble_eq_true rfl) dX3_isInReach_8 ?_
  refine lv_topi (fun v2 ev2 => ?_)
  have hF := tc_lt hF ev2
  refine lv_aload_n hx hb dX3_isInReach_11 rfl (lv_at hl 0 rfl) ?_
  refine tc_get (v := .ref (E 8)) hx hb hts hinX3 hown hK (hW.1) (C := RX3) (T := TX3) (N := 15) rfl 8 (by decide) (hts (.fieldLink RX3 22 "TreadCranesModel" "reach" "[I") (List.mem_of_getElem? (i := 6) rfl)) (fun _ h9 => h9) rfl dX3_isInReach_12 ?_
  refine lv_iload_n hx hb dX3_isInReach_15 rfl (lv_at hl 1 rfl) ?_
  refine tc_iald (f := x 8) hx hb hK (hW.hi ⟨by decide, by decide⟩) 2 rfl g1 dX3_isInReach_16 ?_
  refine lv_icmp_gt (tgt := 24) hx hb dX3_isInReach_17 (by decide) (fun c3 => ?_) (fun c3 => ?_)
  · have hF := tc_it hF c3
    refine lv_iconst (v := 0) hx hb dX3_isInReach_24 (by decide) ?_
    have h91 := Option.some.inj hF
    exact W.zret hx hb hr rfl (fun t ht hW9 => ⟨by rw [← h91], ht⟩) (fun q h => absurd h List.not_mem_nil) dX3_isInReach_25
  · have hF := tc_if hF c3
    refine lv_iconst (v := 1) hx hb dX3_isInReach_20 (by decide) ?_
    refine lv_goto (tgt := 25) hx hb dX3_isInReach_21 (by decide) ?_
    have h91 := Option.some.inj hF
    exact W.zret hx hb hr rfl (fun t ht hW9 => ⟨by rw [← h91], ht⟩) (fun q h => absurd h List.not_mem_nil) dX3_isInReach_25

def lp_X3_isTooLow_3 : Nat → tc_Y → Int32 → Int32 → Int32 → Int32 → Option (Int32)
  | 0, _, _, _, _, _ => none
  | n_3 + 1, x, a1, a2, a3, w1 => (if (x 6 0) ≤ w1 then some 0 else (if w1 = a3 then tc_let (w1 + 1) (fun v4 => lp_X3_isTooLow_3 n_3 x a1 a2 a3 v4) else (if ¬ w1 < 0 ∧ w1.toNatClampNeg < 5 then (if (x 12 w1.toNatClampNeg) = a1 then Option.bind (f_X3_loaded x w1) (fun r8 => (if (a2 + r8) ≤ (x 13 w1.toNatClampNeg) then tc_let (w1 + 1) (fun v11 => lp_X3_isTooLow_3 n_3 x a1 a2 a3 v11) else some 1)) else tc_let (w1 + 1) (fun v7 => lp_X3_isTooLow_3 n_3 x a1 a2 a3 v7)) else none)))
def f_X3_isTooLow (x : tc_Y) (a1 : Int32) (a2 : Int32) (a3 : Int32) : Option (Int32) := lp_X3_isTooLow_3 100 x a1 a2 a3 0
set_option maxHeartbeats 4000000 in
set_option maxRecDepth 100000 in
theorem mt_X3_isTooLow (l : Launch) (D : va_G) (cU cO cI : ClassId) (A : Nat → Prop) (E : Nat → Nat) (x : tc_Y) (a1 : Int32) (a2 : Int32) (a3 : Int32) (r : Int32) (hF : f_X3_isTooLow x a1 a2 a3 = some r) : Met l yX3_isTooLow wsX3_isTooLow ({ frames := 1, cells := 0, slots := 0, locals := 21 } : Room) (va_Pc [.ref (E 0), .int a1, .int a2, .int a3] (fun U => tc_WM D cI A E x U.heap ∧ va_K D vwCl (tc_ty cU cO cI) U)) (k2_QcV (.int r)) 0 0 (fun _ => False) := by
  refine Met.ofW (cc := cX3_isTooLow) (maxL := 5) (ret := (some .boolean)) (by decide) rfl ?_
  intro p e s m args below meth c s₁ B hml hv
  obtain ⟨rfl, hW, hK⟩ := hv
  have hx := B.exec
  have hb := B.bytes
  have hr := B.returns
  have hts := atoms_spec (ws := wsX3_isTooLow) B.pre
  have hown : s.vm.findClass RX3 = some m.cls := findClass_of_methodNamed B.named
  have hlocks := B.notSynchronized
  have hinX3 : ∀ w ∈ wsX30, w ∈ wsX3_isTooLow := fun w9 h9 => List.mem_cons_of_mem _ (List.mem_append_right _ h9)
  have hl := lv_entry ([.ref (E 0), .int a1, .int a2, .int a3]) (n := 5) (Nat.le_of_ble_eq_true rfl)
  rw [lg_entry_eq]
  generalize (lg_sl ([.ref (E 0), .int a1, .int a2, .int a3]) ++ List.replicate (5 - (lg_sl ([.ref (E 0), .int a1, .int a2, .int a3])).length) Slot.unset).toArray = ls at hl ⊢
  have hl : lv_has ls 5 [(0, .ref (E 0)), (1, .int a1), (2, .int a2), (3, .int a3)] := hl
  refine lv_iconst (v := 0) hx hb dX3_isTooLow_0 (by decide) ?_
  refine lv_istore (lv' := [(4, .int 0), (0, .ref (E 0)), (1, .int a1), (2, .int a2), (3, .int a3)]) hx hb dX3_isTooLow_1 hl (by decide) rfl (fun ls hl => ?_)
  refine tc_lp1 (fun n w1 => lp_X3_isTooLow_3 n x a1 a2 a3 w1) (fun w1 => [(0, .ref (E 0)), (1, .int a1), (2, .int a2), (3, .int a3), (4, .int w1)]) 100 0 ?_ ?_ hF (lv_sub hl [1, 2, 3, 4, 0] rfl)
  · intro n_3 w1 ih_3 hF ls hl
    have hF : lp_X3_isTooLow_3 (n_3 + 1) x a1 a2 a3 w1 = some r := hF
    rw [lp_X3_isTooLow_3] at hF
    refine lv_iload hx hb dX3_isTooLow_3 (lv_at hl 4 rfl) ?_
    refine lv_aload_n hx hb dX3_isTooLow_5 rfl (lv_at hl 0 rfl) ?_
    refine tc_get (v := .int (x 6 0)) hx hb hts hinX3 hown hK (hW.1) (C := RX3) (T := TX3) (N := 15) rfl 6 (by decide) (hts (.fieldLink RX3 51 "TreadCranesModel" "cranes" "I") (List.mem_of_getElem? (i := 1) rfl)) (fun _ h9 => h9) rfl dX3_isTooLow_6 ?_
    refine lv_icmp_ge (tgt := 55) hx hb dX3_isTooLow_9 (by decide) (fun c2 => ?_) (fun c2 => ?_)
    · have hF := tc_it hF c2
      refine lv_iconst (v := 0) hx hb dX3_isTooLow_55 (by decide) ?_
      have h91 := Option.some.inj hF
      exact W.zret hx hb hr rfl (fun t ht hW9 => ⟨by rw [← h91], ht⟩) (fun q h => absurd h List.not_mem_nil) dX3_isTooLow_56
    · have hF := tc_if hF c2
      refine lv_iload hx hb dX3_isTooLow_12 (lv_at hl 4 rfl) ?_
      refine lv_iload_n hx hb dX3_isTooLow_14 rfl (lv_at hl 3 rfl) ?_
      refine lv_icmp_eq (tgt := 49) hx hb dX3_isTooLow_15 (by decide) (fun c3 => ?_) (fun c3 => ?_)
      · have hF := tc_it hF c3
        obtain ⟨v4, ev4⟩ : ∃ z : Int32, z = w1 + 1 := ⟨_, rfl⟩
        have hF := tc_lt hF ev4
        refine lv_iinc (v := v4) (lv' := [(4, .int v4), (0, .ref (E 0)), (1, .int a1), (2, .int a2), (3, .int a3)]) hx hb dX3_isTooLow_49 hl (k := 4) rfl (by rw [ev4]; rfl) (by decide) rfl (fun ls hl => ?_)
        refine lv_goto (tgt := 3) hx hb dX3_isTooLow_52 (by decide) ?_
        exact ih_3 v4 hF _ (lv_sub hl [1, 2, 3, 4, 0] rfl)
      · have hF := tc_if hF c3
        refine lv_aload_n hx hb dX3_isTooLow_18 rfl (lv_at hl 0 rfl) ?_
        refine tc_get (v := .ref (E 12)) hx hb hts hinX3 hown hK (hW.1) (C := RX3) (T := TX3) (N := 15) rfl 12 (by decide) (hts (.fieldLink RX3 34 "TreadCranesModel" "hook" "[I") (List.mem_of_getElem? (i := 2) rfl)) (fun _ h9 => h9) rfl dX3_isTooLow_19 ?_
        refine lv_iload hx hb dX3_isTooLow_22 (lv_at hl 4 rfl) ?_
        obtain ⟨g5, hF⟩ := tc_ob hF
        refine tc_iald (f := x 12) hx hb hK (hW.hi ⟨by decide, by decide⟩) 2 rfl g5 dX3_isTooLow_24 ?_
        refine lv_iload_n hx hb dX3_isTooLow_25 rfl (lv_at hl 1 rfl) ?_
        refine lv_icmp_ne (tgt := 49) hx hb dX3_isTooLow_26 (by decide) (fun c6 => ?_) (fun c6 => ?_)
        · have hF := tc_if hF c6
          obtain ⟨v7, ev7⟩ : ∃ z : Int32, z = w1 + 1 := ⟨_, rfl⟩
          have hF := tc_lt hF ev7
          refine lv_iinc (v := v7) (lv' := [(4, .int v7), (0, .ref (E 0)), (1, .int a1), (2, .int a2), (3, .int a3)]) hx hb dX3_isTooLow_49 hl (k := 4) rfl (by rw [ev7]; rfl) (by decide) rfl (fun ls hl => ?_)
          refine lv_goto (tgt := 3) hx hb dX3_isTooLow_52 (by decide) ?_
          exact ih_3 v7 hF _ (lv_sub hl [1, 2, 3, 4, 0] rfl)
        · have hF := tc_it hF c6
          refine lv_aload_n hx hb dX3_isTooLow_29 rfl (lv_at hl 0 rfl) ?_
          refine tc_get (v := .ref (E 13)) hx hb hts hinX3 hown hK (hW.1) (C := RX3) (T := TX3) (N := 15) rfl 13 (by decide) (hts (.fieldLink RX3 37 "TreadCranesModel" "height" "[I") (List.mem_of_getElem? (i := 3) rfl)) (fun _ h9 => h9) rfl dX3_isTooLow_30 ?_
          refine lv_iload hx hb dX3_isTooLow_33 (lv_at hl 4 rfl) ?_
          refine tc_iald (f := x 13) hx hb hK (hW.hi ⟨by decide, by decide⟩) 2 rfl g5 dX3_isTooLow_35 ?_
          refine lv_iload_n hx hb dX3_isTooLow_36 rfl (lv_at hl 2 rfl) ?_
          refine lv_aload_n hx hb dX3_isTooLow_37 rfl (lv_at hl 0 rfl) ?_
          refine lv_iload hx hb dX3_isTooLow_38 (lv_at hl 4 rfl) ?_
          obtain ⟨r8, h9, hF⟩ := tc_bi hF
          refine tc_cr (W.runV (As := [.int w1]) (rest := [.int a2, .int (x 13 w1.toNatClampNeg)]) ⟨hx, hb, hml, hown, hts⟩ (mt_X3_loaded l D cU cO cI A E x w1 r8 h9) (cwV 1 hts gX3_isTooLow_X3_loaded rfl rfl rfl (by decide +kernel) ⟨Nat.le_of_ble_eq_true rfl, Nat.le_of_ble_eq_true rfl⟩) ⟨fun a U g mk q => ⟨q.1, q.2.1, va_K.moved (Vm.Alike.refl U.vm) q.2.2⟩, tc_rcv (hW.1) hK rfl, fun U hU hW9 => ⟨rfl, by rw [hU]; exact hW, va_K.moved hW9.alike hK⟩⟩ rfl rfl hl.1 rfl (lv_room (Nat.le_of_ble_eq_true rfl)) dX3_isTooLow_40 ⟨Nat.le_of_ble_eq_true rfl, Nat.le_of_ble_eq_true rfl⟩) ?_
          refine lv_iadd hx hb dX3_isTooLow_43 ?_
          refine lv_icmp_ge (tgt := 49) hx hb dX3_isTooLow_44 (by decide) (fun c10 => ?_) (fun c10 => ?_)
          · have hF := tc_it hF c10
            obtain ⟨v11, ev11⟩ : ∃ z : Int32, z = w1 + 1 := ⟨_, rfl⟩
            have hF := tc_lt hF ev11
            refine lv_iinc (v := v11) (lv' := [(4, .int v11), (0, .ref (E 0)), (1, .int a1), (2, .int a2), (3, .int a3)]) hx hb dX3_isTooLow_49 hl (k := 4) rfl (by rw [ev11]; rfl) (by decide) rfl (fun ls hl => ?_)
            refine lv_goto (tgt := 3) hx hb dX3_isTooLow_52 (by decide) ?_
            exact ih_3 v11 hF _ (lv_sub hl [1, 2, 3, 4, 0] rfl)
          · have hF := tc_if hF c10
            refine lv_iconst (v := 1) hx hb dX3_isTooLow_47 (by decide) ?_
            have h91 := Option.some.inj hF
            exact W.zret hx hb hr rfl (fun t ht hW9 => ⟨by rw [← h91], ht⟩) (fun q h => absurd h List.not_mem_nil) dX3_isTooLow_48
  · intro w1 h9
    have h9 : lp_X3_isTooLow_3 0 x a1 a2 a3 w1 = some r := h9
    rw [lp_X3_isTooLow_3] at h9
    cases h9

def lp_X3_highest_10 : Nat → tc_Y → Int32 → Int32 → Int32 → Int32 → Int32 → Option (Int32)
  | 0, _, _, _, _, _, _ => none
  | n_10 + 1, x, a1, a2, a3, w2, w3 => tc_let (tc_max a1 a2) (fun v4 => (if v4 < w3 then some w2 else Option.bind (f_X3_high x w3) (fun r6 => (if w3 = a3 then tc_let (tc_max w2 (r6 - 1)) (fun v11 => tc_let (w3 + 1) (fun v12 => lp_X3_highest_10 n_10 x a1 a2 a3 v11 v12)) else tc_let (tc_max w2 (r6 - 0)) (fun v9 => tc_let (w3 + 1) (fun v10 => lp_X3_highest_10 n_10 x a1 a2 a3 v9 v10))))))
def f_X3_highest (x : tc_Y) (a1 : Int32) (a2 : Int32) (a3 : Int32) : Option (Int32) := tc_let (tc_min a1 a2) (fun v1 => lp_X3_highest_10 100 x a1 a2 a3 0 v1)
set_option maxHeartbeats 4000000 in
set_option maxRecDepth 100000 in
theorem mt_X3_highest (l : Launch) (D : va_G) (cU cO cI : ClassId) (A : Nat → Prop) (E : Nat → Nat) (x : tc_Y) (a1 : Int32) (a2 : Int32) (a3 : Int32) (r : Int32) (hF : f_X3_highest x a1 a2 a3 = some r) : Met l yX3_highest wsX3_highest ({ frames := 1, cells := 0, slots := 0, locals := 23 } : Room) (va_Pc [.ref (E 0), .int a1, .int a2, .int a3] (fun U => tc_WM D cI A E x U.heap ∧ va_K D vwCl (tc_ty cU cO cI) U)) (k2_QcV (.int r)) 0 0 (fun _ => False) := by
  refine Met.ofW (cc := cX3_highest) (maxL := 6) (ret := (some .int)) (by decide) rfl ?_
  intro p e s m args below meth c s₁ B hml hv
  obtain ⟨rfl, hW, hK⟩ := hv
  have hx := B.exec
  have hb := B.bytes
  have hr := B.returns
  have hts := atoms_spec (ws := wsX3_highest) B.pre
  have hown : s.vm.findClass RX3 = some m.cls := findClass_of_methodNamed B.named
  have hlocks := B.notSynchronized
  have hl := lv_entry ([.ref (E 0), .int a1, .int a2, .int a3]) (n := 6) (Nat.le_of_ble_eq_true rfl)
  rw [lg_entry_eq]
  generalize (lg_sl ([.ref (E 0), .int a1, .int a2, .int a3]) ++ List.replicate (6 - (lg_sl ([.ref (E 0), .int a1, .int a2, .int a3])).length) Slot.unset).toArray = ls at hl ⊢
  have hl : lv_has ls 6 [(0, .ref (E 0)), (1, .int a1), (2, .int a2), (3, .int a3)] := hl
  refine lv_iconst (v := 0) hx hb dX3_highest_0 (by decide) ?_
  refine lv_istore (lv' := [(4, .int 0), (0, .ref (E 0)), (1, .int a1), (2, .int a2), (3, .int a3)]) hx hb dX3_highest_1 hl (by decide) rfl (fun ls hl => ?_)
  refine lv_iload_n hx hb dX3_highest_3 rfl (lv_at hl 2 rfl) ?_
  refine lv_iload_n hx hb dX3_highest_4 rfl (lv_at hl 3 rfl) ?_
  refine va_mmin hx hb (by rw [hml]; exact hl.1.symm) hown (hts (.methodLink RX3 69 Lib.Math.min.name) (List.mem_of_getElem? (i := 1) rfl)) (hts (.static Lib.Math.min.name) (List.mem_of_getElem? (i := 2) rfl)) (hts (.initialized "java/lang/Math") (List.mem_of_getElem? (i := 3) rfl)) (hts (.code Lib.Math.min.name Lib.Math.min.code 2 (some .int)) (List.mem_of_getElem? (i := 4) rfl)) (Nat.le_of_ble_eq_true rfl) (Nat.le_of_ble_eq_true rfl) (Nat.le_of_ble_eq_true rfl) (Nat.le_of_ble_eq_true rfl) dX3_highest_5 ?_
  refine lv_topi (fun v1 ev1 => ?_)
  have hF := tc_lt hF ev1
  refine lv_istore (lv' := [(5, .int v1), (4, .int 0), (0, .ref (E 0)), (1, .int a1), (2, .int a2), (3, .int a3)]) hx hb dX3_highest_8 hl (by decide) rfl (fun ls hl => ?_)
  refine tc_lp2 (fun n w2 w3 => lp_X3_highest_10 n x a1 a2 a3 w2 w3) (fun w2 w3 => [(0, .ref (E 0)), (1, .int a1), (2, .int a2), (3, .int a3), (4, .int w2), (5, .int w3)]) 100 0 v1 ?_ ?_ hF (lv_sub hl [2, 3, 4, 5, 1, 0] rfl)
  · intro n_10 w2 w3 ih_10 hF ls hl
    have hF : lp_X3_highest_10 (n_10 + 1) x a1 a2 a3 w2 w3 = some r := hF
    rw [lp_X3_highest_10] at hF
    refine lv_iload hx hb dX3_highest_10 (lv_at hl 5 rfl) ?_
    refine lv_iload_n hx hb dX3_highest_12 rfl (lv_at hl 1 rfl) ?_
    refine lv_iload_n hx hb dX3_highest_13 rfl (lv_at hl 2 rfl) ?_
    refine va_mmax hx hb (by rw [hml]; exact hl.1.symm) hown (hts (.methodLink RX3 73 Lib.Math.max.name) (List.mem_of_getElem? (i := 5) rfl)) (hts (.static Lib.Math.max.name) (List.mem_of_getElem? (i := 6) rfl)) (hts (.initialized "java/lang/Math") (List.mem_of_getElem? (i := 3) rfl)) (hts (.code Lib.Math.max.name Lib.Math.max.code 2 (some .int)) (List.mem_of_getElem? (i := 7) rfl)) (Nat.le_of_ble_eq_true rfl) (Nat.le_of_ble_eq_true rfl) (Nat.le_of_ble_eq_true rfl) (Nat.le_of_ble_eq_true rfl) dX3_highest_14 ?_
    refine lv_topi (fun v4 ev4 => ?_)
    have hF := tc_lt hF ev4
    refine lv_icmp_gt (tgt := 51) hx hb dX3_highest_17 (by decide) (fun c5 => ?_) (fun c5 => ?_)
    · have hF := tc_it hF c5
      refine lv_iload hx hb dX3_highest_51 (lv_at hl 4 rfl) ?_
      have h91 := Option.some.inj hF
      exact W.iret hx hb hr (fun t ht hW9 => ⟨by rw [← h91], ht⟩) (fun q h => absurd h List.not_mem_nil) dX3_highest_53
    · have hF := tc_if hF c5
      refine lv_iload hx hb dX3_highest_20 (lv_at hl 4 rfl) ?_
      refine lv_aload_n hx hb dX3_highest_22 rfl (lv_at hl 0 rfl) ?_
      refine lv_iload hx hb dX3_highest_23 (lv_at hl 5 rfl) ?_
      obtain ⟨r6, h7, hF⟩ := tc_bi hF
      refine tc_cr (W.runV (As := [.int w3]) (rest := [.int w2]) ⟨hx, hb, hml, hown, hts⟩ (mt_X3_high l D cU cO cI A E x w3 r6 h7) (cwV 1 hts gX3_highest_X3_high rfl rfl rfl (by decide +kernel) ⟨Nat.le_of_ble_eq_true rfl, Nat.le_of_ble_eq_true rfl⟩) ⟨fun a U g mk q => ⟨q.1, q.2.1, va_K.moved (Vm.Alike.refl U.vm) q.2.2⟩, tc_rcv (hW.1) hK rfl, fun U hU hW9 => ⟨rfl, by rw [hU]; exact hW, va_K.moved hW9.alike hK⟩⟩ rfl rfl hl.1 rfl (lv_room (Nat.le_of_ble_eq_true rfl)) dX3_highest_25 ⟨Nat.le_of_ble_eq_true rfl, Nat.le_of_ble_eq_true rfl⟩) ?_
      refine lv_iload hx hb dX3_highest_28 (lv_at hl 5 rfl) ?_
      refine lv_iload_n hx hb dX3_highest_30 rfl (lv_at hl 3 rfl) ?_
      refine lv_icmp_ne (tgt := 38) hx hb dX3_highest_31 (by decide) (fun c8 => ?_) (fun c8 => ?_)
      · have hF := tc_if hF c8
        refine lv_iconst (v := 0) hx hb dX3_highest_38 (by decide) ?_
        refine lv_isub hx hb dX3_highest_39 ?_
        refine va_mmax hx hb (by rw [hml]; exact hl.1.symm) hown (hts (.methodLink RX3 73 Lib.Math.max.name) (List.mem_of_getElem? (i := 5) rfl)) (hts (.static Lib.Math.max.name) (List.mem_of_getElem? (i := 6) rfl)) (hts (.initialized "java/lang/Math") (List.mem_of_getElem? (i := 3) rfl)) (hts (.code Lib.Math.max.name Lib.Math.max.code 2 (some .int)) (List.mem_of_getElem? (i := 7) rfl)) (Nat.le_of_ble_eq_true rfl) (Nat.le_of_ble_eq_true rfl) (Nat.le_of_ble_eq_true rfl) (Nat.le_of_ble_eq_true rfl) dX3_highest_40 ?_
        refine lv_topi (fun v9 ev9 => ?_)
        have hF := tc_lt hF ev9
        refine lv_istore (lv' := [(4, .int v9), (0, .ref (E 0)), (1, .int a1), (2, .int a2), (3, .int a3), (5, .int w3)]) hx hb dX3_highest_43 hl (by decide) rfl (fun ls hl => ?_)
        obtain ⟨v10, ev10⟩ : ∃ z : Int32, z = w3 + 1 := ⟨_, rfl⟩
        have hF := tc_lt hF ev10
        refine lv_iinc (v := v10) (lv' := [(5, .int v10), (4, .int v9), (0, .ref (E 0)), (1, .int a1), (2, .int a2), (3, .int a3)]) hx hb dX3_highest_45 hl (k := 5) rfl (by rw [ev10]; rfl) (by decide) rfl (fun ls hl => ?_)
        refine lv_goto (tgt := 10) hx hb dX3_highest_48 (by decide) ?_
        exact ih_10 v9 v10 hF _ (lv_sub hl [2, 3, 4, 5, 1, 0] rfl)
      · have hF := tc_it hF c8
        refine lv_iconst (v := 1) hx hb dX3_highest_34 (by decide) ?_
        refine lv_goto (tgt := 39) hx hb dX3_highest_35 (by decide) ?_
        refine lv_isub hx hb dX3_highest_39 ?_
        refine va_mmax hx hb (by rw [hml]; exact hl.1.symm) hown (hts (.methodLink RX3 73 Lib.Math.max.name) (List.mem_of_getElem? (i := 5) rfl)) (hts (.static Lib.Math.max.name) (List.mem_of_getElem? (i := 6) rfl)) (hts (.initialized "java/lang/Math") (List.mem_of_getElem? (i := 3) rfl)) (hts (.code Lib.Math.max.name Lib.Math.max.code 2 (some .int)) (List.mem_of_getElem? (i := 7) rfl)) (Nat.le_of_ble_eq_true rfl) (Nat.le_of_ble_eq_true rfl) (Nat.le_of_ble_eq_true rfl) (Nat.le_of_ble_eq_true rfl) dX3_highest_40 ?_
        refine lv_topi (fun v11 ev11 => ?_)
        have hF := tc_lt hF ev11
        refine lv_istore (lv' := [(4, .int v11), (0, .ref (E 0)), (1, .int a1), (2, .int a2), (3, .int a3), (5, .int w3)]) hx hb dX3_highest_43 hl (by decide) rfl (fun ls hl => ?_)
        obtain ⟨v12, ev12⟩ : ∃ z : Int32, z = w3 + 1 := ⟨_, rfl⟩
        have hF := tc_lt hF ev12
        refine lv_iinc (v := v12) (lv' := [(5, .int v12), (4, .int v11), (0, .ref (E 0)), (1, .int a1), (2, .int a2), (3, .int a3)]) hx hb dX3_highest_45 hl (k := 5) rfl (by rw [ev12]; rfl) (by decide) rfl (fun ls hl => ?_)
        refine lv_goto (tgt := 10) hx hb dX3_highest_48 (by decide) ?_
        exact ih_10 v11 v12 hF _ (lv_sub hl [2, 3, 4, 5, 1, 0] rfl)
  · intro w2 w3 h9
    have h9 : lp_X3_highest_10 0 x a1 a2 a3 w2 w3 = some r := h9
    rw [lp_X3_highest_10] at h9
    cases h9

def f_X3_canLift (x : tc_Y) (a1 : Int32) : Option (Int32) := (if ¬ a1 < 0 ∧ a1.toNatClampNeg < 5 then (if (x 14 a1.toNatClampNeg) = (-1) then some 1 else (if ¬ (x 14 a1.toNatClampNeg) < 0 ∧ (x 14 a1.toNatClampNeg).toNatClampNeg < 40 then Option.bind (f_X3_strength x a1) (fun r4 => (if r4 < (x 3 (x 14 a1.toNatClampNeg).toNatClampNeg) then some 0 else some 1)) else none)) else none)
set_option maxHeartbeats 4000000 in
set_option maxRecDepth 100000 in
theorem mt_X3_canLift (l : Launch) (D : va_G) (cU cO cI : ClassId) (A : Nat → Prop) (E : Nat → Nat) (x : tc_Y) (a1 : Int32) (r : Int32) (hF : f_X3_canLift x a1 = some r) : Met l yX3_canLift wsX3_canLift ({ frames := 1, cells := 0, slots := 0, locals := 21 } : Room) (va_Pc [.ref (E 0), .int a1] (fun U => tc_WM D cI A E x U.heap ∧ va_K D vwCl (tc_ty cU cO cI) U)) (k2_QcV (.int r)) 0 0 (fun _ => False) := by
  refine Met.ofW (cc := cX3_canLift) (maxL := 2) (ret := (some .boolean)) (by decide) rfl ?_
  intro p e s m args below meth c s₁ B hml hv
  obtain ⟨rfl, hW, hK⟩ := hv
  have hx := B.exec
  have hb := B.bytes
  have hr := B.returns
  have hts := atoms_spec (ws := wsX3_canLift) B.pre
  have hown : s.vm.findClass RX3 = some m.cls := findClass_of_methodNamed B.named
  have hlocks := B.notSynchronized
  have hinX3 : ∀ w ∈ wsX30, w ∈ wsX3_canLift := fun w9 h9 => List.mem_cons_of_mem _ (List.mem_append_right _ h9)
  have hl := lv_entry ([.ref (E 0), .int a1]) (n := 2) (Nat.le_of_ble_eq_true rfl)
  rw [lg_entry_eq]
  generalize (lg_sl ([.ref (E 0), .int a1]) ++ List.replicate (2 - (lg_sl ([.ref (E 0), .int a1])).length) Slot.unset).toArray = ls at hl ⊢
  have hl : lv_has ls 2 [(0, .ref (E 0)), (1, .int a1)] := hl
  refine lv_aload_n hx hb dX3_canLift_0 rfl (lv_at hl 0 rfl) ?_
  refine tc_get (v := .ref (E 14)) hx hb hts hinX3 hown hK (hW.1) (C := RX3) (T := TX3) (N := 15) rfl 14 (by decide) (hts (.fieldLink RX3 40 "TreadCranesModel" "load" "[I") (List.mem_of_getElem? (i := 1) rfl)) (fun _ h9 => h9) rfl dX3_canLift_1 ?_
  refine lv_iload_n hx hb dX3_canLift_4 rfl (lv_at hl 1 rfl) ?_
  obtain ⟨g1, hF⟩ := tc_ob hF
  refine tc_iald (f := x 14) hx hb hK (hW.hi ⟨by decide, by decide⟩) 2 rfl g1 dX3_canLift_5 ?_
  refine lv_iconst (v := (-1)) hx hb dX3_canLift_6 (by decide) ?_
  refine lv_icmp_eq (tgt := 29) hx hb dX3_canLift_7 (by decide) (fun c2 => ?_) (fun c2 => ?_)
  · have hF := tc_it hF c2
    refine lv_iconst (v := 1) hx hb dX3_canLift_29 (by decide) ?_
    refine lv_goto (tgt := 34) hx hb dX3_canLift_30 (by decide) ?_
    have h91 := Option.some.inj hF
    exact W.zret hx hb hr rfl (fun t ht hW9 => ⟨by rw [← h91], ht⟩) (fun q h => absurd h List.not_mem_nil) dX3_canLift_34
  · have hF := tc_if hF c2
    refine lv_aload_n hx hb dX3_canLift_10 rfl (lv_at hl 0 rfl) ?_
    refine tc_get (v := .ref (E 3)) hx hb hts hinX3 hown hK (hW.1) (C := RX3) (T := TX3) (N := 15) rfl 3 (by decide) (hts (.fieldLink RX3 9 "TreadCranesModel" "weight" "[I") (List.mem_of_getElem? (i := 2) rfl)) (fun _ h9 => h9) rfl dX3_canLift_11 ?_
    refine lv_aload_n hx hb dX3_canLift_14 rfl (lv_at hl 0 rfl) ?_
    refine tc_get (v := .ref (E 14)) hx hb hts hinX3 hown hK (hW.1) (C := RX3) (T := TX3) (N := 15) rfl 14 (by decide) (hts (.fieldLink RX3 40 "TreadCranesModel" "load" "[I") (List.mem_of_getElem? (i := 1) rfl)) (fun _ h9 => h9) rfl dX3_canLift_15 ?_
    refine lv_iload_n hx hb dX3_canLift_18 rfl (lv_at hl 1 rfl) ?_
    refine tc_iald (f := x 14) hx hb hK (hW.hi ⟨by decide, by decide⟩) 2 rfl g1 dX3_canLift_19 ?_
    obtain ⟨g3, hF⟩ := tc_ob hF
    refine tc_iald (f := x 3) hx hb hK (hW.lo ⟨by decide, by decide⟩) 2 rfl g3 dX3_canLift_20 ?_
    refine lv_aload_n hx hb dX3_canLift_21 rfl (lv_at hl 0 rfl) ?_
    refine lv_iload_n hx hb dX3_canLift_22 rfl (lv_at hl 1 rfl) ?_
    obtain ⟨r4, h5, hF⟩ := tc_bi hF
    refine tc_cr (W.runV (As := [.int a1]) (rest := [.int (x 3 (x 14 a1.toNatClampNeg).toNatClampNeg)]) ⟨hx, hb, hml, hown, hts⟩ (mt_X3_strength l D cU cO cI A E x a1 r4 h5) (cwV 1 hts gX3_canLift_X3_strength rfl rfl rfl (by decide +kernel) ⟨Nat.le_of_ble_eq_true rfl, Nat.le_of_ble_eq_true rfl⟩) ⟨fun a U g mk q => ⟨q.1, q.2.1, va_K.moved (Vm.Alike.refl U.vm) q.2.2⟩, tc_rcv (hW.1) hK rfl, fun U hU hW9 => ⟨rfl, by rw [hU]; exact hW, va_K.moved hW9.alike hK⟩⟩ rfl rfl hl.1 rfl (lv_room (Nat.le_of_ble_eq_true rfl)) dX3_canLift_23 ⟨Nat.le_of_ble_eq_true rfl, Nat.le_of_ble_eq_true rfl⟩) ?_
    refine lv_icmp_gt (tgt := 33) hx hb dX3_canLift_26 (by decide) (fun c6 => ?_) (fun c6 => ?_)
    · have hF := tc_it hF c6
      refine lv_iconst (v := 0) hx hb dX3_canLift_33 (by decide) ?_
      have h91 := Option.some.inj hF
      exact W.zret hx hb hr rfl (fun t ht hW9 => ⟨by rw [← h91], ht⟩) (fun q h => absurd h List.not_mem_nil) dX3_canLift_34
    · have hF := tc_if hF c6
      refine lv_iconst (v := 1) hx hb dX3_canLift_29 (by decide) ?_
      refine lv_goto (tgt := 34) hx hb dX3_canLift_30 (by decide) ?_
      have h91 := Option.some.inj hF
      exact W.zret hx hb hr rfl (fun t ht hW9 => ⟨by rw [← h91], ht⟩) (fun q h => absurd h List.not_mem_nil) dX3_canLift_34

def lp_X3_craneOf_2 : Nat → tc_Y → Int32 → Int32 → Option (Int32)
  | 0, _, _, _ => none
  | n_2 + 1, x, a1, w1 => (if (x 6 0) ≤ w1 then some (-1) else (if ¬ w1 < 0 ∧ w1.toNatClampNeg < 5 then (if (x 14 w1.toNatClampNeg) = a1 then some w1 else tc_let (w1 + 1) (fun v5 => lp_X3_craneOf_2 n_2 x a1 v5)) else none))
def f_X3_craneOf (x : tc_Y) (a1 : Int32) : Option (Int32) := lp_X3_craneOf_2 100 x a1 0
set_option maxHeartbeats 4000000 in
set_option maxRecDepth 100000 in
theorem mt_X3_craneOf (l : Launch) (D : va_G) (cU cO cI : ClassId) (A : Nat → Prop) (E : Nat → Nat) (x : tc_Y) (a1 : Int32) (r : Int32) (hF : f_X3_craneOf x a1 = some r) : Met l yX3_craneOf wsX3_craneOf ({ frames := 0, cells := 0, slots := 0, locals := 0 } : Room) (va_Pc [.ref (E 0), .int a1] (fun U => tc_WM D cI A E x U.heap ∧ va_K D vwCl (tc_ty cU cO cI) U)) (k2_QcV (.int r)) 0 0 (fun _ => False) := by
  refine Met.ofW (cc := cX3_craneOf) (maxL := 3) (ret := (some .int)) (by decide) rfl ?_
  intro p e s m args below meth c s₁ B hml hv
  obtain ⟨rfl, hW, hK⟩ := hv
  have hx := B.exec
  have hb := B.bytes
  have hr := B.returns
  have hts := atoms_spec (ws := wsX3_craneOf) B.pre
  have hown : s.vm.findClass RX3 = some m.cls := findClass_of_methodNamed B.named
  have hlocks := B.notSynchronized
  have hinX3 : ∀ w ∈ wsX30, w ∈ wsX3_craneOf := fun w9 h9 => List.mem_cons_of_mem _ (List.mem_append_right _ h9)
  have hl := lv_entry ([.ref (E 0), .int a1]) (n := 3) (Nat.le_of_ble_eq_true rfl)
  rw [lg_entry_eq]
  generalize (lg_sl ([.ref (E 0), .int a1]) ++ List.replicate (3 - (lg_sl ([.ref (E 0), .int a1])).length) Slot.unset).toArray = ls at hl ⊢
  have hl : lv_has ls 3 [(0, .ref (E 0)), (1, .int a1)] := hl
  refine lv_iconst (v := 0) hx hb dX3_craneOf_0 (by decide) ?_
  refine lv_istore_n (lv' := [(2, .int 0), (0, .ref (E 0)), (1, .int a1)]) hx hb dX3_craneOf_1 rfl hl (by decide) rfl (fun ls hl => ?_)
  refine tc_lp1 (fun n w1 => lp_X3_craneOf_2 n x a1 w1) (fun w1 => [(0, .ref (E 0)), (1, .int a1), (2, .int w1)]) 100 0 ?_ ?_ hF (lv_sub hl [1, 2, 0] rfl)
  · intro n_2 w1 ih_2 hF ls hl
    have hF : lp_X3_craneOf_2 (n_2 + 1) x a1 w1 = some r := hF
    rw [lp_X3_craneOf_2] at hF
    refine lv_iload_n hx hb dX3_craneOf_2 rfl (lv_at hl 2 rfl) ?_
    refine lv_aload_n hx hb dX3_craneOf_3 rfl (lv_at hl 0 rfl) ?_
    refine tc_get (v := .int (x 6 0)) hx hb hts hinX3 hown hK (hW.1) (C := RX3) (T := TX3) (N := 15) rfl 6 (by decide) (hts (.fieldLink RX3 51 "TreadCranesModel" "cranes" "I") (List.mem_of_getElem? (i := 1) rfl)) (fun _ h9 => h9) rfl dX3_craneOf_4 ?_
    refine lv_icmp_ge (tgt := 28) hx hb dX3_craneOf_7 (by decide) (fun c2 => ?_) (fun c2 => ?_)
    · have hF := tc_it hF c2
      refine lv_iconst (v := (-1)) hx hb dX3_craneOf_28 (by decide) ?_
      have h91 := Option.some.inj hF
      exact W.iret hx hb hr (fun t ht hW9 => ⟨by rw [← h91], ht⟩) (fun q h => absurd h List.not_mem_nil) dX3_craneOf_29
    · have hF := tc_if hF c2
      refine lv_aload_n hx hb dX3_craneOf_10 rfl (lv_at hl 0 rfl) ?_
      refine tc_get (v := .ref (E 14)) hx hb hts hinX3 hown hK (hW.1) (C := RX3) (T := TX3) (N := 15) rfl 14 (by decide) (hts (.fieldLink RX3 40 "TreadCranesModel" "load" "[I") (List.mem_of_getElem? (i := 2) rfl)) (fun _ h9 => h9) rfl dX3_craneOf_11 ?_
      refine lv_iload_n hx hb dX3_craneOf_14 rfl (lv_at hl 2 rfl) ?_
      obtain ⟨g3, hF⟩ := tc_ob hF
      refine tc_iald (f := x 14) hx hb hK (hW.hi ⟨by decide, by decide⟩) 2 rfl g3 dX3_craneOf_15 ?_
      refine lv_iload_n hx hb dX3_craneOf_16 rfl (lv_at hl 1 rfl) ?_
      refine lv_icmp_ne (tgt := 22) hx hb dX3_craneOf_17 (by decide) (fun c4 => ?_) (fun c4 => ?_)
      · have hF := tc_if hF c4
        obtain ⟨v5, ev5⟩ : ∃ z : Int32, z = w1 + 1 := ⟨_, rfl⟩
        have hF := tc_lt hF ev5
        refine lv_iinc (v := v5) (lv' := [(2, .int v5), (0, .ref (E 0)), (1, .int a1)]) hx hb dX3_craneOf_22 hl (k := 2) rfl (by rw [ev5]; rfl) (by decide) rfl (fun ls hl => ?_)
        refine lv_goto (tgt := 2) hx hb dX3_craneOf_25 (by decide) ?_
        exact ih_2 v5 hF _ (lv_sub hl [1, 2, 0] rfl)
      · have hF := tc_it hF c4
        refine lv_iload_n hx hb dX3_craneOf_20 rfl (lv_at hl 2 rfl) ?_
        have h91 := Option.some.inj hF
        exact W.iret hx hb hr (fun t ht hW9 => ⟨by rw [← h91], ht⟩) (fun q h => absurd h List.not_mem_nil) dX3_craneOf_21
  · intro w1 h9
    have h9 : lp_X3_craneOf_2 0 x a1 w1 = some r := h9
    rw [lp_X3_craneOf_2] at h9
    cases h9

def f_X3_ticksOf (x : tc_Y) (a1 : Int32) (a2 : Int32) (a3 : Int32) : Option (Int32) := Option.bind (f_X3_high x a2) (fun r1 => Option.bind (f_X3_high x a3) (fun r3 => (if ¬ a1 < 0 ∧ a1.toNatClampNeg < 5 then (if (x 14 a1.toNatClampNeg) = (-1) then (if a2 = a3 then some (-1) else Option.bind (f_X3_isInReach x a1 a2) (fun r8 => (if r8 = 0 then some (-1) else Option.bind (f_X3_isInReach x a1 a3) (fun r11 => (if r11 = 0 then some (-1) else (if r1 = 0 then some (-1) else (if r3 = 8 then some (-1) else Option.bind (f_X3_top x a2) (fun r16 => (if ¬ r16 < 0 ∧ r16.toNatClampNeg < 40 then tc_let (x 3 r16.toNatClampNeg) (fun v19 => Option.bind (f_X3_strength x a1) (fun r20 => (if v19 ≤ r20 then Option.bind (f_X3_highest x (x 12 a1.toNatClampNeg) a2 (-1)) (fun r23 => tc_let (tc_max (x 13 a1.toNatClampNeg) r23) (fun v25 => Option.bind (f_X3_highest x a2 a3 a2) (fun r26 => tc_let (tc_max r1 (r26 + 1)) (fun v28 => Option.bind (f_X3_wound x a1 ((v28 - r3) - 1)) (fun r29 => (if ((x 11 a1.toNatClampNeg) + (r29 * ((v19 / 20) + 1))) ≤ 99 then Option.bind (f_X3_wound x a1 (v25 - (x 13 a1.toNatClampNeg))) (fun r32 => tc_let (tc_abs ((x 12 a1.toNatClampNeg) - a2)) (fun v34 => Option.bind (f_X3_wound x a1 (v25 - r1)) (fun r35 => Option.bind (f_X3_wound x a1 (v28 - r1)) (fun r37 => tc_let (tc_abs (a2 - a3)) (fun v39 => some (((((r32 + v34) + r35) + r37) + v39) + r29)))))) else some (-1))))))) else some (-1)))) else none))))))))) else some (-1)) else none)))
set_option maxHeartbeats 4000000 in
set_option maxRecDepth 100000 in
theorem mt_X3_ticksOf (l : Launch) (D : va_G) (cU cO cI : ClassId) (A : Nat → Prop) (E : Nat → Nat) (x : tc_Y) (a1 : Int32) (a2 : Int32) (a3 : Int32) (r : Int32) (hF : f_X3_ticksOf x a1 a2 a3 = some r) : Met l yX3_ticksOf wsX3_ticksOf ({ frames := 2, cells := 0, slots := 0, locals := 48 } : Room) (va_Pc [.ref (E 0), .int a1, .int a2, .int a3] (fun U => tc_WM D cI A E x U.heap ∧ va_K D vwCl (tc_ty cU cO cI) U)) (k2_QcV (.int r)) 0 0 (fun _ => False) := by
  refine Met.ofW (cc := cX3_ticksOf) (maxL := 10) (ret := (some .int)) (by decide) rfl ?_
  intro p e s m args below meth c s₁ B hml hv
  obtain ⟨rfl, hW, hK⟩ := hv
  have hx := B.exec
  have hb := B.bytes
  have hr := B.returns
  have hts := atoms_spec (ws := wsX3_ticksOf) B.pre
  have hown : s.vm.findClass RX3 = some m.cls := findClass_of_methodNamed B.named
  have hlocks := B.notSynchronized
  have hinX3 : ∀ w ∈ wsX30, w ∈ wsX3_ticksOf := fun w9 h9 => List.mem_cons_of_mem _ (List.mem_append_right _ h9)
  have hl := lv_entry ([.ref (E 0), .int a1, .int a2, .int a3]) (n := 10) (Nat.le_of_ble_eq_true rfl)
  rw [lg_entry_eq]
  generalize (lg_sl ([.ref (E 0), .int a1, .int a2, .int a3]) ++ List.replicate (10 - (lg_sl ([.ref (E 0), .int a1, .int a2, .int a3])).length) Slot.unset).toArray = ls at hl ⊢
  have hl : lv_has ls 10 [(0, .ref (E 0)), (1, .int a1), (2, .int a2), (3, .int a3)] := hl
  refine lv_aload_n hx hb dX3_ticksOf_0 rfl (lv_at hl 0 rfl) ?_
  refine lv_iload_n hx hb dX3_ticksOf_1 rfl (lv_at hl 2 rfl) ?_
  obtain ⟨r1, h2, hF⟩ := tc_bi hF
  refine tc_cr (W.runV (As := [.int a2]) (rest := []) ⟨hx, hb, hml, hown, hts⟩ (mt_X3_high l D cU cO cI A E x a2 r1 h2) (cwV 1 hts gX3_ticksOf_X3_high rfl rfl rfl (by decide +kernel) ⟨Nat.le_of_ble_eq_true rfl, Nat.le_of_ble_eq_true rfl⟩) ⟨fun a U g mk q => ⟨q.1, q.2.1, va_K.moved (Vm.Alike.refl U.vm) q.2.2⟩, tc_rcv (hW.1) hK rfl, fun U hU hW9 => ⟨rfl, by rw [hU]; exact hW, va_K.moved hW9.alike hK⟩⟩ rfl rfl hl.1 rfl (lv_room (Nat.le_of_ble_eq_true rfl)) dX3_ticksOf_2 ⟨Nat.le_of_ble_eq_true rfl, Nat.le_of_ble_eq_true rfl⟩) ?_
  refine lv_istore (lv' := [(4, .int r1), (0, .ref (E 0)), (1, .int a1), (2, .int a2), (3, .int a3)]) hx hb dX3_ticksOf_5 hl (by decide) rfl (fun ls hl => ?_)
  refine lv_aload_n hx hb dX3_ticksOf_7 rfl (lv_at hl 1 rfl) ?_
  refine lv_iload_n hx hb dX3_ticksOf_8 rfl (lv_at hl 4 rfl) ?_
  obtain ⟨r3, h4, hF⟩ := tc_bi hF
  refine tc_cr (W.runV (As := [.int a3]) (rest := []) ⟨hx, hb, hml, hown, hts⟩ (mt_X3_high l D cU cO cI A E x a3 r3 h4) (cwV 1 hts gX3_ticksOf_X3_high rfl rfl rfl (by decide +kernel) ⟨Nat.le_of_ble_eq_true rfl, Nat.le_of_ble_eq_true rfl⟩) ⟨fun a U g mk q => ⟨q.1, q.2.1, va_K.moved (Vm.Alike.refl U.vm) q.2.2⟩, tc_rcv (hW.1) hK rfl, fun U hU hW9 => ⟨rfl, by rw [hU]; exact hW, va_K.moved hW9.alike hK⟩⟩ rfl rfl hl.1 rfl (lv_room (Nat.le_of_ble_eq_true rfl)) dX3_ticksOf_9 ⟨Nat.le_of_ble_eq_true rfl, Nat.le_of_ble_eq_true rfl⟩) ?_
  refine lv_istore (lv' := [(5, .int r3), (4, .int r1), (0, .ref (E 0)), (1, .int a1), (2, .int a2), (3, .int a3)]) hx hb dX3_ticksOf_12 hl (by decide) rfl (fun ls hl => ?_)
  refine lv_aload_n hx hb dX3_ticksOf_14 rfl (lv_at hl 2 rfl) ?_
  refine tc_get (v := .ref (E 14)) hx hb hts hinX3 hown hK (hW.1) (C := RX3) (T := TX3) (N := 15) rfl 14 (by decide) (hts (.fieldLink RX3 40 "TreadCranesModel" "load" "[I") (List.mem_of_getElem? (i := 1) rfl)) (fun _ h9 => h9) rfl dX3_ticksOf_15 ?_
  refine lv_iload_n hx hb dX3_ticksOf_18 rfl (lv_at hl 3 rfl) ?_
  obtain ⟨g5, hF⟩ := tc_ob hF
  refine tc_iald (f := x 14) hx hb hK (hW.hi ⟨by decide, by decide⟩) 2 rfl g5 dX3_ticksOf_19 ?_
  refine lv_iconst (v := (-1)) hx hb dX3_ticksOf_20 (by decide) ?_
  refine lv_icmp_ne (tgt := 59) hx hb dX3_ticksOf_21 (by decide) (fun c6 => ?_) (fun c6 => ?_)
  · have hF := tc_if hF c6
    refine lv_iconst (v := (-1)) hx hb dX3_ticksOf_59 (by decide) ?_
    have h91 := Option.some.inj hF
    exact W.iret hx hb hr (fun t ht hW9 => ⟨by rw [← h91], ht⟩) (fun q h => absurd h List.not_mem_nil) dX3_ticksOf_60
  · have hF := tc_it hF c6
    refine lv_iload_n hx hb dX3_ticksOf_24 rfl (lv_at hl 4 rfl) ?_
    refine lv_iload_n hx hb dX3_ticksOf_25 rfl (lv_at hl 5 rfl) ?_
    refine lv_icmp_eq (tgt := 59) hx hb dX3_ticksOf_26 (by decide) (fun c7 => ?_) (fun c7 => ?_)
    · have hF := tc_it hF c7
      refine lv_iconst (v := (-1)) hx hb dX3_ticksOf_59 (by decide) ?_
      have h91 := Option.some.inj hF
      exact W.iret hx hb hr (fun t ht hW9 => ⟨by rw [← h91], ht⟩) (fun q h => absurd h List.not_mem_nil) dX3_ticksOf_60
    · have hF := tc_if hF c7
      refine lv_aload_n hx hb dX3_ticksOf_29 rfl (lv_at hl 2 rfl) ?_
      refine lv_iload_n hx hb dX3_ticksOf_30 rfl (lv_at hl 3 rfl) ?_
      refine lv_iload_n hx hb dX3_ticksOf_31 rfl (lv_at hl 4 rfl) ?_
      obtain ⟨r8, h9, hF⟩ := tc_bi hF
      refine tc_cr (W.runV (As := [.int a1, .int a2]) (rest := []) ⟨hx, hb, hml, hown, hts⟩ (mt_X3_isInReach l D cU cO cI A E x a1 a2 r8 h9) (cwV 2 hts gX3_ticksOf_X3_isInReach rfl rfl rfl (by decide +kernel) ⟨Nat.le_of_ble_eq_true rfl, Nat.le_of_ble_eq_true rfl⟩) ⟨fun a U g mk q => ⟨q.1, q.2.1, va_K.moved (Vm.Alike.refl U.vm) q.2.2⟩, tc_rcv (hW.1) hK rfl, fun U hU hW9 => ⟨rfl, by rw [hU]; exact hW, va_K.moved hW9.alike hK⟩⟩ rfl rfl hl.1 rfl (lv_room (Nat.le_of_ble_eq_true rfl)) dX3_ticksOf_32 ⟨Nat.le_of_ble_eq_true rfl, Nat.le_of_ble_eq_true rfl⟩) ?_
      refine lv_if_eq (tgt := 59) hx hb dX3_ticksOf_35 (by decide) (fun c10 => ?_) (fun c10 => ?_)
      · have hF := tc_it hF c10
        refine lv_iconst (v := (-1)) hx hb dX3_ticksOf_59 (by decide) ?_
        have h91 := Option.some.inj hF
        exact W.iret hx hb hr (fun t ht hW9 => ⟨by rw [← h91], ht⟩) (fun q h => absurd h List.not_mem_nil) dX3_ticksOf_60
      · have hF := tc_if hF c10
        refine lv_aload_n hx hb dX3_ticksOf_38 rfl (lv_at hl 2 rfl) ?_
        refine lv_iload_n hx hb dX3_ticksOf_39 rfl (lv_at hl 3 rfl) ?_
        refine lv_iload_n hx hb dX3_ticksOf_40 rfl (lv_at hl 5 rfl) ?_
        obtain ⟨r11, h12, hF⟩ := tc_bi hF
        refine tc_cr (W.runV (As := [.int a1, .int a3]) (rest := []) ⟨hx, hb, hml, hown, hts⟩ (mt_X3_isInReach l D cU cO cI A E x a1 a3 r11 h12) (cwV 2 hts gX3_ticksOf_X3_isInReach rfl rfl rfl (by decide +kernel) ⟨Nat.le_of_ble_eq_true rfl, Nat.le_of_ble_eq_true rfl⟩) ⟨fun a U g mk q => ⟨q.1, q.2.1, va_K.moved (Vm.Alike.refl U.vm) q.2.2⟩, tc_rcv (hW.1) hK rfl, fun U hU hW9 => ⟨rfl, by rw [hU]; exact hW, va_K.moved hW9.alike hK⟩⟩ rfl rfl hl.1 rfl (lv_room (Nat.le_of_ble_eq_true rfl)) dX3_ticksOf_41 ⟨Nat.le_of_ble_eq_true rfl, Nat.le_of_ble_eq_true rfl⟩) ?_
        refine lv_if_eq (tgt := 59) hx hb dX3_ticksOf_44 (by decide) (fun c13 => ?_) (fun c13 => ?_)
        · have hF := tc_it hF c13
          refine lv_iconst (v := (-1)) hx hb dX3_ticksOf_59 (by decide) ?_
          have h91 := Option.some.inj hF
          exact W.iret hx hb hr (fun t ht hW9 => ⟨by rw [← h91], ht⟩) (fun q h => absurd h List.not_mem_nil) dX3_ticksOf_60
        · have hF := tc_if hF c13
          refine lv_iload hx hb dX3_ticksOf_47 (lv_at hl 1 rfl) ?_
          refine lv_if_eq (tgt := 59) hx hb dX3_ticksOf_49 (by decide) (fun c14 => ?_) (fun c14 => ?_)
          · have hF := tc_it hF c14
            refine lv_iconst (v := (-1)) hx hb dX3_ticksOf_59 (by decide) ?_
            have h91 := Option.some.inj hF
            exact W.iret hx hb hr (fun t ht hW9 => ⟨by rw [← h91], ht⟩) (fun q h => absurd h List.not_mem_nil) dX3_ticksOf_60
          · have hF := tc_if hF c14
            refine lv_iload hx hb dX3_ticksOf_52 (lv_at hl 0 rfl) ?_
            refine lv_bipush (v := 8) hx hb dX3_ticksOf_54 (by decide) ?_
            refine lv_icmp_ne (tgt := 61) hx hb dX3_ticksOf_56 (by decide) (fun c15 => ?_) (fun c15 => ?_)
            · have hF := tc_if hF c15
              refine lv_aload_n hx hb dX3_ticksOf_61 rfl (lv_at hl 2 rfl) ?_
              refine tc_get (v := .ref (E 3)) hx hb hts hinX3 hown hK (hW.1) (C := RX3) (T := TX3) (N := 15) rfl 3 (by decide) (hts (.fieldLink RX3 9 "TreadCranesModel" "weight" "[I") (List.mem_of_getElem? (i := 2) rfl)) (fun _ h9 => h9) rfl dX3_ticksOf_62 ?_
              refine lv_aload_n hx hb dX3_ticksOf_65 rfl (lv_at hl 2 rfl) ?_
              refine lv_iload_n hx hb dX3_ticksOf_66 rfl (lv_at hl 4 rfl) ?_
              obtain ⟨r16, h17, hF⟩ := tc_bi hF
              refine tc_cr (W.runV (As := [.int a2]) (rest := [.ref (E 3)]) ⟨hx, hb, hml, hown, hts⟩ (mt_X3_top l D cU cO cI A E x a2 r16 h17) (cwV 1 hts gX3_ticksOf_X3_top rfl rfl rfl (by decide +kernel) ⟨Nat.le_of_ble_eq_true rfl, Nat.le_of_ble_eq_true rfl⟩) ⟨fun a U g mk q => ⟨q.1, q.2.1, va_K.moved (Vm.Alike.refl U.vm) q.2.2⟩, tc_rcv (hW.1) hK rfl, fun U hU hW9 => ⟨rfl, by rw [hU]; exact hW, va_K.moved hW9.alike hK⟩⟩ rfl rfl hl.1 rfl (lv_room (Nat.le_of_ble_eq_true rfl)) dX3_ticksOf_67 ⟨Nat.le_of_ble_eq_true rfl, Nat.le_of_ble_eq_true rfl⟩) ?_
              obtain ⟨g18, hF⟩ := tc_ob hF
              refine tc_iald (f := x 3) hx hb hK (hW.lo ⟨by decide, by decide⟩) 2 rfl g18 dX3_ticksOf_70 ?_
              refine lv_topi (fun v19 ev19 => ?_)
              have hF := tc_lt hF ev19
              refine lv_istore (lv' := [(6, .int v19), (5, .int r3), (4, .int r1), (0, .ref (E 0)), (1, .int a1), (2, .int a2), (3, .int a3)]) hx hb dX3_ticksOf_71 hl (by decide) rfl (fun ls hl => ?_)
              refine lv_iload hx hb dX3_ticksOf_73 (lv_at hl 0 rfl) ?_
              refine lv_aload_n hx hb dX3_ticksOf_75 rfl (lv_at hl 3 rfl) ?_
              refine lv_iload_n hx hb dX3_ticksOf_76 rfl (lv_at hl 4 rfl) ?_
              obtain ⟨r20, h21, hF⟩ := tc_bi hF
              refine tc_cr (W.runV (As := [.int a1]) (rest := [.int v19]) ⟨hx, hb, hml, hown, hts⟩ (mt_X3_strength l D cU cO cI A E x a1 r20 h21) (cwV 1 hts gX3_ticksOf_X3_strength rfl rfl rfl (by decide +kernel) ⟨Nat.le_of_ble_eq_true rfl, Nat.le_of_ble_eq_true rfl⟩) ⟨fun a U g mk q => ⟨q.1, q.2.1, va_K.moved (Vm.Alike.refl U.vm) q.2.2⟩, tc_rcv (hW.1) hK rfl, fun U hU hW9 => ⟨rfl, by rw [hU]; exact hW, va_K.moved hW9.alike hK⟩⟩ rfl rfl hl.1 rfl (lv_room (Nat.le_of_ble_eq_true rfl)) dX3_ticksOf_77 ⟨Nat.le_of_ble_eq_true rfl, Nat.le_of_ble_eq_true rfl⟩) ?_
              refine lv_icmp_le (tgt := 85) hx hb dX3_ticksOf_80 (by decide) (fun c22 => ?_) (fun c22 => ?_)
              · have hF := tc_it hF c22
                refine lv_aload_n hx hb dX3_ticksOf_85 rfl (lv_at hl 3 rfl) ?_
                refine tc_get (v := .ref (E 13)) hx hb hts hinX3 hown hK (hW.1) (C := RX3) (T := TX3) (N := 15) rfl 13 (by decide) (hts (.fieldLink RX3 37 "TreadCranesModel" "height" "[I") (List.mem_of_getElem? (i := 3) rfl)) (fun _ h9 => h9) rfl dX3_ticksOf_86 ?_
                refine lv_iload_n hx hb dX3_ticksOf_89 rfl (lv_at hl 4 rfl) ?_
                refine tc_iald (f := x 13) hx hb hK (hW.hi ⟨by decide, by decide⟩) 2 rfl g5 dX3_ticksOf_90 ?_
                refine lv_aload_n hx hb dX3_ticksOf_91 rfl (lv_at hl 3 rfl) ?_
                refine lv_aload_n hx hb dX3_ticksOf_92 rfl (lv_at hl 3 rfl) ?_
                refine tc_get (v := .ref (E 12)) hx hb hts hinX3 hown hK (hW.1) (C := RX3) (T := TX3) (N := 15) rfl 12 (by decide) (hts (.fieldLink RX3 34 "TreadCranesModel" "hook" "[I") (List.mem_of_getElem? (i := 4) rfl)) (fun _ h9 => h9) rfl dX3_ticksOf_93 ?_
                refine lv_iload_n hx hb dX3_ticksOf_96 rfl (lv_at hl 4 rfl) ?_
                refine tc_iald (f := x 12) hx hb hK (hW.hi ⟨by decide, by decide⟩) 2 rfl g5 dX3_ticksOf_97 ?_
                refine lv_iload_n hx hb dX3_ticksOf_98 rfl (lv_at hl 5 rfl) ?_
                refine lv_iconst (v := (-1)) hx hb dX3_ticksOf_99 (by decide) ?_
                obtain ⟨r23, h24, hF⟩ := tc_bi hF
                refine tc_cr (W.runV (As := [.int (x 12 a1.toNatClampNeg), .int a2, .int (-1)]) (rest := [.int (x 13 a1.toNatClampNeg)]) ⟨hx, hb, hml, hown, hts⟩ (mt_X3_highest l D cU cO cI A E x (x 12 a1.toNatClampNeg) a2 (-1) r23 h24) (cwV 3 hts gX3_ticksOf_X3_highest rfl rfl rfl (by decide +kernel) ⟨Nat.le_of_ble_eq_true rfl, Nat.le_of_ble_eq_true rfl⟩) ⟨fun a U g mk q => ⟨q.1, q.2.1, va_K.moved (Vm.Alike.refl U.vm) q.2.2⟩, tc_rcv (hW.1) hK rfl, fun U hU hW9 => ⟨rfl, by rw [hU]; exact hW, va_K.moved hW9.alike hK⟩⟩ rfl rfl hl.1 rfl (lv_room (Nat.le_of_ble_eq_true rfl)) dX3_ticksOf_100 ⟨Nat.le_of_ble_eq_true rfl, Nat.le_of_ble_eq_true rfl⟩) ?_
                refine va_mmax hx hb (by rw [hml]; exact hl.1.symm) hown (hts (.methodLink RX3 73 Lib.Math.max.name) (List.mem_of_getElem? (i := 5) rfl)) (hts (.static Lib.Math.max.name) (List.mem_of_getElem? (i := 6) rfl)) (hts (.initialized "java/lang/Math") (List.mem_of_getElem? (i := 7) rfl)) (hts (.code Lib.Math.max.name Lib.Math.max.code 2 (some .int)) (List.mem_of_getElem? (i := 8) rfl)) (Nat.le_of_ble_eq_true rfl) (Nat.le_of_ble_eq_true rfl) (Nat.le_of_ble_eq_true rfl) (Nat.le_of_ble_eq_true rfl) dX3_ticksOf_103 ?_
                refine lv_topi (fun v25 ev25 => ?_)
                have hF := tc_lt hF ev25
                refine lv_istore (lv' := [(7, .int v25), (6, .int v19), (5, .int r3), (4, .int r1), (0, .ref (E 0)), (1, .int a1), (2, .int a2), (3, .int a3)]) hx hb dX3_ticksOf_106 hl (by decide) rfl (fun ls hl => ?_)
                refine lv_iload hx hb dX3_ticksOf_108 (lv_at hl 3 rfl) ?_
                refine lv_aload_n hx hb dX3_ticksOf_110 rfl (lv_at hl 4 rfl) ?_
                refine lv_iload_n hx hb dX3_ticksOf_111 rfl (lv_at hl 6 rfl) ?_
                refine lv_iload_n hx hb dX3_ticksOf_112 rfl (lv_at hl 7 rfl) ?_
                refine lv_iload_n hx hb dX3_ticksOf_113 rfl (lv_at hl 6 rfl) ?_
                obtain ⟨r26, h27, hF⟩ := tc_bi hF
                refine tc_cr (W.runV (As := [.int a2, .int a3, .int a2]) (rest := [.int r1]) ⟨hx, hb, hml, hown, hts⟩ (mt_X3_highest l D cU cO cI A E x a2 a3 a2 r26 h27) (cwV 3 hts gX3_ticksOf_X3_highest rfl rfl rfl (by decide +kernel) ⟨Nat.le_of_ble_eq_true rfl, Nat.le_of_ble_eq_true rfl⟩) ⟨fun a U g mk q => ⟨q.1, q.2.1, va_K.moved (Vm.Alike.refl U.vm) q.2.2⟩, tc_rcv (hW.1) hK rfl, fun U hU hW9 => ⟨rfl, by rw [hU]; exact hW, va_K.moved hW9.alike hK⟩⟩ rfl rfl hl.1 rfl (lv_room (Nat.le_of_ble_eq_true rfl)) dX3_ticksOf_114 ⟨Nat.le_of_ble_eq_true rfl, Nat.le_of_ble_eq_true rfl⟩) ?_
                refine lv_iconst (v := 1) hx hb dX3_ticksOf_117 (by decide) ?_
                refine lv_iadd hx hb dX3_ticksOf_118 ?_
                refine va_mmax hx hb (by rw [hml]; exact hl.1.symm) hown (hts (.methodLink RX3 73 Lib.Math.max.name) (List.mem_of_getElem? (i := 5) rfl)) (hts (.static Lib.Math.max.name) (List.mem_of_getElem? (i := 6) rfl)) (hts (.initialized "java/lang/Math") (List.mem_of_getElem? (i := 7) rfl)) (hts (.code Lib.Math.max.name Lib.Math.max.code 2 (some .int)) (List.mem_of_getElem? (i := 8) rfl)) (Nat.le_of_ble_eq_true rfl) (Nat.le_of_ble_eq_true rfl) (Nat.le_of_ble_eq_true rfl) (Nat.le_of_ble_eq_true rfl) dX3_ticksOf_119 ?_
                refine lv_topi (fun v28 ev28 => ?_)
                have hF := tc_lt hF ev28
                refine lv_istore (lv' := [(8, .int v28), (7, .int v25), (6, .int v19), (5, .int r3), (4, .int r1), (0, .ref (E 0)), (1, .int a1), (2, .int a2), (3, .int a3)]) hx hb dX3_ticksOf_122 hl (by decide) rfl (fun ls hl => ?_)
                refine lv_aload_n hx hb dX3_ticksOf_124 rfl (lv_at hl 5 rfl) ?_
                refine lv_iload_n hx hb dX3_ticksOf_125 rfl (lv_at hl 6 rfl) ?_
                refine lv_iload hx hb dX3_ticksOf_126 (lv_at hl 0 rfl) ?_
                refine lv_iload hx hb dX3_ticksOf_128 (lv_at hl 3 rfl) ?_
                refine lv_isub hx hb dX3_ticksOf_130 ?_
                refine lv_iconst (v := 1) hx hb dX3_ticksOf_131 (by decide) ?_
                refine lv_isub hx hb dX3_ticksOf_132 ?_
                obtain ⟨r29, h30, hF⟩ := tc_bi hF
                refine tc_cr (W.runV (As := [.int a1, .int ((v28 - r3) - 1)]) (rest := []) ⟨hx, hb, hml, hown, hts⟩ (mt_X3_wound l D cU cO cI A E x a1 ((v28 - r3) - 1) r29 h30) (cwV 2 hts gX3_ticksOf_X3_wound rfl rfl rfl (by decide +kernel) ⟨Nat.le_of_ble_eq_true rfl, Nat.le_of_ble_eq_true rfl⟩) ⟨fun a U g mk q => ⟨q.1, q.2.1, va_K.moved (Vm.Alike.refl U.vm) q.2.2⟩, tc_rcv (hW.1) hK rfl, fun U hU hW9 => ⟨rfl, by rw [hU]; exact hW, va_K.moved hW9.alike hK⟩⟩ rfl rfl hl.1 rfl (lv_room (Nat.le_of_ble_eq_true rfl)) dX3_ticksOf_133 ⟨Nat.le_of_ble_eq_true rfl, Nat.le_of_ble_eq_true rfl⟩) ?_
                refine lv_istore (lv' := [(9, .int r29), (8, .int v28), (7, .int v25), (6, .int v19), (5, .int r3), (4, .int r1), (0, .ref (E 0)), (1, .int a1), (2, .int a2), (3, .int a3)]) hx hb dX3_ticksOf_136 hl (by decide) rfl (fun ls hl => ?_)
                refine lv_aload_n hx hb dX3_ticksOf_138 rfl (lv_at hl 6 rfl) ?_
                refine tc_get (v := .ref (E 11)) hx hb hts hinX3 hown hK (hW.1) (C := RX3) (T := TX3) (N := 15) rfl 11 (by decide) (hts (.fieldLink RX3 31 "TreadCranesModel" "worn" "[I") (List.mem_of_getElem? (i := 9) rfl)) (fun _ h9 => h9) rfl dX3_ticksOf_139 ?_
                refine lv_iload_n hx hb dX3_ticksOf_142 rfl (lv_at hl 7 rfl) ?_
                refine tc_iald (f := x 11) hx hb hK (hW.hi ⟨by decide, by decide⟩) 2 rfl g5 dX3_ticksOf_143 ?_
                refine lv_iload hx hb dX3_ticksOf_144 (lv_at hl 0 rfl) ?_
                refine lv_iload hx hb dX3_ticksOf_146 (lv_at hl 3 rfl) ?_
                refine lv_bipush (v := 20) hx hb dX3_ticksOf_148 (by decide) ?_
                refine lv_idiv hx hb dX3_ticksOf_150 (by decide) ?_
                refine lv_iconst (v := 1) hx hb dX3_ticksOf_151 (by decide) ?_
                refine lv_iadd hx hb dX3_ticksOf_152 ?_
                refine lv_imul hx hb dX3_ticksOf_153 ?_
                refine lv_iadd hx hb dX3_ticksOf_154 ?_
                refine lv_bipush (v := 99) hx hb dX3_ticksOf_155 (by decide) ?_
                refine lv_icmp_le (tgt := 162) hx hb dX3_ticksOf_157 (by decide) (fun c31 => ?_) (fun c31 => ?_)
                · have hF := tc_it hF c31
                  refine lv_aload_n hx hb dX3_ticksOf_162 rfl (lv_at hl 6 rfl) ?_
                  refine lv_iload_n hx hb dX3_ticksOf_163 rfl (lv_at hl 7 rfl) ?_
                  refine lv_iload hx hb dX3_ticksOf_164 (lv_at hl 2 rfl) ?_
                  refine lv_aload_n hx hb dX3_ticksOf_166 rfl (lv_at hl 6 rfl) ?_
                  refine tc_get (v := .ref (E 13)) hx hb hts hinX3 hown hK (hW.1) (C := RX3) (T := TX3) (N := 15) rfl 13 (by decide) (hts (.fieldLink RX3 37 "TreadCranesModel" "height" "[I") (List.mem_of_getElem? (i := 3) rfl)) (fun _ h9 => h9) rfl dX3_ticksOf_167 ?_
                  refine lv_iload_n hx hb dX3_ticksOf_170 rfl (lv_at hl 7 rfl) ?_
                  refine tc_iald (f := x 13) hx hb hK (hW.hi ⟨by decide, by decide⟩) 2 rfl g5 dX3_ticksOf_171 ?_
                  refine lv_isub hx hb dX3_ticksOf_172 ?_
                  obtain ⟨r32, h33, hF⟩ := tc_bi hF
                  refine tc_cr (W.runV (As := [.int a1, .int (v25 - (x 13 a1.toNatClampNeg))]) (rest := []) ⟨hx, hb, hml, hown, hts⟩ (mt_X3_wound l D cU cO cI A E x a1 (v25 - (x 13 a1.toNatClampNeg)) r32 h33) (cwV 2 hts gX3_ticksOf_X3_wound rfl rfl rfl (by decide +kernel) ⟨Nat.le_of_ble_eq_true rfl, Nat.le_of_ble_eq_true rfl⟩) ⟨fun a U g mk q => ⟨q.1, q.2.1, va_K.moved (Vm.Alike.refl U.vm) q.2.2⟩, tc_rcv (hW.1) hK rfl, fun U hU hW9 => ⟨rfl, by rw [hU]; exact hW, va_K.moved hW9.alike hK⟩⟩ rfl rfl hl.1 rfl (lv_room (Nat.le_of_ble_eq_true rfl)) dX3_ticksOf_173 ⟨Nat.le_of_ble_eq_true rfl, Nat.le_of_ble_eq_true rfl⟩) ?_
                  refine lv_aload_n hx hb dX3_ticksOf_176 rfl (lv_at hl 6 rfl) ?_
                  refine tc_get (v := .ref (E 12)) hx hb hts hinX3 hown hK (hW.1) (C := RX3) (T := TX3) (N := 15) rfl 12 (by decide) (hts (.fieldLink RX3 34 "TreadCranesModel" "hook" "[I") (List.mem_of_getElem? (i := 4) rfl)) (fun _ h9 => h9) rfl dX3_ticksOf_177 ?_
                  refine lv_iload_n hx hb dX3_ticksOf_180 rfl (lv_at hl 7 rfl) ?_
                  refine tc_iald (f := x 12) hx hb hK (hW.hi ⟨by decide, by decide⟩) 2 rfl g5 dX3_ticksOf_181 ?_
                  refine lv_iload_n hx hb dX3_ticksOf_182 rfl (lv_at hl 8 rfl) ?_
                  refine lv_isub hx hb dX3_ticksOf_183 ?_
                  refine va_mabs hx hb (by rw [hml]; exact hl.1.symm) hown (hts (.methodLink RX3 61 Lib.Math.abs.name) (List.mem_of_getElem? (i := 10) rfl)) (hts (.static Lib.Math.abs.name) (List.mem_of_getElem? (i := 11) rfl)) (hts (.initialized "java/lang/Math") (List.mem_of_getElem? (i := 7) rfl)) (hts (.code Lib.Math.abs.name Lib.Math.abs.code 1 (some .int)) (List.mem_of_getElem? (i := 12) rfl)) (Nat.le_of_ble_eq_true rfl) (Nat.le_of_ble_eq_true rfl) (Nat.le_of_ble_eq_true rfl) (Nat.le_of_ble_eq_true rfl) dX3_ticksOf_184 ?_
                  refine lv_topi (fun v34 ev34 => ?_)
                  have hF := tc_lt hF ev34
                  refine lv_iadd hx hb dX3_ticksOf_187 ?_
                  refine lv_aload_n hx hb dX3_ticksOf_188 rfl (lv_at hl 6 rfl) ?_
                  refine lv_iload_n hx hb dX3_ticksOf_189 rfl (lv_at hl 7 rfl) ?_
                  refine lv_iload hx hb dX3_ticksOf_190 (lv_at hl 2 rfl) ?_
                  refine lv_iload hx hb dX3_ticksOf_192 (lv_at hl 5 rfl) ?_
                  refine lv_isub hx hb dX3_ticksOf_194 ?_
                  obtain ⟨r35, h36, hF⟩ := tc_bi hF
                  refine tc_cr (W.runV (As := [.int a1, .int (v25 - r1)]) (rest := [.int (r32 + v34)]) ⟨hx, hb, hml, hown, hts⟩ (mt_X3_wound l D cU cO cI A E x a1 (v25 - r1) r35 h36) (cwV 2 hts gX3_ticksOf_X3_wound rfl rfl rfl (by decide +kernel) ⟨Nat.le_of_ble_eq_true rfl, Nat.le_of_ble_eq_true rfl⟩) ⟨fun a U g mk q => ⟨q.1, q.2.1, va_K.moved (Vm.Alike.refl U.vm) q.2.2⟩, tc_rcv (hW.1) hK rfl, fun U hU hW9 => ⟨rfl, by rw [hU]; exact hW, va_K.moved hW9.alike hK⟩⟩ rfl rfl hl.1 rfl (lv_room (Nat.le_of_ble_eq_true rfl)) dX3_ticksOf_195 ⟨Nat.le_of_ble_eq_true rfl, Nat.le_of_ble_eq_true rfl⟩) ?_
                  refine lv_iadd hx hb dX3_ticksOf_198 ?_
                  refine lv_aload_n hx hb dX3_ticksOf_199 rfl (lv_at hl 6 rfl) ?_
                  refine lv_iload_n hx hb dX3_ticksOf_200 rfl (lv_at hl 7 rfl) ?_
                  refine lv_iload hx hb dX3_ticksOf_201 (lv_at hl 1 rfl) ?_
                  refine lv_iload hx hb dX3_ticksOf_203 (lv_at hl 5 rfl) ?_
                  refine lv_isub hx hb dX3_ticksOf_205 ?_
                  obtain ⟨r37, h38, hF⟩ := tc_bi hF
                  refine tc_cr (W.runV (As := [.int a1, .int (v28 - r1)]) (rest := [.int ((r32 + v34) + r35)]) ⟨hx, hb, hml, hown, hts⟩ (mt_X3_wound l D cU cO cI A E x a1 (v28 - r1) r37 h38) (cwV 2 hts gX3_ticksOf_X3_wound rfl rfl rfl (by decide +kernel) ⟨Nat.le_of_ble_eq_true rfl, Nat.le_of_ble_eq_true rfl⟩) ⟨fun a U g mk q => ⟨q.1, q.2.1, va_K.moved (Vm.Alike.refl U.vm) q.2.2⟩, tc_rcv (hW.1) hK rfl, fun U hU hW9 => ⟨rfl, by rw [hU]; exact hW, va_K.moved hW9.alike hK⟩⟩ rfl rfl hl.1 rfl (lv_room (Nat.le_of_ble_eq_true rfl)) dX3_ticksOf_206 ⟨Nat.le_of_ble_eq_true rfl, Nat.le_of_ble_eq_true rfl⟩) ?_
                  refine lv_iadd hx hb dX3_ticksOf_209 ?_
                  refine lv_iload_n hx hb dX3_ticksOf_210 rfl (lv_at hl 8 rfl) ?_
                  refine lv_iload_n hx hb dX3_ticksOf_211 rfl (lv_at hl 9 rfl) ?_
                  refine lv_isub hx hb dX3_ticksOf_212 ?_
                  refine va_mabs hx hb (by rw [hml]; exact hl.1.symm) hown (hts (.methodLink RX3 61 Lib.Math.abs.name) (List.mem_of_getElem? (i := 10) rfl)) (hts (.static Lib.Math.abs.name) (List.mem_of_getElem? (i := 11) rfl)) (hts (.initialized "java/lang/Math") (List.mem_of_getElem? (i := 7) rfl)) (hts (.code Lib.Math.abs.name Lib.Math.abs.code 1 (some .int)) (List.mem_of_getElem? (i := 12) rfl)) (Nat.le_of_ble_eq_true rfl) (Nat.le_of_ble_eq_true rfl) (Nat.le_of_ble_eq_true rfl) (Nat.le_of_ble_eq_true rfl) dX3_ticksOf_213 ?_
                  refine lv_topi (fun v39 ev39 => ?_)
                  have hF := tc_lt hF ev39
                  refine lv_iadd hx hb dX3_ticksOf_216 ?_
                  refine lv_iload hx hb dX3_ticksOf_217 (lv_at hl 0 rfl) ?_
                  refine lv_iadd hx hb dX3_ticksOf_219 ?_
                  have h91 := Option.some.inj hF
                  exact W.iret hx hb hr (fun t ht hW9 => ⟨by rw [← h91], ht⟩) (fun q h => absurd h List.not_mem_nil) dX3_ticksOf_220
                · have hF := tc_if hF c31
                  refine lv_iconst (v := (-1)) hx hb dX3_ticksOf_160 (by decide) ?_
                  have h91 := Option.some.inj hF
                  exact W.iret hx hb hr (fun t ht hW9 => ⟨by rw [← h91], ht⟩) (fun q h => absurd h List.not_mem_nil) dX3_ticksOf_161
              · have hF := tc_if hF c22
                refine lv_iconst (v := (-1)) hx hb dX3_ticksOf_83 (by decide) ?_
                have h91 := Option.some.inj hF
                exact W.iret hx hb hr (fun t ht hW9 => ⟨by rw [← h91], ht⟩) (fun q h => absurd h List.not_mem_nil) dX3_ticksOf_84
            · have hF := tc_it hF c15
              refine lv_iconst (v := (-1)) hx hb dX3_ticksOf_59 (by decide) ?_
              have h91 := Option.some.inj hF
              exact W.iret hx hb hr (fun t ht hW9 => ⟨by rw [← h91], ht⟩) (fun q h => absurd h List.not_mem_nil) dX3_ticksOf_60
