def f_X2_isBetween (a1 : Int32) (a2 : Int32) (a3 : Int32) : Option (Int32) := (if a1 < a2 then some 0 else (if a3 < a1 then some 0 else some 1))
set_option maxHeartbeats 4000000 in
set_option maxRecDepth 100000 in
theorem mt_X2_isBetween (l : Launch)  (a1 : Int32) (a2 : Int32) (a3 : Int32) (r : Int32) (hF : f_X2_isBetween a1 a2 a3 = some r) : Met l yX2_isBetween wsX2_isBetween ({ frames := 0, cells := 0, slots := 0, locals := 0 } : Room) (va_Pc [.int a1, .int a2, .int a3] (fun _ => True)) (k2_QcV (.int r)) 0 0 (fun _ => False) := by
  refine Met.ofW (cc := cX2_isBetween) (maxL := 3) (ret := (some .boolean)) (by decide) rfl ?_
  intro p e s m args below meth c s₁ B hml hv
  obtain ⟨rfl, -⟩ := hv
  have hx := B.exec
  have hb := B.bytes
  have hr := B.returns
  have hts := atoms_spec (ws := wsX2_isBetween) B.pre
  have hown : s.vm.findClass RX2 = some m.cls := findClass_of_methodNamed B.named
  have hlocks := B.notSynchronized
  have hl := lv_entry ([.int a1, .int a2, .int a3]) (n := 3) (Nat.le_of_ble_eq_true rfl)
  rw [lg_entry_eq]
  generalize (lg_sl ([.int a1, .int a2, .int a3]) ++ List.replicate (3 - (lg_sl ([.int a1, .int a2, .int a3])).length) Slot.unset).toArray = ls at hl ⊢
  have hl : lv_has ls 3 [(0, .int a1), (1, .int a2), (2, .int a3)] := hl
  refine lv_iload_n hx hb dX2_isBetween_0 rfl (lv_at hl 0 rfl) ?_
  refine lv_iload_n hx hb dX2_isBetween_1 rfl (lv_at hl 1 rfl) ?_
  refine lv_icmp_lt (tgt := 14) hx hb dX2_isBetween_2 (by decide) (fun c1 => ?_) (fun c1 => ?_)
  · have hF := tc_it hF c1
    refine lv_iconst (v := 0) hx hb dX2_isBetween_14 (by decide) ?_
    have h91 := Option.some.inj hF
    exact W.zret hx hb hr rfl (fun t ht hW9 => ⟨by rw [← h91], ht⟩) (fun q h => absurd h List.not_mem_nil) dX2_isBetween_15
  · have hF := tc_if hF c1
    refine lv_iload_n hx hb dX2_isBetween_5 rfl (lv_at hl 0 rfl) ?_
    refine lv_iload_n hx hb dX2_isBetween_6 rfl (lv_at hl 2 rfl) ?_
    refine lv_icmp_gt (tgt := 14) hx hb dX2_isBetween_7 (by decide) (fun c2 => ?_) (fun c2 => ?_)
    · have hF := tc_it hF c2
      refine lv_iconst (v := 0) hx hb dX2_isBetween_14 (by decide) ?_
      have h91 := Option.some.inj hF
      exact W.zret hx hb hr rfl (fun t ht hW9 => ⟨by rw [← h91], ht⟩) (fun q h => absurd h List.not_mem_nil) dX2_isBetween_15
    · have hF := tc_if hF c2
      refine lv_iconst (v := 1) hx hb dX2_isBetween_10 (by decide) ?_
      refine lv_goto (tgt := 15) hx hb dX2_isBetween_11 (by decide) ?_
      have h91 := Option.some.inj hF
      exact W.zret hx hb hr rfl (fun t ht hW9 => ⟨by rw [← h91], ht⟩) (fun q h => absurd h List.not_mem_nil) dX2_isBetween_15

def f_X2_isPlace (a1 : Int32) : Option (Int32) := Option.bind (f_X2_isBetween a1 0 15) (fun r1 => (if r1 = 0 ∨ r1 = 1 then some r1 else none))
set_option maxHeartbeats 4000000 in
set_option maxRecDepth 100000 in
theorem mt_X2_isPlace (l : Launch)  (a1 : Int32) (r : Int32) (hF : f_X2_isPlace a1 = some r) : Met l yX2_isPlace wsX2_isPlace ({ frames := 1, cells := 0, slots := 0, locals := 22 } : Room) (va_Pc [.int a1] (fun _ => True)) (k2_QcV (.int r)) 0 0 (fun _ => False) := by
  refine Met.ofW (cc := cX2_isPlace) (maxL := 1) (ret := (some .boolean)) (by decide) rfl ?_
  intro p e s m args below meth c s₁ B hml hv
  obtain ⟨rfl, -⟩ := hv
  have hx := B.exec
  have hb := B.bytes
  have hr := B.returns
  have hts := atoms_spec (ws := wsX2_isPlace) B.pre
  have hown : s.vm.findClass RX2 = some m.cls := findClass_of_methodNamed B.named
  have hlocks := B.notSynchronized
  have hl := lv_entry ([.int a1]) (n := 1) (Nat.le_of_ble_eq_true rfl)
  rw [lg_entry_eq]
  generalize (lg_sl ([.int a1]) ++ List.replicate (1 - (lg_sl ([.int a1])).length) Slot.unset).toArray = ls at hl ⊢
  have hl : lv_has ls 1 [(0, .int a1)] := hl
  refine lv_iload_n hx hb dX2_isPlace_0 rfl (lv_at hl 0 rfl) ?_
  refine lv_iconst (v := 0) hx hb dX2_isPlace_1 (by decide) ?_
  refine lv_bipush (v := 15) hx hb dX2_isPlace_2 (by decide) ?_
  obtain ⟨r1, h2, hF⟩ := tc_bi hF
  refine tc_cr (W.runS (As := [.int a1, .int 0, .int 15]) (rest := []) ⟨hx, hb, hml, hown, hts⟩ (mt_X2_isBetween l   a1 0 15 r1 h2) (va_cwS 3 hts gX2_isPlace_X2_isBetween rfl rfl rfl (by decide +kernel) ⟨Nat.le_of_ble_eq_true rfl, Nat.le_of_ble_eq_true rfl⟩) ⟨fun a U g mk q => q, fun U hU hW9 => ⟨rfl, trivial⟩⟩ rfl rfl hl.1 rfl (lv_room (Nat.le_of_ble_eq_true rfl)) dX2_isPlace_4 ⟨Nat.le_of_ble_eq_true rfl, Nat.le_of_ble_eq_true rfl⟩) ?_
  obtain ⟨g3, hF⟩ := tc_ob hF
  have h91 := Option.some.inj hF
  exact W.zret hx hb hr (tc_nz g3) (fun t ht hW9 => ⟨by rw [← h91], ht⟩) (fun q h => absurd h List.not_mem_nil) dX2_isPlace_7

def f_X2_distance (a1 : Int32) (a2 : Int32) : Option (Int32) := tc_let (tc_abs (a1 - a2)) (fun v1 => some v1)
set_option maxHeartbeats 4000000 in
set_option maxRecDepth 100000 in
theorem mt_X2_distance (l : Launch)  (a1 : Int32) (a2 : Int32) (r : Int32) (hF : f_X2_distance a1 a2 = some r) : Met l yX2_distance wsX2_distance ({ frames := 1, cells := 0, slots := 0, locals := 13 } : Room) (va_Pc [.int a1, .int a2] (fun _ => True)) (k2_QcV (.int r)) 0 0 (fun _ => False) := by
  refine Met.ofW (cc := cX2_distance) (maxL := 2) (ret := (some .int)) (by decide) rfl ?_
  intro p e s m args below meth c s₁ B hml hv
  obtain ⟨rfl, -⟩ := hv
  have hx := B.exec
  have hb := B.bytes
  have hr := B.returns
  have hts := atoms_spec (ws := wsX2_distance) B.pre
  have hown : s.vm.findClass RX2 = some m.cls := findClass_of_methodNamed B.named
  have hlocks := B.notSynchronized
  have hl := lv_entry ([.int a1, .int a2]) (n := 2) (Nat.le_of_ble_eq_true rfl)
  rw [lg_entry_eq]
  generalize (lg_sl ([.int a1, .int a2]) ++ List.replicate (2 - (lg_sl ([.int a1, .int a2])).length) Slot.unset).toArray = ls at hl ⊢
  have hl : lv_has ls 2 [(0, .int a1), (1, .int a2)] := hl
  refine lv_iload_n hx hb dX2_distance_0 rfl (lv_at hl 0 rfl) ?_
  refine lv_iload_n hx hb dX2_distance_1 rfl (lv_at hl 1 rfl) ?_
  refine lv_isub hx hb dX2_distance_2 ?_
  refine va_mabs hx hb (by rw [hml]; exact hl.1.symm) hown (hts (.methodLink RX2 217 Lib.Math.abs.name) (List.mem_of_getElem? (i := 1) rfl)) (hts (.static Lib.Math.abs.name) (List.mem_of_getElem? (i := 2) rfl)) (hts (.initialized "java/lang/Math") (List.mem_of_getElem? (i := 3) rfl)) (hts (.code Lib.Math.abs.name Lib.Math.abs.code 1 (some .int)) (List.mem_of_getElem? (i := 4) rfl)) (Nat.le_of_ble_eq_true rfl) (Nat.le_of_ble_eq_true rfl) (Nat.le_of_ble_eq_true rfl) (Nat.le_of_ble_eq_true rfl) dX2_distance_3 ?_
  refine lv_topi (fun v1 ev1 => ?_)
  have hF := tc_lt hF ev1
  have h91 := Option.some.inj hF
  exact W.iret hx hb hr (fun t ht hW9 => ⟨by rw [← h91], ht⟩) (fun q h => absurd h List.not_mem_nil) dX2_distance_6

def f_X2_wearInATick (a1 : Int32) : Option (Int32) := some ((a1 / 20) + 1)
set_option maxHeartbeats 4000000 in
set_option maxRecDepth 100000 in
theorem mt_X2_wearInATick (l : Launch)  (a1 : Int32) (r : Int32) (hF : f_X2_wearInATick a1 = some r) : Met l yX2_wearInATick wsX2_wearInATick ({ frames := 0, cells := 0, slots := 0, locals := 0 } : Room) (va_Pc [.int a1] (fun _ => True)) (k2_QcV (.int r)) 0 0 (fun _ => False) := by
  refine Met.ofW (cc := cX2_wearInATick) (maxL := 1) (ret := (some .int)) (by decide) rfl ?_
  intro p e s m args below meth c s₁ B hml hv
  obtain ⟨rfl, -⟩ := hv
  have hx := B.exec
  have hb := B.bytes
  have hr := B.returns
  have hts := atoms_spec (ws := wsX2_wearInATick) B.pre
  have hown : s.vm.findClass RX2 = some m.cls := findClass_of_methodNamed B.named
  have hlocks := B.notSynchronized
  have hl := lv_entry ([.int a1]) (n := 1) (Nat.le_of_ble_eq_true rfl)
  rw [lg_entry_eq]
  generalize (lg_sl ([.int a1]) ++ List.replicate (1 - (lg_sl ([.int a1])).length) Slot.unset).toArray = ls at hl ⊢
  have hl : lv_has ls 1 [(0, .int a1)] := hl
  refine lv_iload_n hx hb dX2_wearInATick_0 rfl (lv_at hl 0 rfl) ?_
  refine lv_bipush (v := 20) hx hb dX2_wearInATick_1 (by decide) ?_
  refine lv_idiv hx hb dX2_wearInATick_3 (by decide) ?_
  refine lv_iconst (v := 1) hx hb dX2_wearInATick_4 (by decide) ?_
  refine lv_iadd hx hb dX2_wearInATick_5 ?_
  have h91 := Option.some.inj hF
  exact W.iret hx hb hr (fun t ht hW9 => ⟨by rw [← h91], ht⟩) (fun q h => absurd h List.not_mem_nil) dX2_wearInATick_6

def f_X1_strength (x : tc_X) (k0 : Nat) : Option (Int32) := (if k0 < tc_nc x then (if 1 ≤ (x.1 22 k0) then (if ¬ (x.1 22 k0) = 0 then some ((12 * (x.1 23 k0)) / (x.1 22 k0)) else none) else some 0) else none)
set_option maxHeartbeats 4000000 in
set_option maxRecDepth 100000 in
theorem mt_X1_strength (l : Launch) (D : va_G) (cU cO cI : ClassId) (e0 : Nat) (A : Nat → Prop) (E : Nat → Nat) (x : tc_X) (k0 : Nat) (r : Int32) (hF : f_X1_strength x k0 = some r) : Met l yX1_strength wsX1_strength ({ frames := 0, cells := 0, slots := 0, locals := 0 } : Room) (va_Pc [.ref (E (46 + k0))] (fun U => tc_WC D cU cO e0 A E x U.heap ∧ tc_KC D cU cO cI U)) (k2_QcV (.int r)) 0 0 (fun _ => False) := by
  refine Met.ofW (cc := cX1_strength) (maxL := 1) (ret := (some .int)) (by decide) rfl ?_
  intro p e s m args below meth c s₁ B hml hv
  obtain ⟨rfl, hW, hKC⟩ := hv
  have hx := B.exec
  have hb := B.bytes
  have hr := B.returns
  have hts := atoms_spec (ws := wsX1_strength) B.pre
  have hown : s.vm.findClass RX1 = some m.cls := findClass_of_methodNamed B.named
  have hlocks := B.notSynchronized
  have hK := hKC.1
  have hinX1 : ∀ w ∈ wsX10, w ∈ wsX1_strength := fun w9 h9 => List.mem_cons_of_mem _ (List.mem_append_right _ h9)
  have hl := lv_entry ([.ref (E (46 + k0))]) (n := 1) (Nat.le_of_ble_eq_true rfl)
  rw [lg_entry_eq]
  generalize (lg_sl ([.ref (E (46 + k0))]) ++ List.replicate (1 - (lg_sl ([.ref (E (46 + k0))])).length) Slot.unset).toArray = ls at hl ⊢
  have hl : lv_has ls 1 [(0, .ref (E (46 + k0)))] := hl
  refine lv_aload_n hx hb dX1_strength_0 rfl (lv_at hl 0 rfl) ?_
  obtain ⟨g1, hF⟩ := tc_ob hF
  refine tc_get (v := .int (x.1 22 k0)) hx hb hts hinX1 hown hK (hW.c g1) (C := RX1) (T := TX1) (N := 8) rfl 2 (by decide) (hts (.fieldLink RX1 21 "TreadCranes$Crane" "drum" "I") (List.mem_of_getElem? (i := 1) rfl)) (fun _ h9 => h9) rfl dX1_strength_1 ?_
  refine lv_iconst (v := 1) hx hb dX1_strength_4 (by decide) ?_
  refine lv_icmp_ge (tgt := 12) hx hb dX1_strength_5 (by decide) (fun c2 => ?_) (fun c2 => ?_)
  · have hF := tc_it hF c2
    refine lv_bipush (v := 12) hx hb dX1_strength_12 (by decide) ?_
    refine lv_aload_n hx hb dX1_strength_14 rfl (lv_at hl 0 rfl) ?_
    refine tc_get (v := .int (x.1 23 k0)) hx hb hts hinX1 hown hK (hW.c g1) (C := RX1) (T := TX1) (N := 8) rfl 3 (by decide) (hts (.fieldLink RX1 24 "TreadCranes$Crane" "walkers" "I") (List.mem_of_getElem? (i := 2) rfl)) (fun _ h9 => h9) rfl dX1_strength_15 ?_
    refine lv_imul hx hb dX1_strength_18 ?_
    refine lv_aload_n hx hb dX1_strength_19 rfl (lv_at hl 0 rfl) ?_
    refine tc_get (v := .int (x.1 22 k0)) hx hb hts hinX1 hown hK (hW.c g1) (C := RX1) (T := TX1) (N := 8) rfl 2 (by decide) (hts (.fieldLink RX1 21 "TreadCranes$Crane" "drum" "I") (List.mem_of_getElem? (i := 1) rfl)) (fun _ h9 => h9) rfl dX1_strength_20 ?_
    obtain ⟨g3, hF⟩ := tc_ob hF
    refine lv_idiv hx hb dX1_strength_23 g3 ?_
    have h91 := Option.some.inj hF
    exact W.iret hx hb hr (fun t ht hW9 => ⟨by rw [← h91], ht⟩) (fun q h => absurd h List.not_mem_nil) dX1_strength_24
  · have hF := tc_if hF c2
    refine lv_iconst (v := 0) hx hb dX1_strength_8 (by decide) ?_
    refine lv_goto (tgt := 24) hx hb dX1_strength_9 (by decide) ?_
    have h91 := Option.some.inj hF
    exact W.iret hx hb hr (fun t ht hW9 => ⟨by rw [← h91], ht⟩) (fun q h => absurd h List.not_mem_nil) dX1_strength_24

def f_X1_canLift (x : tc_X) (k0 : Nat) (a1 : Int32) : Option (Int32) := (if k0 < tc_nc x then Option.bind (f_X1_strength x k0) (fun r2 => (if r2 < a1 then some 0 else some 1)) else none)
set_option maxHeartbeats 4000000 in
set_option maxRecDepth 100000 in
theorem mt_X1_canLift (l : Launch) (D : va_G) (cU cO cI : ClassId) (e0 : Nat) (A : Nat → Prop) (E : Nat → Nat) (x : tc_X) (k0 : Nat) (a1 : Int32) (r : Int32) (hF : f_X1_canLift x k0 a1 = some r) : Met l yX1_canLift wsX1_canLift ({ frames := 1, cells := 0, slots := 0, locals := 20 } : Room) (va_Pc [.ref (E (46 + k0)), .int a1] (fun U => tc_WC D cU cO e0 A E x U.heap ∧ tc_KC D cU cO cI U)) (k2_QcV (.int r)) 0 0 (fun _ => False) := by
  refine Met.ofW (cc := cX1_canLift) (maxL := 2) (ret := (some .boolean)) (by decide) rfl ?_
  intro p e s m args below meth c s₁ B hml hv
  obtain ⟨rfl, hW, hKC⟩ := hv
  have hx := B.exec
  have hb := B.bytes
  have hr := B.returns
  have hts := atoms_spec (ws := wsX1_canLift) B.pre
  have hown : s.vm.findClass RX1 = some m.cls := findClass_of_methodNamed B.named
  have hlocks := B.notSynchronized
  have hK := hKC.1
  have hl := lv_entry ([.ref (E (46 + k0)), .int a1]) (n := 2) (Nat.le_of_ble_eq_true rfl)
  rw [lg_entry_eq]
  generalize (lg_sl ([.ref (E (46 + k0)), .int a1]) ++ List.replicate (2 - (lg_sl ([.ref (E (46 + k0)), .int a1])).length) Slot.unset).toArray = ls at hl ⊢
  have hl : lv_has ls 2 [(0, .ref (E (46 + k0))), (1, .int a1)] := hl
  refine lv_iload_n hx hb dX1_canLift_0 rfl (lv_at hl 1 rfl) ?_
  refine lv_aload_n hx hb dX1_canLift_1 rfl (lv_at hl 0 rfl) ?_
  obtain ⟨g1, hF⟩ := tc_ob hF
  obtain ⟨r2, h3, hF⟩ := tc_bi hF
  refine tc_cr (W.runV (As := []) (rest := [.int a1]) ⟨hx, hb, hml, hown, hts⟩ (mt_X1_strength l D cU cO cI e0 A E x k0 r2 h3) (cwV 0 hts gX1_canLift_X1_strength rfl rfl rfl (by decide +kernel) ⟨Nat.le_of_ble_eq_true rfl, Nat.le_of_ble_eq_true rfl⟩) ⟨fun a U g mk q => ⟨q.1, q.2.1, q.2.2.call⟩, tc_rcv (hW.c g1) hK rfl, fun U hU hW9 => ⟨rfl, by rw [hU]; exact hW, hKC.warm hW9⟩⟩ rfl rfl hl.1 rfl (lv_room (Nat.le_of_ble_eq_true rfl)) dX1_canLift_2 ⟨Nat.le_of_ble_eq_true rfl, Nat.le_of_ble_eq_true rfl⟩) ?_
  refine lv_icmp_gt (tgt := 12) hx hb dX1_canLift_5 (by decide) (fun c4 => ?_) (fun c4 => ?_)
  · have hF := tc_it hF c4
    refine lv_iconst (v := 0) hx hb dX1_canLift_12 (by decide) ?_
    have h91 := Option.some.inj hF
    exact W.zret hx hb hr rfl (fun t ht hW9 => ⟨by rw [← h91], ht⟩) (fun q h => absurd h List.not_mem_nil) dX1_canLift_13
  · have hF := tc_if hF c4
    refine lv_iconst (v := 1) hx hb dX1_canLift_8 (by decide) ?_
    refine lv_goto (tgt := 13) hx hb dX1_canLift_9 (by decide) ?_
    have h91 := Option.some.inj hF
    exact W.zret hx hb hr rfl (fun t ht hW9 => ⟨by rw [← h91], ht⟩) (fun q h => absurd h List.not_mem_nil) dX1_canLift_13

def f_X1_reaches (x : tc_X) (k0 : Nat) (a1 : Int32) : Option (Int32) := (if k0 < tc_nc x then Option.bind (f_X2_distance (x.1 20 k0) a1) (fun r2 => (if (x.1 21 k0) < r2 then some 0 else some 1)) else none)
set_option maxHeartbeats 4000000 in
set_option maxRecDepth 100000 in
theorem mt_X1_reaches (l : Launch) (D : va_G) (cU cO cI : ClassId) (e0 : Nat) (A : Nat → Prop) (E : Nat → Nat) (x : tc_X) (k0 : Nat) (a1 : Int32) (r : Int32) (hF : f_X1_reaches x k0 a1 = some r) : Met l yX1_reaches wsX1_reaches ({ frames := 2, cells := 0, slots := 0, locals := 34 } : Room) (va_Pc [.ref (E (46 + k0)), .int a1] (fun U => tc_WC D cU cO e0 A E x U.heap ∧ tc_KC D cU cO cI U)) (k2_QcV (.int r)) 0 0 (fun _ => False) := by
  refine Met.ofW (cc := cX1_reaches) (maxL := 2) (ret := (some .boolean)) (by decide) rfl ?_
  intro p e s m args below meth c s₁ B hml hv
  obtain ⟨rfl, hW, hKC⟩ := hv
  have hx := B.exec
  have hb := B.bytes
  have hr := B.returns
  have hts := atoms_spec (ws := wsX1_reaches) B.pre
  have hown : s.vm.findClass RX1 = some m.cls := findClass_of_methodNamed B.named
  have hlocks := B.notSynchronized
  have hK := hKC.1
  have hinX1 : ∀ w ∈ wsX10, w ∈ wsX1_reaches := fun w9 h9 => List.mem_cons_of_mem _ (List.mem_append_right _ h9)
  have hl := lv_entry ([.ref (E (46 + k0)), .int a1]) (n := 2) (Nat.le_of_ble_eq_true rfl)
  rw [lg_entry_eq]
  generalize (lg_sl ([.ref (E (46 + k0)), .int a1]) ++ List.replicate (2 - (lg_sl ([.ref (E (46 + k0)), .int a1])).length) Slot.unset).toArray = ls at hl ⊢
  have hl : lv_has ls 2 [(0, .ref (E (46 + k0))), (1, .int a1)] := hl
  refine lv_aload_n hx hb dX1_reaches_0 rfl (lv_at hl 0 rfl) ?_
  obtain ⟨g1, hF⟩ := tc_ob hF
  refine tc_get (v := .int (x.1 20 k0)) hx hb hts hinX1 hown hK (hW.c g1) (C := RX1) (T := TX1) (N := 8) rfl 0 (by decide) (hts (.fieldLink RX1 15 "TreadCranes$Crane" "place" "I") (List.mem_of_getElem? (i := 1) rfl)) (fun _ h9 => h9) rfl dX1_reaches_1 ?_
  refine lv_iload_n hx hb dX1_reaches_4 rfl (lv_at hl 1 rfl) ?_
  obtain ⟨r2, h3, hF⟩ := tc_bi hF
  refine tc_crR (va_runSN (As := [.int (x.1 20 k0), .int a1]) (rest := []) ⟨hx, hb, hml, hown, hts⟩ (mt_X2_distance l   (x.1 20 k0) a1 r2 h3) ⟨va_cnB 2 hts gX1_reaches_X2_distance_n34 rfl rfl rfl hKC.2.1 (hts (.initialized RX2) (List.mem_of_getElem? (i := 4) rfl)) (by decide +kernel) ⟨Nat.le_of_ble_eq_true rfl, Nat.le_of_ble_eq_true rfl⟩, hts (.static yX2_distance) (List.mem_of_getElem? (i := 3) rfl), trivial⟩ ⟨fun a U g mk q => q, fun U hU hW9 => ⟨rfl, trivial⟩⟩ rfl rfl hl.1 rfl (lv_room (Nat.le_of_ble_eq_true rfl)) dX1_reaches_5 ⟨Nat.le_of_ble_eq_true rfl, Nat.le_of_ble_eq_true rfl⟩) ?_
  refine lv_aload_n hx hb dX1_reaches_8 rfl (lv_at hl 0 rfl) ?_
  refine tc_get (v := .int (x.1 21 k0)) hx hb hts hinX1 hown hK (hW.c g1) (C := RX1) (T := TX1) (N := 8) rfl 1 (by decide) (hts (.fieldLink RX1 18 "TreadCranes$Crane" "reach" "I") (List.mem_of_getElem? (i := 2) rfl)) (fun _ h9 => h9) rfl dX1_reaches_9 ?_
  refine lv_icmp_gt (tgt := 19) hx hb dX1_reaches_12 (by decide) (fun c4 => ?_) (fun c4 => ?_)
  · have hF := tc_it hF c4
    refine lv_iconst (v := 0) hx hb dX1_reaches_19 (by decide) ?_
    have h91 := Option.some.inj hF
    exact W.zret hx hb hr rfl (fun t ht hW9 => ⟨by rw [← h91], ht⟩) (fun q h => absurd h List.not_mem_nil) dX1_reaches_20
  · have hF := tc_if hF c4
    refine lv_iconst (v := 1) hx hb dX1_reaches_15 (by decide) ?_
    refine lv_goto (tgt := 20) hx hb dX1_reaches_16 (by decide) ?_
    have h91 := Option.some.inj hF
    exact W.zret hx hb hr rfl (fun t ht hW9 => ⟨by rw [← h91], ht⟩) (fun q h => absurd h List.not_mem_nil) dX1_reaches_20

def f_X1_ticksToWind (x : tc_X) (k0 : Nat) (a1 : Int32) : Option (Int32) := (if k0 < tc_nc x then (if 1 ≤ (x.1 22 k0) then (if ¬ (x.1 22 k0) = 0 then some (((a1 + (x.1 22 k0)) - 1) / (x.1 22 k0)) else none) else some 0) else none)
set_option maxHeartbeats 4000000 in
set_option maxRecDepth 100000 in
theorem mt_X1_ticksToWind (l : Launch) (D : va_G) (cU cO cI : ClassId) (e0 : Nat) (A : Nat → Prop) (E : Nat → Nat) (x : tc_X) (k0 : Nat) (a1 : Int32) (r : Int32) (hF : f_X1_ticksToWind x k0 a1 = some r) : Met l yX1_ticksToWind wsX1_ticksToWind ({ frames := 0, cells := 0, slots := 0, locals := 0 } : Room) (va_Pc [.ref (E (46 + k0)), .int a1] (fun U => tc_WC D cU cO e0 A E x U.heap ∧ tc_KC D cU cO cI U)) (k2_QcV (.int r)) 0 0 (fun _ => False) := by
  refine Met.ofW (cc := cX1_ticksToWind) (maxL := 2) (ret := (some .int)) (by decide) rfl ?_
  intro p e s m args below meth c s₁ B hml hv
  obtain ⟨rfl, hW, hKC⟩ := hv
  have hx := B.exec
  have hb := B.bytes
  have hr := B.returns
  have hts := atoms_spec (ws := wsX1_ticksToWind) B.pre
  have hown : s.vm.findClass RX1 = some m.cls := findClass_of_methodNamed B.named
  have hlocks := B.notSynchronized
  have hK := hKC.1
  have hinX1 : ∀ w ∈ wsX10, w ∈ wsX1_ticksToWind := fun w9 h9 => List.mem_cons_of_mem _ (List.mem_append_right _ h9)
  have hl := lv_entry ([.ref (E (46 + k0)), .int a1]) (n := 2) (Nat.le_of_ble_eq_true rfl)
  rw [lg_entry_eq]
  generalize (lg_sl ([.ref (E (46 + k0)), .int a1]) ++ List.replicate (2 - (lg_sl ([.ref (E (46 + k0)), .int a1])).length) Slot.unset).toArray = ls at hl ⊢
  have hl : lv_has ls 2 [(0, .ref (E (46 + k0))), (1, .int a1)] := hl
  refine lv_aload_n hx hb dX1_ticksToWind_0 rfl (lv_at hl 0 rfl) ?_
  obtain ⟨g1, hF⟩ := tc_ob hF
  refine tc_get (v := .int (x.1 22 k0)) hx hb hts hinX1 hown hK (hW.c g1) (C := RX1) (T := TX1) (N := 8) rfl 2 (by decide) (hts (.fieldLink RX1 21 "TreadCranes$Crane" "drum" "I") (List.mem_of_getElem? (i := 1) rfl)) (fun _ h9 => h9) rfl dX1_ticksToWind_1 ?_
  refine lv_iconst (v := 1) hx hb dX1_ticksToWind_4 (by decide) ?_
  refine lv_icmp_ge (tgt := 12) hx hb dX1_ticksToWind_5 (by decide) (fun c2 => ?_) (fun c2 => ?_)
  · have hF := tc_it hF c2
    refine lv_iload_n hx hb dX1_ticksToWind_12 rfl (lv_at hl 1 rfl) ?_
    refine lv_aload_n hx hb dX1_ticksToWind_13 rfl (lv_at hl 0 rfl) ?_
    refine tc_get (v := .int (x.1 22 k0)) hx hb hts hinX1 hown hK (hW.c g1) (C := RX1) (T := TX1) (N := 8) rfl 2 (by decide) (hts (.fieldLink RX1 21 "TreadCranes$Crane" "drum" "I") (List.mem_of_getElem? (i := 1) rfl)) (fun _ h9 => h9) rfl dX1_ticksToWind_14 ?_
    refine lv_iadd hx hb dX1_ticksToWind_17 ?_
    refine lv_iconst (v := 1) hx hb dX1_ticksToWind_18 (by decide) ?_
    refine lv_isub hx hb dX1_ticksToWind_19 ?_
    refine lv_aload_n hx hb dX1_ticksToWind_20 rfl (lv_at hl 0 rfl) ?_
    refine tc_get (v := .int (x.1 22 k0)) hx hb hts hinX1 hown hK (hW.c g1) (C := RX1) (T := TX1) (N := 8) rfl 2 (by decide) (hts (.fieldLink RX1 21 "TreadCranes$Crane" "drum" "I") (List.mem_of_getElem? (i := 1) rfl)) (fun _ h9 => h9) rfl dX1_ticksToWind_21 ?_
    obtain ⟨g3, hF⟩ := tc_ob hF
    refine lv_idiv hx hb dX1_ticksToWind_24 g3 ?_
    have h91 := Option.some.inj hF
    exact W.iret hx hb hr (fun t ht hW9 => ⟨by rw [← h91], ht⟩) (fun q h => absurd h List.not_mem_nil) dX1_ticksToWind_25
  · have hF := tc_if hF c2
    refine lv_iconst (v := 0) hx hb dX1_ticksToWind_8 (by decide) ?_
    refine lv_goto (tgt := 25) hx hb dX1_ticksToWind_9 (by decide) ?_
    have h91 := Option.some.inj hF
    exact W.iret hx hb hr (fun t ht hW9 => ⟨by rw [← h91], ht⟩) (fun q h => absurd h List.not_mem_nil) dX1_ticksToWind_25

def f_X1_lowestHook (x : tc_X) (k0 : Nat) (a1 : Int32) : Option (Int32) := (if k0 < tc_nc x then (tc_oc (x.2.1 2 k0) (some a1) (fun j3 => some (a1 + 1))) else none)
set_option maxHeartbeats 4000000 in
set_option maxRecDepth 100000 in
theorem mt_X1_lowestHook (l : Launch) (D : va_G) (cU cO cI : ClassId) (e0 : Nat) (A : Nat → Prop) (E : Nat → Nat) (x : tc_X) (k0 : Nat) (a1 : Int32) (r : Int32) (hF : f_X1_lowestHook x k0 a1 = some r) : Met l yX1_lowestHook wsX1_lowestHook ({ frames := 0, cells := 0, slots := 0, locals := 0 } : Room) (va_Pc [.ref (E (46 + k0)), .int a1] (fun U => tc_WC D cU cO e0 A E x U.heap ∧ tc_KC D cU cO cI U)) (k2_QcV (.int r)) 0 0 (fun _ => False) := by
  refine Met.ofW (cc := cX1_lowestHook) (maxL := 2) (ret := (some .int)) (by decide) rfl ?_
  intro p e s m args below meth c s₁ B hml hv
  obtain ⟨rfl, hW, hKC⟩ := hv
  have hx := B.exec
  have hb := B.bytes
  have hr := B.returns
  have hts := atoms_spec (ws := wsX1_lowestHook) B.pre
  have hown : s.vm.findClass RX1 = some m.cls := findClass_of_methodNamed B.named
  have hlocks := B.notSynchronized
  have hK := hKC.1
  have hinX1 : ∀ w ∈ wsX10, w ∈ wsX1_lowestHook := fun w9 h9 => List.mem_cons_of_mem _ (List.mem_append_right _ h9)
  have hl := lv_entry ([.ref (E (46 + k0)), .int a1]) (n := 2) (Nat.le_of_ble_eq_true rfl)
  rw [lg_entry_eq]
  generalize (lg_sl ([.ref (E (46 + k0)), .int a1]) ++ List.replicate (2 - (lg_sl ([.ref (E (46 + k0)), .int a1])).length) Slot.unset).toArray = ls at hl ⊢
  have hl : lv_has ls 2 [(0, .ref (E (46 + k0))), (1, .int a1)] := hl
  refine lv_aload_n hx hb dX1_lowestHook_0 rfl (lv_at hl 0 rfl) ?_
  obtain ⟨g1, hF⟩ := tc_ob hF
  refine tc_get (v := va_rf (tc_ad E 6 (x.2.1 2 k0))) hx hb hts hinX1 hown hK (hW.c g1) (C := RX1) (T := TX1) (N := 8) rfl 7 (by decide) (hts (.fieldLink RX1 38 "TreadCranes$Crane" "load" "LTreadCranes$Barrel;") (List.mem_of_getElem? (i := 1) rfl)) (fun _ h9 => h9) rfl dX1_lowestHook_1 ?_
  refine tc_opt (fun o2 => ?_) (fun j3 o2 => ?_)
  · have hF := tc_on hF o2
    refine lv_ifnonnullN hx hb dX1_lowestHook_4 ?_
    refine lv_iload_n hx hb dX1_lowestHook_7 rfl (lv_at hl 1 rfl) ?_
    refine lv_goto (tgt := 14) hx hb dX1_lowestHook_8 (by decide) ?_
    have h91 := Option.some.inj hF
    exact W.iret hx hb hr (fun t ht hW9 => ⟨by rw [← h91], ht⟩) (fun q h => absurd h List.not_mem_nil) dX1_lowestHook_14
  · have hF := tc_os hF o2
    refine lv_ifnonnull (tgt := 11) hx hb dX1_lowestHook_4 (by decide) ?_
    refine lv_iload_n hx hb dX1_lowestHook_11 rfl (lv_at hl 1 rfl) ?_
    refine lv_iconst (v := 1) hx hb dX1_lowestHook_12 (by decide) ?_
    refine lv_iadd hx hb dX1_lowestHook_13 ?_
    have h91 := Option.some.inj hF
    exact W.iret hx hb hr (fun t ht hW9 => ⟨by rw [← h91], ht⟩) (fun q h => absurd h List.not_mem_nil) dX1_lowestHook_14

def f_X1_wornAfterLowering (x : tc_X) (k0 : Nat) (a1 : Int32) (a2 : Int32) : Option (Int32) := (if k0 < tc_nc x then Option.bind (f_X2_wearInATick a1) (fun r2 => some ((x.1 24 k0) + (a2 * r2))) else none)
set_option maxHeartbeats 4000000 in
set_option maxRecDepth 100000 in
theorem mt_X1_wornAfterLowering (l : Launch) (D : va_G) (cU cO cI : ClassId) (e0 : Nat) (A : Nat → Prop) (E : Nat → Nat) (x : tc_X) (k0 : Nat) (a1 : Int32) (a2 : Int32) (r : Int32) (hF : f_X1_wornAfterLowering x k0 a1 a2 = some r) : Met l yX1_wornAfterLowering wsX1_wornAfterLowering ({ frames := 1, cells := 0, slots := 0, locals := 20 } : Room) (va_Pc [.ref (E (46 + k0)), .int a1, .int a2] (fun U => tc_WC D cU cO e0 A E x U.heap ∧ tc_KC D cU cO cI U)) (k2_QcV (.int r)) 0 0 (fun _ => False) := by
  refine Met.ofW (cc := cX1_wornAfterLowering) (maxL := 3) (ret := (some .int)) (by decide) rfl ?_
  intro p e s m args below meth c s₁ B hml hv
  obtain ⟨rfl, hW, hKC⟩ := hv
  have hx := B.exec
  have hb := B.bytes
  have hr := B.returns
  have hts := atoms_spec (ws := wsX1_wornAfterLowering) B.pre
  have hown : s.vm.findClass RX1 = some m.cls := findClass_of_methodNamed B.named
  have hlocks := B.notSynchronized
  have hK := hKC.1
  have hinX1 : ∀ w ∈ wsX10, w ∈ wsX1_wornAfterLowering := fun w9 h9 => List.mem_cons_of_mem _ (List.mem_append_right _ h9)
  have hl := lv_entry ([.ref (E (46 + k0)), .int a1, .int a2]) (n := 3) (Nat.le_of_ble_eq_true rfl)
  rw [lg_entry_eq]
  generalize (lg_sl ([.ref (E (46 + k0)), .int a1, .int a2]) ++ List.replicate (3 - (lg_sl ([.ref (E (46 + k0)), .int a1, .int a2])).length) Slot.unset).toArray = ls at hl ⊢
  have hl : lv_has ls 3 [(0, .ref (E (46 + k0))), (1, .int a1), (2, .int a2)] := hl
  refine lv_aload_n hx hb dX1_wornAfterLowering_0 rfl (lv_at hl 0 rfl) ?_
  obtain ⟨g1, hF⟩ := tc_ob hF
  refine tc_get (v := .int (x.1 24 k0)) hx hb hts hinX1 hown hK (hW.c g1) (C := RX1) (T := TX1) (N := 8) rfl 4 (by decide) (hts (.fieldLink RX1 42 "TreadCranes$Crane" "worn" "I") (List.mem_of_getElem? (i := 1) rfl)) (fun _ h9 => h9) rfl dX1_wornAfterLowering_1 ?_
  refine lv_iload_n hx hb dX1_wornAfterLowering_4 rfl (lv_at hl 2 rfl) ?_
  refine lv_iload_n hx hb dX1_wornAfterLowering_5 rfl (lv_at hl 1 rfl) ?_
  obtain ⟨r2, h3, hF⟩ := tc_bi hF
  refine tc_crR (va_runSN (As := [.int a1]) (rest := [.int a2, .int (x.1 24 k0)]) ⟨hx, hb, hml, hown, hts⟩ (mt_X2_wearInATick l   a1 r2 h3) ⟨va_cnB 1 hts gX1_wornAfterLowering_X2_wearInATick_n45 rfl rfl rfl hKC.2.2 (hts (.initialized RX2) (List.mem_of_getElem? (i := 3) rfl)) (by decide +kernel) ⟨Nat.le_of_ble_eq_true rfl, Nat.le_of_ble_eq_true rfl⟩, hts (.static yX2_wearInATick) (List.mem_of_getElem? (i := 2) rfl), trivial⟩ ⟨fun a U g mk q => q, fun U hU hW9 => ⟨rfl, trivial⟩⟩ rfl rfl hl.1 rfl (lv_room (Nat.le_of_ble_eq_true rfl)) dX1_wornAfterLowering_6 ⟨Nat.le_of_ble_eq_true rfl, Nat.le_of_ble_eq_true rfl⟩) ?_
  refine lv_imul hx hb dX1_wornAfterLowering_9 ?_
  refine lv_iadd hx hb dX1_wornAfterLowering_10 ?_
  have h91 := Option.some.inj hF
  exact W.iret hx hb hr (fun t ht hW9 => ⟨by rw [← h91], ht⟩) (fun q h => absurd h List.not_mem_nil) dX1_wornAfterLowering_11
