/-! Constructors (written by wip/whole/hand1.py). -/
section TCI
variable {p : Program} {l : Launch} {e : Env} {R : Room} {s : State} {m : MethodId} {args : Array Value} {below : List Frame} {meth : Method} {c : Code} {H : Heap} {locs : List Loc} {cells slots : Nat} {Q : State → Prop}
variable {cc : ByteArray} {pc : Nat} {ls : Array Slot} {rest : List Value} {D : va_G} {cl : List vw_C} {tys : List (ClassId × FieldType)} {A : Nat → Prop} {H0 : Heap} {a : Nat} {ws : va_W}
theorem tc_newaI (hexec : p.tables.exec = Jvm.exec) (hb : c.code = cc) (harr : (Cond.arrayClass .int).before args s = true) (hK : va_K D cl tys s) (hP : va_P D cl ws H) (hD : va_D A ws) (hS : va_S A H0 H locs) (hA : ∀ q, H0.size ≤ q → A q)
    {n : Int32} {N : Nat} (hn : ¬ n < 0) (hN : n.toNatClampNeg = N) (hbytes : N * 4 ≤ 536870912) (hcells : cells + 1 ≤ R.cells) (hslots : slots + N ≤ R.slots) (hdg : decode cc pc = .ok (.newarray .int, 2)) {cI : ClassId} (t0 : Nat) (ht : tys[t0]? = some (cI, .int))
    (kk : ∀ (q : Nat) (H1 : Heap), va_P D cl (ws ++ [(q, .inl (cI, N, .inl (fun _ : Nat => (0 : Int32))))]) H1 → va_D A (ws ++ [(q, .inl (cI, N, .inl (fun _ : Nat => (0 : Int32))))]) → va_S A H0 H1 locs →
      W p l e R s m args below meth c H1 locs (cells + 1) (slots + N) Q (F0 m (pc + 2) ls (.ref q :: rest))) : W p l e R s m args below meth c H locs cells slots Q (F0 m pc ls (.int n :: rest)) := by
  refine va_newa (atype := .int) hexec hb harr rfl hK hP hD hS hA (a0 := (N, .inl (fun _ : Nat => (0 : Int32)))) (fun _ => rfl) hn hN hbytes hcells hslots hdg (fun q cA H1 hK1 hP1 hD1 hS1 => ?_)
  have h1 : s.vm.findClass ("[" ++ FieldType.int.toString) = some cA := (hK1.2 tys.length (cA, .int) (by rw [List.getElem?_append_right (Nat.le_refl _), Nat.sub_self]; rfl)).2
  have hc : cA = cI := Option.some.inj (h1.symm.trans (hK.2 t0 _ ht).2)
  subst hc
  exact kk q H1 hP1 hD1 hS1
theorem tc_newaQ (hexec : p.tables.exec = Jvm.exec) (hb : c.code = cc) {own C : String} {index : Nat} (hown : s.vm.findClass own = some m.cls) (hclink : (Cond.classLink own index C).before args s = true) (hover : va_AO C s) (hK : va_K D cl tys s) (hP : va_P D cl ws H) (hD : va_D A ws) (hS : va_S A H0 H locs) (hA : ∀ q, H0.size ≤ q → A q)
    {n : Int32} {N : Nat} (hn : ¬ n < 0) (hN : n.toNatClampNeg = N) (hbytes : N * 4 ≤ 536870912) (hcells : cells + 1 ≤ R.cells) (hslots : slots + N ≤ R.slots) (hdg : decode cc pc = .ok (.anewarray index, 3)) {cI : ClassId} (t0 : Nat) (ht : tys[t0]? = some (cI, .object C))
    (kk : ∀ (q : Nat) (H1 : Heap), va_P D cl (ws ++ [(q, .inl (cI, N, .inr (.inr (.inr (.inr (fun _ : Nat => none))))))]) H1 → va_D A (ws ++ [(q, .inl (cI, N, .inr (.inr (.inr (.inr (fun _ : Nat => none))))))]) → va_S A H0 H1 locs →
      W p l e R s m args below meth c H1 locs (cells + 1) (slots + N) Q (F0 m (pc + 3) ls (.ref q :: rest))) : W p l e R s m args below meth c H locs cells slots Q (F0 m pc ls (.int n :: rest)) := by
  refine va_newq hexec hb hown hclink hover hK hP hD hS hA hn hN hbytes hcells hslots hdg (fun q cA H1 hK1 hP1 hD1 hS1 => ?_)
  obtain ⟨_, _, _, _, _, h1⟩ := (hK1.2 tys.length (cA, .object C) (by rw [List.getElem?_append_right (Nat.le_refl _), Nat.sub_self]; rfl)).2
  obtain ⟨_, _, _, _, _, h2⟩ := (hK.2 t0 _ ht).2
  have hc : cA = cI := Option.some.inj (h1.symm.trans h2)
  subst hc
  exact kk q H1 hP1 hD1 hS1
/-- behind a call that changes one cell -/
theorem tc_PW {H1 : Heap} {k : Nat} {w w' : va_E} (hP : va_P D cl ws H) (hD : va_D A ws) (ha : ws[k]? = some (a, w)) (he : va_at D cl (a, w') H1) (o : ∀ z : Nat, z < H.size → ¬ z = a → H1[z]? = H[z]?) : va_P D cl (ws.set k (a, w')) H1 := by
  have hl := (List.getElem?_eq_some_iff.mp ha).1
  intro j q hj
  by_cases hjk : j = k
  · subst hjk
    rw [List.getElem?_set_self hl] at hj
    cases hj; exact he
  · rw [List.getElem?_set_ne (fun z => hjk z.symm)] at hj
    have h0 := hP j q hj
    exact h0.kept (o _ h0.lt (fun z => hjk (hD.1 _ _ _ _ hj ha z)))
end TCI
set_option maxHeartbeats 4000000 in
set_option maxRecDepth 100000 in
theorem mt_X0_init (l : Launch) (D : va_G) (q : Nat) (n w : Int32) : Met l yX0_init wsX0_init ({ frames := 1, cells := 0, slots := 0, locals := 12 } : Room) (va_Pc [.ref q, .int n, .int w] (fun U => va_at D vwCl (q, .inr (1, [.int 0, .int 0, .int 0, .int 0, .null, .int 0, .int 0])) U.heap ∧ va_K D vwCl [] U)) (tc_Qw none (va_at D vwCl (q, .inr (1, [.int n, .int w, .int (-1), .int 0, .null, .int (-1), .int 0]))) (fun z => z = q)) 0 0 (fun z => z = q) := by
  refine Met.ofW (cc := cX0_init) (maxL := 3) (ret := none) (by decide) rfl ?_
  intro p e s m args below meth c s₁ B hml hv
  obtain ⟨rfl, e0, hK⟩ := hv
  have hx := B.exec
  have hb := B.bytes
  have hr := B.returns
  have hts := atoms_spec (ws := wsX0_init) B.pre
  have hown : s.vm.findClass RX0 = some m.cls := findClass_of_methodNamed B.named
  have hlocks := B.notSynchronized
  have hin : meth.name = "<init>" := (name_of_methodNamed B.named B.method).1
  have hl := lv_entry ([.ref q, .int n, .int w]) (n := 3) (Nat.le_of_ble_eq_true rfl)
  rw [lg_entry_eq]
  generalize (lg_sl ([.ref q, .int n, .int w]) ++ List.replicate (3 - (lg_sl ([.ref q, .int n, .int w])).length) Slot.unset).toArray = ls at hl ⊢
  have hl : lv_has ls 3 [(0, .ref q), (1, .int n), (2, .int w)] := hl
  have hS : va_S (fun z => z = q) s.heap s.heap [] := va_S.rf
  have hin0 : ∀ w ∈ wsX00, w ∈ wsX0_init := fun w9 h9 => List.mem_cons_of_mem _ (List.mem_append_right _ h9)
  refine lv_aload_n hx hb dX0_init_0 rfl (lv_at hl 0 rfl) ?_
  refine W.objInit hx hb hown (hts (.methodLink RX0 3 objectInit) (List.mem_of_getElem? (i := 1) rfl)) (hts (.instanceMethod objectInit) (List.mem_of_getElem? (i := 2) rfl)) (hts (.code objectInit ⟨#[0xb1]⟩ 1 none) (List.mem_of_getElem? (i := 3) rfl)) rfl (by rw [hml]; exact hl.1) rfl dX0_init_1 (Nat.le_of_ble_eq_true rfl) (Nat.le_of_ble_eq_true rfl) ?_
  refine W.eq (g2 := F0 m 4 ls []) rfl ?_
  refine lv_aload_n hx hb dX0_init_4 rfl (lv_at hl 0 rfl) ?_
  refine lv_iconst (v := (-1)) hx hb dX0_init_5 (by decide) ?_
  refine tc_put (v := .int (-1)) (ty := .int) hx hb hts hin0 tyX0 tyX0_ok nmX0 hown hK e0 hS rfl (C := RX0) (T := TX0) (N := 7) rfl 2 (by decide) (hts (.fieldLink RX0 9 "TreadCranes$Barrel" "place" "I") (List.mem_of_getElem? (i := 4) rfl)) (fun _ h9 => h9) rfl (by decide +kernel) rfl rfl (Nat.le_of_ble_eq_true rfl) dX0_init_6 (fun H locs e0 z1 o1 hS => ?_)
  have e0 : va_at D vwCl (q, .inr (1, [.int 0, .int 0, .int (-1), .int 0, .null, .int 0, .int 0])) H := e0
  refine lv_aload_n hx hb dX0_init_9 rfl (lv_at hl 0 rfl) ?_
  refine lv_iconst (v := (-1)) hx hb dX0_init_10 (by decide) ?_
  refine tc_put (v := .int (-1)) (ty := .int) hx hb hts hin0 tyX0 tyX0_ok nmX0 hown hK e0 hS rfl (C := RX0) (T := TX0) (N := 7) rfl 5 (by decide) (hts (.fieldLink RX0 15 "TreadCranes$Barrel" "crane" "I") (List.mem_of_getElem? (i := 5) rfl)) (fun _ h9 => h9) rfl (by decide +kernel) rfl rfl (Nat.le_of_ble_eq_true rfl) dX0_init_11 (fun H locs e0 z1 o1 hS => ?_)
  have e0 : va_at D vwCl (q, .inr (1, [.int 0, .int 0, .int (-1), .int 0, .null, .int (-1), .int 0])) H := e0
  refine lv_aload_n hx hb dX0_init_14 rfl (lv_at hl 0 rfl) ?_
  refine lv_iload_n hx hb dX0_init_15 rfl (lv_at hl 1 rfl) ?_
  refine tc_putF (v := .int n) (ty := .int) hx hb hts hin0 tyX0 tyX0_ok nmX0 hown hK e0 hS rfl (C := RX0) (T := TX0) (N := 7) rfl 0 (by decide) (hts (.fieldLink RX0 18 "TreadCranes$Barrel" "number" "I") (List.mem_of_getElem? (i := 6) rfl)) (fun _ h9 => h9) rfl hin rfl (by decide +kernel) rfl rfl (Nat.le_of_ble_eq_true rfl) dX0_init_16 (fun H locs e0 z1 o1 hS => ?_)
  have e0 : va_at D vwCl (q, .inr (1, [.int n, .int 0, .int (-1), .int 0, .null, .int (-1), .int 0])) H := e0
  refine lv_aload_n hx hb dX0_init_19 rfl (lv_at hl 0 rfl) ?_
  refine lv_iload_n hx hb dX0_init_20 rfl (lv_at hl 2 rfl) ?_
  refine tc_putF (v := .int w) (ty := .int) hx hb hts hin0 tyX0 tyX0_ok nmX0 hown hK e0 hS rfl (C := RX0) (T := TX0) (N := 7) rfl 1 (by decide) (hts (.fieldLink RX0 21 "TreadCranes$Barrel" "weight" "I") (List.mem_of_getElem? (i := 7) rfl)) (fun _ h9 => h9) rfl hin rfl (by decide +kernel) rfl rfl (Nat.le_of_ble_eq_true rfl) dX0_init_21 (fun H locs e0 z1 o1 hS => ?_)
  have e0 : va_at D vwCl (q, .inr (1, [.int n, .int w, .int (-1), .int 0, .null, .int (-1), .int 0])) H := e0
  exact W.vret hx hb hr (fun t ht hW9 => ⟨⟨rfl, by rw [ht]; exact e0⟩, tc_F hS ht⟩) hS.2.2 dX0_init_24
set_option maxHeartbeats 4000000 in
set_option maxRecDepth 100000 in
theorem mt_X1_init (l : Launch) (D : va_G) (q : Nat) (a1 a2 a3 a4 : Int32) : Met l yX1_init wsX1_init ({ frames := 1, cells := 0, slots := 0, locals := 12 } : Room) (va_Pc [.ref q, .int a1, .int a2, .int a3, .int a4] (fun U => va_at D vwCl (q, .inr (2, [.int 0, .int 0, .int 0, .int 0, .int 0, .int 0, .int 0, .null])) U.heap ∧ va_K D vwCl [] U)) (tc_Qw none (va_at D vwCl (q, .inr (2, [.int a1, .int a2, .int a3, .int a4, .int 0, .int a1, .int (10), .null]))) (fun z => z = q)) 0 0 (fun z => z = q) := by
  refine Met.ofW (cc := cX1_init) (maxL := 5) (ret := none) (by decide) rfl ?_
  intro p e s m args below meth c s₁ B hml hv
  obtain ⟨rfl, e0, hK⟩ := hv
  have hx := B.exec
  have hb := B.bytes
  have hr := B.returns
  have hts := atoms_spec (ws := wsX1_init) B.pre
  have hown : s.vm.findClass RX1 = some m.cls := findClass_of_methodNamed B.named
  have hlocks := B.notSynchronized
  have hin : meth.name = "<init>" := (name_of_methodNamed B.named B.method).1
  have hl := lv_entry ([.ref q, .int a1, .int a2, .int a3, .int a4]) (n := 5) (Nat.le_of_ble_eq_true rfl)
  rw [lg_entry_eq]
  generalize (lg_sl ([.ref q, .int a1, .int a2, .int a3, .int a4]) ++ List.replicate (5 - (lg_sl ([.ref q, .int a1, .int a2, .int a3, .int a4])).length) Slot.unset).toArray = ls at hl ⊢
  have hl : lv_has ls 5 [(0, .ref q), (1, .int a1), (2, .int a2), (3, .int a3), (4, .int a4)] := hl
  have hS : va_S (fun z => z = q) s.heap s.heap [] := va_S.rf
  have hin0 : ∀ w ∈ wsX10, w ∈ wsX1_init := fun w9 h9 => List.mem_cons_of_mem _ (List.mem_append_right _ h9)
  refine lv_aload_n hx hb dX1_init_0 rfl (lv_at hl 0 rfl) ?_
  refine W.objInit hx hb hown (hts (.methodLink RX1 3 objectInit) (List.mem_of_getElem? (i := 1) rfl)) (hts (.instanceMethod objectInit) (List.mem_of_getElem? (i := 2) rfl)) (hts (.code objectInit ⟨#[0xb1]⟩ 1 none) (List.mem_of_getElem? (i := 3) rfl)) rfl (by rw [hml]; exact hl.1) rfl dX1_init_1 (Nat.le_of_ble_eq_true rfl) (Nat.le_of_ble_eq_true rfl) ?_
  refine W.eq (g2 := F0 m 4 ls []) rfl ?_
  refine lv_aload_n hx hb dX1_init_4 rfl (lv_at hl 0 rfl) ?_
  refine lv_bipush (v := (10)) hx hb dX1_init_5 (by decide) ?_
  refine tc_put (v := .int (10)) (ty := .int) hx hb hts hin0 tyX1 tyX1_ok nmX1 hown hK e0 hS rfl (C := RX1) (T := TX1) (N := 8) rfl 6 (by decide) (hts (.fieldLink RX1 9 "TreadCranes$Crane" "hookHeight" "I") (List.mem_of_getElem? (i := 4) rfl)) (fun _ h9 => h9) rfl (by decide +kernel) rfl rfl (Nat.le_of_ble_eq_true rfl) dX1_init_7 (fun H locs e0 z1 o1 hS => ?_)
  have e0 : va_at D vwCl (q, .inr (2, [.int 0, .int 0, .int 0, .int 0, .int 0, .int 0, .int (10), .null])) H := e0
  refine lv_aload_n hx hb dX1_init_10 rfl (lv_at hl 0 rfl) ?_
  refine lv_iload_n hx hb dX1_init_11 rfl (lv_at hl 1 rfl) ?_
  refine tc_putF (v := .int a1) (ty := .int) hx hb hts hin0 tyX1 tyX1_ok nmX1 hown hK e0 hS rfl (C := RX1) (T := TX1) (N := 8) rfl 0 (by decide) (hts (.fieldLink RX1 15 "TreadCranes$Crane" "place" "I") (List.mem_of_getElem? (i := 5) rfl)) (fun _ h9 => h9) rfl hin rfl (by decide +kernel) rfl rfl (Nat.le_of_ble_eq_true rfl) dX1_init_12 (fun H locs e0 z1 o1 hS => ?_)
  have e0 : va_at D vwCl (q, .inr (2, [.int a1, .int 0, .int 0, .int 0, .int 0, .int 0, .int (10), .null])) H := e0
  refine lv_aload_n hx hb dX1_init_15 rfl (lv_at hl 0 rfl) ?_
  refine lv_iload_n hx hb dX1_init_16 rfl (lv_at hl 2 rfl) ?_
  refine tc_putF (v := .int a2) (ty := .int) hx hb hts hin0 tyX1 tyX1_ok nmX1 hown hK e0 hS rfl (C := RX1) (T := TX1) (N := 8) rfl 1 (by decide) (hts (.fieldLink RX1 18 "TreadCranes$Crane" "reach" "I") (List.mem_of_getElem? (i := 6) rfl)) (fun _ h9 => h9) rfl hin rfl (by decide +kernel) rfl rfl (Nat.le_of_ble_eq_true rfl) dX1_init_17 (fun H locs e0 z1 o1 hS => ?_)
  have e0 : va_at D vwCl (q, .inr (2, [.int a1, .int a2, .int 0, .int 0, .int 0, .int 0, .int (10), .null])) H := e0
  refine lv_aload_n hx hb dX1_init_20 rfl (lv_at hl 0 rfl) ?_
  refine lv_iload_n hx hb dX1_init_21 rfl (lv_at hl 3 rfl) ?_
  refine tc_putF (v := .int a3) (ty := .int) hx hb hts hin0 tyX1 tyX1_ok nmX1 hown hK e0 hS rfl (C := RX1) (T := TX1) (N := 8) rfl 2 (by decide) (hts (.fieldLink RX1 21 "TreadCranes$Crane" "drum" "I") (List.mem_of_getElem? (i := 7) rfl)) (fun _ h9 => h9) rfl hin rfl (by decide +kernel) rfl rfl (Nat.le_of_ble_eq_true rfl) dX1_init_22 (fun H locs e0 z1 o1 hS => ?_)
  have e0 : va_at D vwCl (q, .inr (2, [.int a1, .int a2, .int a3, .int 0, .int 0, .int 0, .int (10), .null])) H := e0
  refine lv_aload_n hx hb dX1_init_25 rfl (lv_at hl 0 rfl) ?_
  refine lv_iload hx hb dX1_init_26 (lv_at hl 4 rfl) ?_
  refine tc_put (v := .int a4) (ty := .int) hx hb hts hin0 tyX1 tyX1_ok nmX1 hown hK e0 hS rfl (C := RX1) (T := TX1) (N := 8) rfl 3 (by decide) (hts (.fieldLink RX1 24 "TreadCranes$Crane" "walkers" "I") (List.mem_of_getElem? (i := 8) rfl)) (fun _ h9 => h9) rfl (by decide +kernel) rfl rfl (Nat.le_of_ble_eq_true rfl) dX1_init_28 (fun H locs e0 z1 o1 hS => ?_)
  have e0 : va_at D vwCl (q, .inr (2, [.int a1, .int a2, .int a3, .int a4, .int 0, .int 0, .int (10), .null])) H := e0
  refine lv_aload_n hx hb dX1_init_31 rfl (lv_at hl 0 rfl) ?_
  refine lv_iload_n hx hb dX1_init_32 rfl (lv_at hl 1 rfl) ?_
  refine tc_put (v := .int a1) (ty := .int) hx hb hts hin0 tyX1 tyX1_ok nmX1 hown hK e0 hS rfl (C := RX1) (T := TX1) (N := 8) rfl 5 (by decide) (hts (.fieldLink RX1 27 "TreadCranes$Crane" "hookPlace" "I") (List.mem_of_getElem? (i := 9) rfl)) (fun _ h9 => h9) rfl (by decide +kernel) rfl rfl (Nat.le_of_ble_eq_true rfl) dX1_init_33 (fun H locs e0 z1 o1 hS => ?_)
  have e0 : va_at D vwCl (q, .inr (2, [.int a1, .int a2, .int a3, .int a4, .int 0, .int a1, .int (10), .null])) H := e0
  exact W.vret hx hb hr (fun t ht hW9 => ⟨⟨rfl, by rw [ht]; exact e0⟩, tc_F hS ht⟩) hS.2.2 dX1_init_36
set_option maxHeartbeats 4000000 in
set_option maxRecDepth 100000 in
theorem mt_Jxa1e45_init_da8c8 (l : Launch) (q : Nat) (H9 : Heap) : Met l yJxa1e45_init_da8c8 wsJxa1e45_init_da8c8 ({ frames := 1, cells := 0, slots := 0, locals := 12 } : Room) (va_Pc [.ref q] (fun U => U.heap = H9)) (tc_Qw none (fun H => H = H9) (fun _ => False)) 0 0 (fun _ => False) := by
  refine Met.ofW (cc := cJxa1e45_init_da8c8) (maxL := 1) (ret := none) (by decide) rfl ?_
  intro p e s m args below meth c s₁ B hml hv
  obtain ⟨rfl, hH⟩ := hv
  have hx := B.exec
  have hb := B.bytes
  have hr := B.returns
  have hts := atoms_spec (ws := wsJxa1e45_init_da8c8) B.pre
  have hown : s.vm.findClass RJxa1e45 = some m.cls := findClass_of_methodNamed B.named
  have hlocks := B.notSynchronized
  have hin : meth.name = "<init>" := (name_of_methodNamed B.named B.method).1
  have hl := lv_entry ([.ref q]) (n := 1) (Nat.le_of_ble_eq_true rfl)
  rw [lg_entry_eq]
  generalize (lg_sl ([.ref q]) ++ List.replicate (1 - (lg_sl ([.ref q])).length) Slot.unset).toArray = ls at hl ⊢
  have hl : lv_has ls 1 [(0, .ref q)] := hl
  subst hH
  have hS : va_S (fun _ => False) s.heap s.heap [] := va_S.rf
  refine lv_aload_n hx hb dJxa1e45_init_da8c8_0 rfl (lv_at hl 0 rfl) ?_
  refine W.objInit hx hb hown (hts (.methodLink RJxa1e45 1 objectInit) (List.mem_of_getElem? (i := 1) rfl)) (hts (.instanceMethod objectInit) (List.mem_of_getElem? (i := 2) rfl)) (hts (.code objectInit ⟨#[0xb1]⟩ 1 none) (List.mem_of_getElem? (i := 3) rfl)) rfl (by rw [hml]; exact hl.1) rfl dJxa1e45_init_da8c8_1 (Nat.le_of_ble_eq_true rfl) (Nat.le_of_ble_eq_true rfl) ?_
  refine W.eq (g2 := F0 m 4 ls []) rfl ?_
  exact W.vret hx hb hr (fun t ht hW9 => ⟨⟨rfl, ht⟩, tc_F hS ht⟩) hS.2.2 dJxa1e45_init_da8c8_4
set_option maxHeartbeats 4000000 in
set_option maxRecDepth 100000 in
theorem mt_Jxc12de_init_da8c8 (l : Launch) (D : va_G) (q : Nat) : Met l yJxc12de_init_da8c8 wsJxc12de_init_da8c8 ({ frames := 2, cells := 0, slots := 0, locals := 32 } : Room) (va_Pc [.ref q] (fun U => va_at D vwCl (q, .inr (0, [.int 0, .null, .int 0])) U.heap ∧ va_K D vwCl [] U)) (tc_Qw none (va_at D vwCl (q, .inr (0, [.int 0, .null, .int 0]))) (fun z => z = q)) 0 0 (fun z => z = q) := by
  refine Met.ofW (cc := cJxc12de_init_da8c8) (maxL := 1) (ret := none) (by decide) rfl ?_
  intro p e s m args below meth c s₁ B hml hv
  obtain ⟨rfl, e0, hK⟩ := hv
  have hx := B.exec
  have hb := B.bytes
  have hr := B.returns
  have hts := atoms_spec (ws := wsJxc12de_init_da8c8) B.pre
  have hown : s.vm.findClass RJxc12de = some m.cls := findClass_of_methodNamed B.named
  have hlocks := B.notSynchronized
  have hin : meth.name = "<init>" := (name_of_methodNamed B.named B.method).1
  have hl := lv_entry ([.ref q]) (n := 1) (Nat.le_of_ble_eq_true rfl)
  rw [lg_entry_eq]
  generalize (lg_sl ([.ref q]) ++ List.replicate (1 - (lg_sl ([.ref q])).length) Slot.unset).toArray = ls at hl ⊢
  have hl : lv_has ls 1 [(0, .ref q)] := hl
  have hS : va_S (fun z => z = q) s.heap s.heap [] := va_S.rf
  have hin0 : ∀ w ∈ wsJx4a65c0, w ∈ wsJxc12de_init_da8c8 := fun w9 h9 => List.mem_cons_of_mem _ (List.mem_append_right _ h9)
  refine lv_aload_n hx hb dJxc12de_init_da8c8_0 rfl (lv_at hl 0 rfl) ?_
  refine tc_cwv (va_runI (As := []) (rest := []) ⟨hx, hb, hml, hown, hts⟩ (mt_Jxa1e45_init_da8c8 l q s.heap) (cwI 0 hts gJxc12de_init_da8c8_Jxa1e45_init_da8c8 rfl rfl rfl (hts (.initialized RJxa1e45) (List.mem_of_getElem? (i := 4) rfl)) (hts (.methodLink RJxc12de 1 yJxa1e45_init_da8c8) (List.mem_of_getElem? (i := 2) rfl)) (hts (.instanceMethod yJxa1e45_init_da8c8) (List.mem_of_getElem? (i := 3) rfl)) rfl (by decide +kernel) ⟨Nat.le_of_ble_eq_true rfl, Nat.le_of_ble_eq_true rfl⟩) ⟨fun a U g mk q9 => q9, fun U hU hW9 => ⟨rfl, hU⟩⟩ rfl rfl hl.1 rfl (lv_room (Nat.le_of_ble_eq_true rfl)) dJxc12de_init_da8c8_1 ⟨Nat.le_of_ble_eq_true rfl, Nat.le_of_ble_eq_true rfl⟩) hS (fun _ _ h => h.elim) (fun _ h => h.elim) (fun H locs eH z1 o1 hS => ?_)
  have e0 : va_at D vwCl (q, .inr (0, [.int 0, .null, .int 0])) H := by rw [eH]; exact e0
  refine lv_aload_n hx hb dJxc12de_init_da8c8_4 rfl (lv_at hl 0 rfl) ?_
  refine lv_iconst (v := 0) hx hb dJxc12de_init_da8c8_5 (by decide) ?_
  refine tc_put (v := .int 0) (ty := .int) hx hb hts hin0 tyJx4a65c tyJx4a65c_ok nmJx4a65c hown hK e0 hS rfl (C := RJx4a65c) (T := TJx4a65c) (N := 3) rfl 0 (by decide) (hts (.fieldLink RJxc12de 7 "java/util/AbstractList" "modCount" "I") (List.mem_of_getElem? (i := 1) rfl)) (fun _ h9 => h9) rfl (by decide +kernel) rfl rfl (Nat.le_of_ble_eq_true rfl) dJxc12de_init_da8c8_6 (fun H locs e0 z1 o1 hS => ?_)
  exact W.vret hx hb hr (fun t ht hW9 => ⟨⟨rfl, by rw [ht]; exact e0⟩, tc_F hS ht⟩) hS.2.2 dJxc12de_init_da8c8_9
set_option maxHeartbeats 4000000 in
set_option maxRecDepth 100000 in
theorem mt_Jx4a65c_init_da8c8 (l : Launch) (D : va_G) (q e0 : Nat) : Met l yJx4a65c_init_da8c8 wsJx4a65c_init_da8c8 ({ frames := 3, cells := 0, slots := 0, locals := 52 } : Room) (va_Pc [.ref q] (fun U => va_at D vwCl (q, .inr (0, [.int 0, .null, .int 0])) U.heap ∧ va_K D vwCl [] U ∧ va_Z "java/util/ArrayList" "DEFAULTCAPACITY_EMPTY_ELEMENTDATA" "[Ljava/lang/Object;" (.ref e0) (fun z => z = q) U U.heap)) (tc_Qw none (va_at D vwCl (q, .inr (0, [.int 0, .ref e0, .int 0]))) (fun z => z = q)) 0 0 (fun z => z = q) := by
  refine Met.ofW (cc := cJx4a65c_init_da8c8) (maxL := 1) (ret := none) (by decide) rfl ?_
  intro p e s m args below meth c s₁ B hml hv
  obtain ⟨rfl, h0, hK, hZ⟩ := hv
  have hx := B.exec
  have hb := B.bytes
  have hr := B.returns
  have hts := atoms_spec (ws := wsJx4a65c_init_da8c8) B.pre
  have hown : s.vm.findClass RJx4a65c = some m.cls := findClass_of_methodNamed B.named
  have hlocks := B.notSynchronized
  have hin : meth.name = "<init>" := (name_of_methodNamed B.named B.method).1
  have hl := lv_entry ([.ref q]) (n := 1) (Nat.le_of_ble_eq_true rfl)
  rw [lg_entry_eq]
  generalize (lg_sl ([.ref q]) ++ List.replicate (1 - (lg_sl ([.ref q])).length) Slot.unset).toArray = ls at hl ⊢
  have hl : lv_has ls 1 [(0, .ref q)] := hl
  have hS : va_S (fun z => z = q) s.heap s.heap [] := va_S.rf
  have hin0 : ∀ w ∈ wsJx4a65c0, w ∈ wsJx4a65c_init_da8c8 := fun w9 h9 => List.mem_cons_of_mem _ (List.mem_append_right _ h9)
  refine lv_aload_n hx hb dJx4a65c_init_da8c8_0 rfl (lv_at hl 0 rfl) ?_
  refine tc_cwv (va_runI (As := []) (rest := []) ⟨hx, hb, hml, hown, hts⟩ (mt_Jxc12de_init_da8c8 l D q) (cwI 0 hts gJx4a65c_init_da8c8_Jxc12de_init_da8c8 rfl rfl rfl (hts (.initialized RJxc12de) (List.mem_of_getElem? (i := 5) rfl)) (hts (.methodLink RJx4a65c 1 yJxc12de_init_da8c8) (List.mem_of_getElem? (i := 3) rfl)) (hts (.instanceMethod yJxc12de_init_da8c8) (List.mem_of_getElem? (i := 4) rfl)) rfl (by decide +kernel) ⟨Nat.le_of_ble_eq_true rfl, Nat.le_of_ble_eq_true rfl⟩) ⟨fun a U g mk q9 => ⟨q9.1, q9.2.1, va_K.moved (Vm.Alike.refl U.vm) q9.2.2⟩, fun U hU hW9 => ⟨rfl, by rw [hU]; exact h0, va_K.moved hW9.alike hK⟩⟩ rfl rfl hl.1 rfl (lv_room (Nat.le_of_ble_eq_true rfl)) dJx4a65c_init_da8c8_1 ⟨Nat.le_of_ble_eq_true rfl, Nat.le_of_ble_eq_true rfl⟩) hS (fun _ _ h => h) (fun _ h => h) (fun H locs h0 z1 o1 hS => ?_)
  refine lv_aload_n hx hb dJx4a65c_init_da8c8_4 rfl (lv_at hl 0 rfl) ?_
  refine va_gets hx hb hZ hS hown (hts (.fieldLink RJx4a65c 39 "java/util/ArrayList" "DEFAULTCAPACITY_EMPTY_ELEMENTDATA" "[Ljava/lang/Object;") (List.mem_of_getElem? (i := 1) rfl)) (fun _ h9 => h9) dJx4a65c_init_da8c8_5 ?_
  refine tc_put (v := .ref e0) (ty := .array (.object "java/lang/Object")) hx hb hts hin0 tyJx4a65c tyJx4a65c_ok nmJx4a65c hown hK h0 hS rfl (C := RJx4a65c) (T := TJx4a65c) (N := 3) rfl 1 (by decide) (hts (.fieldLink RJx4a65c 9 "java/util/ArrayList" "elementData" "[Ljava/lang/Object;") (List.mem_of_getElem? (i := 2) rfl)) (fun _ h9 => h9) rfl (by decide +kernel) rfl rfl (Nat.le_of_ble_eq_true rfl) dJx4a65c_init_da8c8_8 (fun H locs h0 z1 o1 hS => ?_)
  exact W.vret hx hb hr (fun t ht hW9 => ⟨⟨rfl, by rw [ht]; exact h0⟩, tc_F hS ht⟩) hS.2.2 dJx4a65c_init_da8c8_11
def tc_x0 : tc_X := (fun _ _ => 0, fun _ _ => none, 0, 0)
set_option maxHeartbeats 4000000 in
set_option maxRecDepth 100000 in
theorem mt_X2_init (l : Launch) (D : va_G) (cU cO cI : ClassId) (e0 : Nat) (A : Nat → Prop) (q : Nat) (hq : A q) (he0 : ¬ A e0) : Met l yX2_init wsX2_init ({ frames := 4, cells := 3, slots := 22, locals := 72 } : Room) (va_Pc [.ref q] (fun U => va_at D vwCl (q, .inr (3, [.null, .null, .null, .int 0])) U.heap ∧ tc_KX D cU cO cI e0 A U)) (tc_Qw none (fun H => ∃ E : Nat → Nat, E 0 = q ∧ tc_WC D cU cO e0 A E tc_x0 H) A) 3 22 A := by
  refine Met.ofW (cc := cX2_init) (maxL := 1) (ret := none) (by decide) rfl ?_
  intro p e s m args below meth c s₁ B hml hv
  obtain ⟨rfl, h0, hKX⟩ := hv
  have hx := B.exec
  have hb := B.bytes
  have hr := B.returns
  have hts := atoms_spec (ws := wsX2_init) B.pre
  have hown : s.vm.findClass RX2 = some m.cls := findClass_of_methodNamed B.named
  have hlocks := B.notSynchronized
  have hin : meth.name = "<init>" := (name_of_methodNamed B.named B.method).1
  have hl := lv_entry ([.ref q]) (n := 1) (Nat.le_of_ble_eq_true rfl)
  rw [lg_entry_eq]
  generalize (lg_sl ([.ref q]) ++ List.replicate (1 - (lg_sl ([.ref q])).length) Slot.unset).toArray = ls at hl ⊢
  have hl : lv_has ls 1 [(0, .ref q)] := hl
  have hKC := hKX.1
  have hK := hKC.1
  have hA := hKX.2.1
  have hZ := hKX.2.2.2.2.1
  have hAO := hKX.2.2.2.2.2.2.2.2.2.2.2.2.2.2.1
  have hS : va_S A s.heap s.heap [] := va_S.rf
  have hP : va_P D vwCl [(q, .inr (3, [.null, .null, .null, .int 0]))] s.heap := tc_p1 h0
  have hD : va_D A [(q, .inr (3, [.null, .null, .null, .int 0]))] := ⟨fun i j a b hi hj _ => by
      have h1 : i < 1 := (List.getElem?_eq_some_iff.mp hi).1
      have h2 : j < 1 := (List.getElem?_eq_some_iff.mp hj).1
      omega, fun k a hk => by
      have h1 : k < 1 := (List.getElem?_eq_some_iff.mp hk).1
      rw [show k = 0 by omega] at hk
      cases hk; exact hq⟩
  have hin2 : ∀ w ∈ wsX20, w ∈ wsX2_init := fun w9 h9 => List.mem_cons_of_mem _ (List.mem_append_left _ (List.mem_append_right _ h9))
  have hinJ : ∀ w ∈ wsJx4a65c0, w ∈ wsX2_init := fun w9 h9 => List.mem_cons_of_mem _ (List.mem_append_right _ h9)
  refine lv_aload_n hx hb dX2_init_0 rfl (lv_at hl 0 rfl) ?_
  refine W.objInit hx hb hown (hts (.methodLink RX2 1 objectInit) (List.mem_of_getElem? (i := 1) rfl)) (hts (.instanceMethod objectInit) (List.mem_of_getElem? (i := 2) rfl)) (hts (.code objectInit ⟨#[0xb1]⟩ 1 none) (List.mem_of_getElem? (i := 3) rfl)) rfl (by rw [hml]; exact hl.1) rfl dX2_init_1 (Nat.le_of_ble_eq_true rfl) (Nat.le_of_ble_eq_true rfl) ?_
  refine W.eq (g2 := F0 m 4 ls []) rfl ?_
  refine lv_aload_n hx hb dX2_init_4 rfl (lv_at hl 0 rfl) ?_
  refine lv_bipush (v := 16) hx hb dX2_init_5 (by decide) ?_
  refine tc_newaQ (N := 16) hx hb hown (hts (.classLink RX2 9 RX0) (List.mem_of_getElem? (i := 4) rfl)) hAO hK hP hD hS hA (by decide) (by decide) (by decide) (Nat.le_of_ble_eq_true rfl) (Nat.le_of_ble_eq_true rfl) dX2_init_7 (cI := cU) 0 rfl (fun q1 H hP hD hS => ?_)
  have hP : va_P D vwCl [(q, .inr (3, [.null, .null, .null, .int 0])), (q1, .inl (cU, 16, .inr (.inr (.inr (.inr (fun _ : Nat => none))))))] H := hP
  have hD : va_D A [(q, .inr (3, [.null, .null, .null, .int 0])), (q1, .inl (cU, 16, .inr (.inr (.inr (.inr (fun _ : Nat => none))))))] := hD
  refine va_putF (D := D) (ci := 3) (v := .ref q1) (ty := .array (.object "TreadCranes$Barrel")) (C := RX2) (T := TX2) (N := 4) hx hb hts hin2 tyX2 tyX2_ok nmX2 hown hK hP hD hS 0 rfl rfl 0 (by decide) (hts (.fieldLink RX2 11 "TreadCranes" "uppermost" "[LTreadCranes$Barrel;") (List.mem_of_getElem? (i := 5) rfl)) (fun _ h9 => h9) rfl hin rfl (by decide +kernel) rfl rfl (Nat.le_of_ble_eq_true rfl) dX2_init_10 (fun H locs hP hD hS => ?_)
  have hP : va_P D vwCl [(q, .inr (3, [.ref q1, .null, .null, .int 0])), (q1, .inl (cU, 16, .inr (.inr (.inr (.inr (fun _ : Nat => none))))))] H := hP
  have hD : va_D A [(q, .inr (3, [.ref q1, .null, .null, .int 0])), (q1, .inl (cU, 16, .inr (.inr (.inr (.inr (fun _ : Nat => none))))))] := hD
  refine lv_aload_n hx hb dX2_init_13 rfl (lv_at hl 0 rfl) ?_
  refine va_new (ci := 0) (fs := [.int 0, .null, .int 0]) (C := RJx4a65c) (T := TJx4a65c) (N := 3) hx hb hts hinJ tyJx4a65c tyJx4a65c_ok hown (hts (.classLink RX2 15 RJx4a65c) (List.mem_of_getElem? (i := 6) rfl)) (hts (.instantiable RJx4a65c 3) (List.mem_of_getElem? (i := 7) rfl)) (hts (.initialized RJx4a65c) (List.mem_of_getElem? (i := 8) rfl)) hK hP hD hS hA rfl (fun j hj => by rcases (show j = 0 ∨ j = 1 ∨ j = 2 by omega) with rfl | rfl | rfl <;> rfl) (Nat.le_of_ble_eq_true rfl) (Nat.le_of_ble_eq_true rfl) dX2_init_14 (fun q2 H hP hD hS => ?_)
  have hP : va_P D vwCl [(q, .inr (3, [.ref q1, .null, .null, .int 0])), (q1, .inl (cU, 16, .inr (.inr (.inr (.inr (fun _ : Nat => none)))))), (q2, .inr (0, [.int 0, .null, .int 0]))] H := hP
  have hD : va_D A [(q, .inr (3, [.ref q1, .null, .null, .int 0])), (q1, .inl (cU, 16, .inr (.inr (.inr (.inr (fun _ : Nat => none)))))), (q2, .inr (0, [.int 0, .null, .int 0]))] := hD
  refine lv_dup hx hb dX2_init_17 rfl ?_
  refine tc_cwv (va_runI (As := []) (rest := [.ref q2, .ref q]) ⟨hx, hb, hml, hown, hts⟩ (mt_Jx4a65c_init_da8c8 l D q2 e0) (cwI 0 hts gX2_init_Jx4a65c_init_da8c8 rfl rfl rfl (hts (.initialized RJx4a65c) (List.mem_of_getElem? (i := 8) rfl)) (hts (.methodLink RX2 17 yJx4a65c_init_da8c8) (List.mem_of_getElem? (i := 11) rfl)) (hts (.instanceMethod yJx4a65c_init_da8c8) (List.mem_of_getElem? (i := 12) rfl)) rfl (by decide +kernel) ⟨Nat.le_of_ble_eq_true rfl, Nat.le_of_ble_eq_true rfl⟩) ⟨fun a U g mk q9 => ⟨q9.1, q9.2.1, va_K.moved (Vm.Alike.refl U.vm) q9.2.2.1, va_Z.moved (Vm.Alike.refl U.vm) q9.2.2.2⟩, fun U hU hW9 => ⟨rfl, by rw [hU]; exact hP 2 _ rfl, va_K.moved hW9.alike (hK.sub (tys' := []) [] rfl), by rw [hU]; exact va_Z.moved hW9.alike ((hZ.kept hS.2.1).narrow (fun z hz => by rw [hz]; exact hD.2 2 _ rfl))⟩⟩ rfl rfl hl.1 rfl (lv_room (Nat.le_of_ble_eq_true rfl)) dX2_init_18 ⟨Nat.le_of_ble_eq_true rfl, Nat.le_of_ble_eq_true rfl⟩) hS (fun z _ hz => by rw [hz]; exact hD.2 2 _ rfl) (fun z hz => by rw [hz]; exact hD.2 2 _ rfl) (fun H1 locs eL z1 o1 hS => ?_)
  have hP := tc_PW (k := 2) hP hD rfl eL o1
  have hD := hD.set (p := 2) (e := .inr (0, [.int 0, .ref e0, .int 0])) rfl
  clear eL o1 z1
  generalize H1 = H at hP hS ⊢
  have hP : va_P D vwCl [(q, .inr (3, [.ref q1, .null, .null, .int 0])), (q1, .inl (cU, 16, .inr (.inr (.inr (.inr (fun _ : Nat => none)))))), (q2, .inr (0, [.int 0, .ref e0, .int 0]))] H := hP
  have hD : va_D A [(q, .inr (3, [.ref q1, .null, .null, .int 0])), (q1, .inl (cU, 16, .inr (.inr (.inr (.inr (fun _ : Nat => none)))))), (q2, .inr (0, [.int 0, .ref e0, .int 0]))] := hD
  refine va_putF (D := D) (ci := 3) (v := .ref q2) (ty := .object "java/util/ArrayList") (C := RX2) (T := TX2) (N := 4) hx hb hts hin2 tyX2 tyX2_ok nmX2 hown hK hP hD hS 0 rfl rfl 1 (by decide) (hts (.fieldLink RX2 18 "TreadCranes" "barrels" "Ljava/util/ArrayList;") (List.mem_of_getElem? (i := 9) rfl)) (fun _ h9 => h9) rfl hin rfl (by decide +kernel) rfl rfl (Nat.le_of_ble_eq_true rfl) dX2_init_21 (fun H locs hP hD hS => ?_)
  have hP : va_P D vwCl [(q, .inr (3, [.ref q1, .ref q2, .null, .int 0])), (q1, .inl (cU, 16, .inr (.inr (.inr (.inr (fun _ : Nat => none)))))), (q2, .inr (0, [.int 0, .ref e0, .int 0]))] H := hP
  have hD : va_D A [(q, .inr (3, [.ref q1, .ref q2, .null, .int 0])), (q1, .inl (cU, 16, .inr (.inr (.inr (.inr (fun _ : Nat => none)))))), (q2, .inr (0, [.int 0, .ref e0, .int 0]))] := hD
  refine lv_aload_n hx hb dX2_init_24 rfl (lv_at hl 0 rfl) ?_
  refine va_new (ci := 0) (fs := [.int 0, .null, .int 0]) (C := RJx4a65c) (T := TJx4a65c) (N := 3) hx hb hts hinJ tyJx4a65c tyJx4a65c_ok hown (hts (.classLink RX2 15 RJx4a65c) (List.mem_of_getElem? (i := 6) rfl)) (hts (.instantiable RJx4a65c 3) (List.mem_of_getElem? (i := 7) rfl)) (hts (.initialized RJx4a65c) (List.mem_of_getElem? (i := 8) rfl)) hK hP hD hS hA rfl (fun j hj => by rcases (show j = 0 ∨ j = 1 ∨ j = 2 by omega) with rfl | rfl | rfl <;> rfl) (Nat.le_of_ble_eq_true rfl) (Nat.le_of_ble_eq_true rfl) dX2_init_25 (fun q3 H hP hD hS => ?_)
  have hP : va_P D vwCl [(q, .inr (3, [.ref q1, .ref q2, .null, .int 0])), (q1, .inl (cU, 16, .inr (.inr (.inr (.inr (fun _ : Nat => none)))))), (q2, .inr (0, [.int 0, .ref e0, .int 0])), (q3, .inr (0, [.int 0, .null, .int 0]))] H := hP
  have hD : va_D A [(q, .inr (3, [.ref q1, .ref q2, .null, .int 0])), (q1, .inl (cU, 16, .inr (.inr (.inr (.inr (fun _ : Nat => none)))))), (q2, .inr (0, [.int 0, .ref e0, .int 0])), (q3, .inr (0, [.int 0, .null, .int 0]))] := hD
  refine lv_dup hx hb dX2_init_28 rfl ?_
  refine tc_cwv (va_runI (As := []) (rest := [.ref q3, .ref q]) ⟨hx, hb, hml, hown, hts⟩ (mt_Jx4a65c_init_da8c8 l D q3 e0) (cwI 0 hts gX2_init_Jx4a65c_init_da8c8 rfl rfl rfl (hts (.initialized RJx4a65c) (List.mem_of_getElem? (i := 8) rfl)) (hts (.methodLink RX2 17 yJx4a65c_init_da8c8) (List.mem_of_getElem? (i := 11) rfl)) (hts (.instanceMethod yJx4a65c_init_da8c8) (List.mem_of_getElem? (i := 12) rfl)) rfl (by decide +kernel) ⟨Nat.le_of_ble_eq_true rfl, Nat.le_of_ble_eq_true rfl⟩) ⟨fun a U g mk q9 => ⟨q9.1, q9.2.1, va_K.moved (Vm.Alike.refl U.vm) q9.2.2.1, va_Z.moved (Vm.Alike.refl U.vm) q9.2.2.2⟩, fun U hU hW9 => ⟨rfl, by rw [hU]; exact hP 3 _ rfl, va_K.moved hW9.alike (hK.sub (tys' := []) [] rfl), by rw [hU]; exact va_Z.moved hW9.alike ((hZ.kept hS.2.1).narrow (fun z hz => by rw [hz]; exact hD.2 3 _ rfl))⟩⟩ rfl rfl hl.1 rfl (lv_room (Nat.le_of_ble_eq_true rfl)) dX2_init_29 ⟨Nat.le_of_ble_eq_true rfl, Nat.le_of_ble_eq_true rfl⟩) hS (fun z _ hz => by rw [hz]; exact hD.2 3 _ rfl) (fun z hz => by rw [hz]; exact hD.2 3 _ rfl) (fun H1 locs eL z1 o1 hS => ?_)
  have hP := tc_PW (k := 3) hP hD rfl eL o1
  have hD := hD.set (p := 3) (e := .inr (0, [.int 0, .ref e0, .int 0])) rfl
  clear eL o1 z1
  generalize H1 = H at hP hS ⊢
  have hP : va_P D vwCl [(q, .inr (3, [.ref q1, .ref q2, .null, .int 0])), (q1, .inl (cU, 16, .inr (.inr (.inr (.inr (fun _ : Nat => none)))))), (q2, .inr (0, [.int 0, .ref e0, .int 0])), (q3, .inr (0, [.int 0, .ref e0, .int 0]))] H := hP
  have hD : va_D A [(q, .inr (3, [.ref q1, .ref q2, .null, .int 0])), (q1, .inl (cU, 16, .inr (.inr (.inr (.inr (fun _ : Nat => none)))))), (q2, .inr (0, [.int 0, .ref e0, .int 0])), (q3, .inr (0, [.int 0, .ref e0, .int 0]))] := hD
  refine va_putF (D := D) (ci := 3) (v := .ref q3) (ty := .object "java/util/ArrayList") (C := RX2) (T := TX2) (N := 4) hx hb hts hin2 tyX2 tyX2_ok nmX2 hown hK hP hD hS 0 rfl rfl 2 (by decide) (hts (.fieldLink RX2 22 "TreadCranes" "cranes" "Ljava/util/ArrayList;") (List.mem_of_getElem? (i := 10) rfl)) (fun _ h9 => h9) rfl hin rfl (by decide +kernel) rfl rfl (Nat.le_of_ble_eq_true rfl) dX2_init_32 (fun H locs hP hD hS => ?_)
  have hP : va_P D vwCl [(q, .inr (3, [.ref q1, .ref q2, .ref q3, .int 0])), (q1, .inl (cU, 16, .inr (.inr (.inr (.inr (fun _ : Nat => none)))))), (q2, .inr (0, [.int 0, .ref e0, .int 0])), (q3, .inr (0, [.int 0, .ref e0, .int 0]))] H := hP
  have hD : va_D A [(q, .inr (3, [.ref q1, .ref q2, .ref q3, .int 0])), (q1, .inl (cU, 16, .inr (.inr (.inr (.inr (fun _ : Nat => none)))))), (q2, .inr (0, [.int 0, .ref e0, .int 0])), (q3, .inr (0, [.int 0, .ref e0, .int 0]))] := hD
  refine W.vret hx hb hr (fun t ht hW9 => ⟨⟨rfl, ?_⟩, tc_F hS ht⟩) hS.2.2 dX2_init_35
  rw [ht]
  refine ⟨fun i => if i = 0 then q else if i = 1 then q1 else if i = 2 then q2 else if i = 3 then q3 else e0, rfl, ?_⟩
  have lv4 : ∀ i, tc_lv tc_x0 i → i < 4 := fun i hi => by
    rcases hi with z | ⟨_, z⟩ | ⟨_, z⟩ | z | z
    · exact z
    · exact absurd z (by decide)
    · exact absurd z (by decide)
    · simp only [tc_x0, tc_nb, tc_nc] at z; omega
    · simp only [tc_x0, tc_nb, tc_nc] at z; omega
  have at4 : ∀ i, i < 4 → ∃ w, ([(q, .inr (3, [.ref q1, .ref q2, .ref q3, .int 0])), (q1, .inl (cU, 16, .inr (.inr (.inr (.inr (fun _ : Nat => none)))))), (q2, .inr (0, [.int 0, .ref e0, .int 0])), (q3, .inr (0, [.int 0, .ref e0, .int 0]))] : va_W)[i]? = some ((fun i : Nat => if i = 0 then q else if i = 1 then q1 else if i = 2 then q2 else if i = 3 then q3 else e0) i, w) := fun i hi => by
    rcases (show i = 0 ∨ i = 1 ∨ i = 2 ∨ i = 3 by omega) with rfl | rfl | rfl | rfl <;> exact ⟨_, rfl⟩
  refine ⟨hP 0 _ rfl, hP 1 _ rfl, ⟨0, hP 2 _ rfl, Or.inl ⟨rfl, rfl⟩⟩, ⟨0, hP 3 _ rfl, Or.inl ⟨rfl, rfl⟩⟩, fun b hb => absurd hb (Nat.not_lt_zero _), fun b hb => absurd hb (Nat.not_lt_zero _), fun i j hi hj e => ?_, fun i hi => ?_, he0, by decide, by decide⟩
  · obtain ⟨w, hw⟩ := at4 i (lv4 i hi)
    obtain ⟨w', hw'⟩ := at4 j (lv4 j hj)
    exact hD.1 _ _ _ _ hw hw' e
  · obtain ⟨w, hw⟩ := at4 i (lv4 i hi)
    exact hD.2 _ _ hw
