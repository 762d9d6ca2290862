/-! The law's small methods (written by wip/p21/run2.py). -/
def f_L_below (a1 : Int32) (a2 : Int32) : Option (Int32) := (if ¬ a2 = 0 then some ((a1 &&& (2147483647 : Int32)) - (a1 &&& (2147483647 : Int32)) / a2 * a2) else none)
set_option maxHeartbeats 16000000 in
set_option maxRecDepth 100000 in
theorem mt_L_below (l : Launch) (a1 : Int32) (a2 : Int32) (r : Int32) (hF : f_L_below a1 a2 = some r) : Met l yL_below wsL_below ({ frames := 0, cells := 0, slots := 0, locals := 0 } : Room) (va_Pc [.int a1, .int a2] (fun _ => True)) (k2_QcV (.int r)) 0 0 (fun _ => False) := by
  refine Met.ofW (cc := cL_below) (maxL := 2) (ret := (some .int)) (by decide) rfl ?_
  intro p e s m args below meth c s₁ B hml hv
  obtain ⟨rfl, -⟩ := hv
  have hx := B.exec
  have hb := B.bytes
  have hr := B.returns
  have hts := atoms_spec (ws := wsL_below) B.pre
  have hown : s.vm.findClass RL = some m.cls := findClass_of_methodNamed B.named
  have hlocks := B.notSynchronized
  have hl := lv_entry ([.int a1, .int a2]) (n := 2) (Nat.le_of_ble_eq_true rfl)
  rw [lg_entry_eq]
  generalize (lg_sl ([.int a1, .int a2]) ++ List.replicate (2 - (lg_sl ([.int a1, .int a2])).length) Slot.unset).toArray = ls at hl ⊢
  have hl : lv_has ls 2 [(0, .int a1), (1, .int a2)] := hl
  refine tc_hideQ (R9 := ({ frames := 0, cells := 0, slots := 0, locals := 0 } : Room)) rfl (fun QQ eQQ => ?_)
  refine lv_iload_n hx hb dL_below_0 rfl (lv_at hl 0 rfl) ?_
  refine lv_ldc (v := 2147483647) hx hb hown (hts (.constant RL 7 (2147483647)) (List.mem_of_getElem? (i := 1) rfl)) dL_below_1 ?_
  refine lv_iand hx hb dL_below_3 ?_
  refine lv_iload_n hx hb dL_below_4 rfl (lv_at hl 1 rfl) ?_
  obtain ⟨g1, hF⟩ := tc_ob hF
  refine lv_irem hx hb dL_below_5 g1 ?_
  have h91 := Option.some.inj hF
  rw [eQQ]
  exact W.iret hx hb hr (fun t ht hW9 => ⟨by rw [← h91], ht⟩) (fun q h => absurd h List.not_mem_nil) dL_below_6

def f_S_strong (n : Nat) (f : Nat → Int32) : Option (Int32) := (if 3 < n then (if 2 < n then (if ¬ (f 2) = 0 then some (((12 : Int32) * (f 3)) / (f 2)) else none) else none) else none)
set_option maxHeartbeats 16000000 in
set_option maxRecDepth 100000 in
theorem mt_X3_strong (l : Launch) (D : va_G) (cU cO cI : ClassId) (o : Nat) (q : Nat) (n : Nat) (f : Nat → Int32) (r : Int32) (hF : f_S_strong n f = some r) : Met l yX3_strong wsX3_strong ({ frames := 0, cells := 0, slots := 0, locals := 0 } : Room) (va_Pc [.ref o, .ref q] (fun U => va_at D vwCl (q, .inl (cI, n, .inl f)) U.heap ∧ va_K D vwCl (tc_ty cU cO cI) U)) (k2_QcV (.int r)) 0 0 (fun _ => False) := by
  refine Met.ofW (cc := cX3_strong) (maxL := 2) (ret := (some .int)) (by decide) rfl ?_
  intro p e s m args below meth c s₁ B hml hv
  obtain ⟨rfl, hP, hK⟩ := hv
  have hx := B.exec
  have hb := B.bytes
  have hr := B.returns
  have hts := atoms_spec (ws := wsX3_strong) B.pre
  have hown : s.vm.findClass RX3 = some m.cls := findClass_of_methodNamed B.named
  have hlocks := B.notSynchronized
  have hl := lv_entry ([.ref o, .ref q]) (n := 2) (Nat.le_of_ble_eq_true rfl)
  rw [lg_entry_eq]
  generalize (lg_sl ([.ref o, .ref q]) ++ List.replicate (2 - (lg_sl ([.ref o, .ref q])).length) Slot.unset).toArray = ls at hl ⊢
  have hl : lv_has ls 2 [(0, .ref o), (1, .ref q)] := hl
  refine tc_hideQ (R9 := ({ frames := 0, cells := 0, slots := 0, locals := 0 } : Room)) rfl (fun QQ eQQ => ?_)
  refine lv_bipush (v := 12) hx hb dX3_strong_0 (by decide) ?_
  refine lv_aload_n hx hb dX3_strong_2 rfl (lv_at hl 1 rfl) ?_
  refine lv_iconst (v := 3) hx hb dX3_strong_3 (by decide) ?_
  obtain ⟨g1, hF⟩ := tc_ob hF
  refine tc_iald2 (j := 3) (by decide) hx hb hK hP 2 rfl ⟨by decide, g1⟩ dX3_strong_4 ?_
  refine lv_imul hx hb dX3_strong_5 ?_
  refine lv_aload_n hx hb dX3_strong_6 rfl (lv_at hl 1 rfl) ?_
  refine lv_iconst (v := 2) hx hb dX3_strong_7 (by decide) ?_
  obtain ⟨g2, hF⟩ := tc_ob hF
  refine tc_iald2 (j := 2) (by decide) hx hb hK hP 2 rfl ⟨by decide, g2⟩ dX3_strong_8 ?_
  obtain ⟨g3, hF⟩ := tc_ob hF
  refine lv_idiv hx hb dX3_strong_9 g3 ?_
  have h91 := Option.some.inj hF
  rw [eQQ]
  exact W.iret hx hb hr (fun t ht hW9 => ⟨by rw [← h91], ht⟩) (fun q h => absurd h List.not_mem_nil) dX3_strong_10

def f_S_wound (n : Nat) (f : Nat → Int32) (a2 : Int32) : Option (Int32) := (if 2 < n then (if ¬ (f 2) = 0 then tc_jn (fun (w3 : Int32) => some w3) (fun kc4 => (if (a2 - a2 / (f 2) * (f 2)) = 0 then kc4 (a2 / (f 2)) else kc4 ((a2 / (f 2)) + (1 : Int32)))) else none) else none)
set_option maxHeartbeats 16000000 in
set_option maxRecDepth 100000 in
theorem mt_X3_wound (l : Launch) (D : va_G) (cU cO cI : ClassId) (q : Nat) (n : Nat) (f : Nat → Int32) (a2 : Int32) (r : Int32) (hF : f_S_wound n f a2 = some r) : Met l yX3_wound wsX3_wound ({ frames := 0, cells := 0, slots := 0, locals := 0 } : Room) (va_Pc [.ref q, .int a2] (fun U => va_at D vwCl (q, .inl (cI, n, .inl f)) U.heap ∧ va_K D vwCl (tc_ty cU cO cI) U)) (k2_QcV (.int r)) 0 0 (fun _ => False) := by
  refine Met.ofW (cc := cX3_wound) (maxL := 2) (ret := (some .int)) (by decide) rfl ?_
  intro p e s m args below meth c s₁ B hml hv
  obtain ⟨rfl, hP, hK⟩ := hv
  have hx := B.exec
  have hb := B.bytes
  have hr := B.returns
  have hts := atoms_spec (ws := wsX3_wound) B.pre
  have hown : s.vm.findClass RX3 = some m.cls := findClass_of_methodNamed B.named
  have hlocks := B.notSynchronized
  have hl := lv_entry ([.ref q, .int a2]) (n := 2) (Nat.le_of_ble_eq_true rfl)
  rw [lg_entry_eq]
  generalize (lg_sl ([.ref q, .int a2]) ++ List.replicate (2 - (lg_sl ([.ref q, .int a2])).length) Slot.unset).toArray = ls at hl ⊢
  have hl : lv_has ls 2 [(0, .ref q), (1, .int a2)] := hl
  refine tc_hideQ (R9 := ({ frames := 0, cells := 0, slots := 0, locals := 0 } : Room)) rfl (fun QQ eQQ => ?_)
  refine lv_iload_n hx hb dX3_wound_0 rfl (lv_at hl 1 rfl) ?_
  refine lv_aload_n hx hb dX3_wound_1 rfl (lv_at hl 0 rfl) ?_
  refine lv_iconst (v := 2) hx hb dX3_wound_2 (by decide) ?_
  obtain ⟨g1, hF⟩ := tc_ob hF
  refine tc_iald2 (j := 2) (by decide) hx hb hK hP 2 rfl ⟨by decide, g1⟩ dX3_wound_3 ?_
  obtain ⟨g2, hF⟩ := tc_ob hF
  refine lv_irem hx hb dX3_wound_4 g2 ?_
  obtain ⟨kc4, ekc4, hF⟩ := tc_jx hF
  have Jkc4 : ∀ (w3 : Int32) (ls : Array Slot), kc4 w3 = some r → lv_has ls 2 [] → W p l e ({ frames := 0, cells := 0, slots := 0, locals := 0 } : Room) s m (([.ref q, .int a2] : List Value).toArray) below meth c s.heap [] (0) (0) QQ (F0 m 23 ls [.int w3]) := by
    intro w3 ls hF hl
    rw [ekc4] at hF
    dsimp only at hF
    have h91 := Option.some.inj hF
    rw [eQQ]
    exact W.iret hx hb hr (fun t ht hW9 => ⟨by rw [← h91], ht⟩) (fun q h => absurd h List.not_mem_nil) dX3_wound_23
  refine lv_if_ne (tgt := 16) hx hb dX3_wound_5 (by decide) (fun c5 => ?_) (fun c5 => ?_)
  · have hF := tc_if hF c5
    refine lv_iload_n hx hb dX3_wound_16 rfl (lv_at hl 1 rfl) ?_
    refine lv_aload_n hx hb dX3_wound_17 rfl (lv_at hl 0 rfl) ?_
    refine lv_iconst (v := 2) hx hb dX3_wound_18 (by decide) ?_
    refine tc_iald2 (j := 2) (by decide) hx hb hK hP 2 rfl ⟨by decide, g1⟩ dX3_wound_19 ?_
    refine lv_idiv hx hb dX3_wound_20 g2 ?_
    refine lv_iconst (v := 1) hx hb dX3_wound_21 (by decide) ?_
    refine lv_iadd hx hb dX3_wound_22 ?_
    exact Jkc4 ((a2 / (f 2)) + (1 : Int32)) _ hF (lv_sub hl [] rfl) 
  · have hF := tc_it hF c5
    refine lv_iload_n hx hb dX3_wound_8 rfl (lv_at hl 1 rfl) ?_
    refine lv_aload_n hx hb dX3_wound_9 rfl (lv_at hl 0 rfl) ?_
    refine lv_iconst (v := 2) hx hb dX3_wound_10 (by decide) ?_
    refine tc_iald2 (j := 2) (by decide) hx hb hK hP 2 rfl ⟨by decide, g1⟩ dX3_wound_11 ?_
    refine lv_idiv hx hb dX3_wound_12 g2 ?_
    refine lv_goto (tgt := 23) hx hb dX3_wound_13 (by decide) ?_
    exact Jkc4 (a2 / (f 2)) _ hF (lv_sub hl [] rfl) 

def f_S_isFine (n : Nat) (f : Nat → Int32) (a2 : Int32) : Option (Int32) := (if 7 < n then tc_jn (fun (w2 : Int32) => (if w2 = 0 ∨ w2 = 1 then some w2 else none)) (fun kc3 => (if 0 ≤ (f 7) then (if 6 < n then (if (f 6) ≤ a2 then kc3 0 else kc3 1) else none) else (if 6 < n then (if (f 6) < a2 then kc3 0 else kc3 1) else none))) else none)
set_option maxHeartbeats 16000000 in
set_option maxRecDepth 100000 in
theorem mt_X3_isFine (l : Launch) (D : va_G) (cU cO cI : ClassId) (q : Nat) (n : Nat) (f : Nat → Int32) (a2 : Int32) (r : Int32) (hF : f_S_isFine n f a2 = some r) : Met l yX3_isFine wsX3_isFine ({ frames := 0, cells := 0, slots := 0, locals := 0 } : Room) (va_Pc [.ref q, .int a2] (fun U => va_at D vwCl (q, .inl (cI, n, .inl f)) U.heap ∧ va_K D vwCl (tc_ty cU cO cI) U)) (k2_QcV (.int r)) 0 0 (fun _ => False) := by
  refine Met.ofW (cc := cX3_isFine) (maxL := 2) (ret := (some .boolean)) (by decide) rfl ?_
  intro p e s m args below meth c s₁ B hml hv
  obtain ⟨rfl, hP, hK⟩ := hv
  have hx := B.exec
  have hb := B.bytes
  have hr := B.returns
  have hts := atoms_spec (ws := wsX3_isFine) B.pre
  have hown : s.vm.findClass RX3 = some m.cls := findClass_of_methodNamed B.named
  have hlocks := B.notSynchronized
  have hl := lv_entry ([.ref q, .int a2]) (n := 2) (Nat.le_of_ble_eq_true rfl)
  rw [lg_entry_eq]
  generalize (lg_sl ([.ref q, .int a2]) ++ List.replicate (2 - (lg_sl ([.ref q, .int a2])).length) Slot.unset).toArray = ls at hl ⊢
  have hl : lv_has ls 2 [(0, .ref q), (1, .int a2)] := hl
  refine tc_hideQ (R9 := ({ frames := 0, cells := 0, slots := 0, locals := 0 } : Room)) rfl (fun QQ eQQ => ?_)
  refine lv_aload_n hx hb dX3_isFine_0 rfl (lv_at hl 0 rfl) ?_
  refine lv_bipush (v := 7) hx hb dX3_isFine_1 (by decide) ?_
  obtain ⟨g1, hF⟩ := tc_ob hF
  refine tc_iald2 (j := 7) (by decide) hx hb hK hP 2 rfl ⟨by decide, g1⟩ dX3_isFine_3 ?_
  obtain ⟨kc3, ekc3, hF⟩ := tc_jx hF
  have Jkc3 : ∀ (w2 : Int32) (ls : Array Slot), kc3 w2 = some r → lv_has ls 2 [] → W p l e ({ frames := 0, cells := 0, slots := 0, locals := 0 } : Room) s m (([.ref q, .int a2] : List Value).toArray) below meth c s.heap [] (0) (0) QQ (F0 m 36 ls [.int w2]) := by
    intro w2 ls hF hl
    rw [ekc3] at hF
    dsimp only at hF
    obtain ⟨g4, hF⟩ := tc_ob hF
    have h91 := Option.some.inj hF
    rw [eQQ]
    exact W.zret hx hb hr (tc_nz g4) (fun t ht hW9 => ⟨by rw [← h91], ht⟩) (fun q h => absurd h List.not_mem_nil) dX3_isFine_36
  refine lv_if_ge (tgt := 23) hx hb dX3_isFine_4 (by decide) (fun c5 => ?_) (fun c5 => ?_)
  · have hF := tc_it hF c5
    refine lv_aload_n hx hb dX3_isFine_23 rfl (lv_at hl 0 rfl) ?_
    refine lv_bipush (v := 6) hx hb dX3_isFine_24 (by decide) ?_
    obtain ⟨g6, hF⟩ := tc_ob hF
    refine tc_iald2 (j := 6) (by decide) hx hb hK hP 2 rfl ⟨by decide, g6⟩ dX3_isFine_26 ?_
    refine lv_iload_n hx hb dX3_isFine_27 rfl (lv_at hl 1 rfl) ?_
    refine lv_icmp_le (tgt := 35) hx hb dX3_isFine_28 (by decide) (fun c7 => ?_) (fun c7 => ?_)
    · have hF := tc_it hF c7
      refine lv_iconst (v := 0) hx hb dX3_isFine_35 (by decide) ?_
      exact Jkc3 0 _ hF (lv_sub hl [] rfl) 
    · have hF := tc_if hF c7
      refine lv_iconst (v := 1) hx hb dX3_isFine_31 (by decide) ?_
      refine lv_goto (tgt := 36) hx hb dX3_isFine_32 (by decide) ?_
      exact Jkc3 1 _ hF (lv_sub hl [] rfl) 
  · have hF := tc_if hF c5
    refine lv_aload_n hx hb dX3_isFine_7 rfl (lv_at hl 0 rfl) ?_
    refine lv_bipush (v := 6) hx hb dX3_isFine_8 (by decide) ?_
    obtain ⟨g8, hF⟩ := tc_ob hF
    refine tc_iald2 (j := 6) (by decide) hx hb hK hP 2 rfl ⟨by decide, g8⟩ dX3_isFine_10 ?_
    refine lv_iload_n hx hb dX3_isFine_11 rfl (lv_at hl 1 rfl) ?_
    refine lv_icmp_lt (tgt := 19) hx hb dX3_isFine_12 (by decide) (fun c9 => ?_) (fun c9 => ?_)
    · have hF := tc_it hF c9
      refine lv_iconst (v := 0) hx hb dX3_isFine_19 (by decide) ?_
      refine lv_goto (tgt := 36) hx hb dX3_isFine_20 (by decide) ?_
      exact Jkc3 0 _ hF (lv_sub hl [] rfl) 
    · have hF := tc_if hF c9
      refine lv_iconst (v := 1) hx hb dX3_isFine_15 (by decide) ?_
      refine lv_goto (tgt := 36) hx hb dX3_isFine_16 (by decide) ?_
      exact Jkc3 1 _ hF (lv_sub hl [] rfl) 

def lp_S_areFine_14 : Nat → tc_Z → Int32 → Int32 → Option Nat → Int32 → Option (Int32) → Int32 → Option (Int32)
  | 0, _, _, _, _, _, _, _ => none
  | n_14 + 1, z, a1, a2, a3, v1, kc3, w4 => (if v1 ≤ w4 then kc3  else (if ¬ w4 < 0 ∧ w4.toNatClampNeg < tc_zn z then (if a3 = some (21 + w4.toNatClampNeg) then tc_let (w4 + 1) (fun v8 => lp_S_areFine_14 n_14 z a1 a2 a3 v1 kc3 v8) else (if 5 < tc_zl z (21 + w4.toNatClampNeg) then (if (tc_zf z (21 + w4.toNatClampNeg) 5) = a1 then Option.bind (f_S_isFine (tc_zl z (21 + w4.toNatClampNeg)) (tc_zf z (21 + w4.toNatClampNeg)) a2) (fun r12 => (if r12 = 0 then some 0 else tc_let (w4 + 1) (fun v15 => lp_S_areFine_14 n_14 z a1 a2 a3 v1 kc3 v15))) else tc_let (w4 + 1) (fun v11 => lp_S_areFine_14 n_14 z a1 a2 a3 v1 kc3 v11)) else none)) else none))
def f_S_areFine (z : tc_Z) (a1 : Int32) (a2 : Int32) (a3 : Option Nat) : Option (Int32) := tc_let (nI (tc_zn z)) (fun v1 => tc_jn (some 1) (fun kc3 => lp_S_areFine_14 100 z a1 a2 a3 v1 kc3 0))
set_option maxHeartbeats 16000000 in
set_option maxRecDepth 100000 in
theorem mt_X3_areFine (l : Launch) (D : va_G) (cU cO cI cII cZ : ClassId) (A : Nat → Prop) (F : Nat → Nat) (z : tc_Z) (a1 : Int32) (a2 : Int32) (a3 : Option Nat) (r : Int32) (hbut : ∀ j, a3 = some j → tc_isc z j) (hF : f_S_areFine z a1 a2 a3 = some r) : Met l yX3_areFine wsX3_areFine ({ frames := 1, cells := 0, slots := 0, locals := 21 } : Room) (va_Pc [.ref (F 0), .int a1, .int a2, va_rf (tc_af F a3)] (fun U => tc_WS D cI cII cZ A F z U.heap ∧ va_K D vwCl (tc_ty cU cO cI) U ∧ va_K D vwCl (tc_ts cII cZ) U)) (k2_QcV (.int r)) 0 0 (fun _ => False) := by
  refine Met.ofW (cc := cX3_areFine) (maxL := 8) (ret := (some .boolean)) (by decide) rfl ?_
  intro p e s m args below meth c s₁ B hml hv
  obtain ⟨rfl, hW, hK, hKS⟩ := hv
  have hx := B.exec
  have hb := B.bytes
  have hr := B.returns
  have hts := atoms_spec (ws := wsX3_areFine) B.pre
  have hown : s.vm.findClass RX3 = some m.cls := findClass_of_methodNamed B.named
  have hlocks := B.notSynchronized
  have hinX3 : ∀ w ∈ wsX30, w ∈ wsX3_areFine := fun w9 h9 => List.mem_cons_of_mem _ (List.mem_append_right _ h9)
  have hl := lv_entry ([.ref (F 0), .int a1, .int a2, va_rf (tc_af F a3)]) (n := 8) (by cases a3 <;> exact Nat.le_of_ble_eq_true rfl)
  rw [lg_entry_eq]
  generalize (lg_sl ([.ref (F 0), .int a1, .int a2, va_rf (tc_af F a3)]) ++ List.replicate (8 - (lg_sl ([.ref (F 0), .int a1, .int a2, va_rf (tc_af F a3)])).length) Slot.unset).toArray = ls at hl ⊢
  have hl : lv_has ls 8 [(0, .ref (F 0)), (1, .int a1), (2, .int a2), (3, va_rf (tc_af F a3))] := by cases a3 <;> exact hl
  refine tc_hideQ (R9 := ({ frames := 1, cells := 0, slots := 0, locals := 21 } : Room)) rfl (fun QQ eQQ => ?_)
  refine lv_aload_n hx hb dX3_areFine_0 rfl (lv_at hl 0 rfl) ?_
  refine tc_get (v := .ref (F 3)) hx hb hts hinX3 hown hK (hW.o) (C := RX3) (T := TX3) (N := 6) rfl 4 (by decide) (hts (.fieldLink RX3 19 "TreadCranesLaw$Sim" "cranes" "[[I") (List.mem_of_getElem? (i := 1) rfl)) (fun _ h9 => h9) rfl dX3_areFine_1 ?_
  refine lv_astore (lv' := [(4, .ref (F 3)), (0, .ref (F 0)), (1, .int a1), (2, .int a2), (3, va_rf (tc_af F a3))]) hx hb dX3_areFine_4 hl (by decide) (by cases a3 <;> rfl) (fun ls hl => ?_)
  refine lv_aload hx hb dX3_areFine_6 (lv_at hl 0 rfl) ?_
  refine tc_alen (v := nI (tc_zn z)) hx hb hKS hW.c 0 rfl rfl dX3_areFine_8 ?_
  refine lv_topi (fun v1 ev1 => ?_)
  have hF := tc_lt hF ev1
  refine lv_istore (lv' := [(5, .int v1), (4, .ref (F 3)), (0, .ref (F 0)), (1, .int a1), (2, .int a2), (3, va_rf (tc_af F a3))]) hx hb dX3_areFine_9 hl (by decide) (by cases a3 <;> rfl) (fun ls hl => ?_)
  refine lv_iconst (v := 0) hx hb dX3_areFine_11 (by decide) ?_
  refine lv_istore (lv' := [(6, .int 0), (5, .int v1), (4, .ref (F 3)), (0, .ref (F 0)), (1, .int a1), (2, .int a2), (3, va_rf (tc_af F a3))]) hx hb dX3_areFine_12 hl (by decide) (by cases a3 <;> rfl) (fun ls hl => ?_)
  obtain ⟨kc3, ekc3, hF⟩ := tc_jx hF
  have Jkc3 : ∀  (ls : Array Slot), kc3  = some r → lv_has ls 8 [] → W p l e ({ frames := 1, cells := 0, slots := 0, locals := 21 } : Room) s m (([.ref (F 0), .int a1, .int a2, va_rf (tc_af F a3)] : List Value).toArray) below meth c s.heap [] (0) (0) QQ (F0 m 59 ls []) := by
    intro  ls hF hl
    rw [ekc3] at hF
    refine lv_iconst (v := 1) hx hb dX3_areFine_59 (by decide) ?_
    have h91 := Option.some.inj hF
    rw [eQQ]
    exact W.zret hx hb hr rfl (fun t ht hW9 => ⟨by rw [← h91], ht⟩) (fun q h => absurd h List.not_mem_nil) dX3_areFine_60
  have hL_14 : ∀ (n_14 : Nat) (hn_14 : n_14 ≤ 100) (w4 : Int32) (ls : Array Slot), lp_S_areFine_14 n_14 z a1 a2 a3 v1 kc3 w4 = some r → lv_has ls 8 [(6, .int w4), (5, .int v1), (4, .ref (F 3)), (3, va_rf (tc_af F a3)), (2, .int a2), (1, .int a1)] → W p l e ({ frames := 1, cells := 0, slots := 0, locals := 21 } : Room) s m (([.ref (F 0), .int a1, .int a2, va_rf (tc_af F a3)] : List Value).toArray) below meth c s.heap [] (0) (0) QQ (F0 m 14 ls []) := by
    intro n_14
    induction n_14 with
    | zero => intro _; intro w4 ls hF hl; rw [lp_S_areFine_14] at hF; cases hF
    | succ n_14 ih_14 =>
      intro hn_14
      intro w4 ls hF hl
      rw [lp_S_areFine_14] at hF
      refine lv_iload hx hb dX3_areFine_14 (lv_at hl 0 rfl) ?_
      refine lv_iload hx hb dX3_areFine_16 (lv_at hl 1 rfl) ?_
      refine lv_icmp_ge (tgt := 59) hx hb dX3_areFine_18 (by decide) (fun c5 => ?_) (fun c5 => ?_)
      · have hF := tc_it hF c5
        exact Jkc3  _ hF (lv_sub hl [] rfl) 
      · have hF := tc_if hF c5
        refine lv_aload hx hb dX3_areFine_21 (lv_at hl 2 rfl) ?_
        refine lv_iload hx hb dX3_areFine_23 (lv_at hl 0 rfl) ?_
        obtain ⟨g6, hF⟩ := tc_ob hF
        refine tc_aaldA2 (q := F (21 + w4.toNatClampNeg)) (j := w4.toNatClampNeg) (rfl) hx hb hKS hW.c 0 rfl g6 dX3_areFine_25 rfl ?_
        refine lv_astore (lv' := [(7, .ref (F (21 + w4.toNatClampNeg))), (6, .int w4), (5, .int v1), (4, .ref (F 3)), (3, va_rf (tc_af F a3)), (2, .int a2), (1, .int a1)]) hx hb dX3_areFine_26 hl (by decide) (by cases a3 <;> rfl) (fun ls hl => ?_)
        refine lv_aload hx hb dX3_areFine_28 (lv_at hl 0 rfl) ?_
        refine tc_aloadO_n hx hb dX3_areFine_30 rfl (lv_at hl 4 rfl) ?_
        refine lv_acmp_eq (rx := some (F (21 + w4.toNatClampNeg))) (ry := tc_af F a3) (tgt := 53) hx hb dX3_areFine_31 (by decide) (fun c7 => ?_) (fun c7 => ?_)
        · have hF := tc_it hF (tc_acmp hW hbut (tc_isrK (show ¬ w4 < 0 ∧ w4.toNatClampNeg < tc_zn z from g6).2) |>.mp c7)
          obtain ⟨v8, ev8⟩ : ∃ z9 : Int32, z9 = w4 + 1 := ⟨_, rfl⟩
          have hF := tc_lt hF ev8
          refine lv_iinc (v := v8) (lv' := [(6, .int v8), (7, .ref (F (21 + w4.toNatClampNeg))), (5, .int v1), (4, .ref (F 3)), (3, va_rf (tc_af F a3)), (2, .int a2), (1, .int a1)]) hx hb dX3_areFine_53 hl (k := 1) rfl (by rw [ev8]; rfl) (by decide) (by cases a3 <;> rfl) (fun ls hl => ?_)
          refine lv_goto (tgt := 14) hx hb dX3_areFine_56 (by decide) ?_
          exact ih_14 (Nat.le_of_succ_le hn_14) v8 _ hF (lv_sub hl [0, 2, 3, 4, 5, 6] rfl) 
        · have hF := tc_if hF (fun h9 => c7 (tc_acmp hW hbut (tc_isrK (show ¬ w4 < 0 ∧ w4.toNatClampNeg < tc_zn z from g6).2) |>.mpr h9))
          refine lv_aload hx hb dX3_areFine_34 (lv_at hl 0 rfl) ?_
          refine lv_iconst (v := 5) hx hb dX3_areFine_36 (by decide) ?_
          obtain ⟨g9, hF⟩ := tc_ob hF
          refine tc_iald2 (j := 5) (by decide) hx hb hK (hW.r (tc_isrK (show ¬ w4 < 0 ∧ w4.toNatClampNeg < tc_zn z from g6).2)) 2 rfl ⟨by decide, g9⟩ dX3_areFine_37 ?_
          refine lv_iload_n hx hb dX3_areFine_38 rfl (lv_at hl 6 rfl) ?_
          refine lv_icmp_ne (tgt := 53) hx hb dX3_areFine_39 (by decide) (fun c10 => ?_) (fun c10 => ?_)
          · have hF := tc_if hF c10
            obtain ⟨v11, ev11⟩ : ∃ z9 : Int32, z9 = w4 + 1 := ⟨_, rfl⟩
            have hF := tc_lt hF ev11
            refine lv_iinc (v := v11) (lv' := [(6, .int v11), (7, .ref (F (21 + w4.toNatClampNeg))), (5, .int v1), (4, .ref (F 3)), (3, va_rf (tc_af F a3)), (2, .int a2), (1, .int a1)]) hx hb dX3_areFine_53 hl (k := 1) rfl (by rw [ev11]; rfl) (by decide) (by cases a3 <;> rfl) (fun ls hl => ?_)
            refine lv_goto (tgt := 14) hx hb dX3_areFine_56 (by decide) ?_
            exact ih_14 (Nat.le_of_succ_le hn_14) v11 _ hF (lv_sub hl [0, 2, 3, 4, 5, 6] rfl) 
          · have hF := tc_it hF c10
            refine lv_aload hx hb dX3_areFine_42 (lv_at hl 0 rfl) ?_
            refine lv_iload_n hx hb dX3_areFine_44 rfl (lv_at hl 5 rfl) ?_
            obtain ⟨r12, h13, hF⟩ := tc_bi hF
            refine tc_cr (W.runS (As := [.ref (F (21 + w4.toNatClampNeg)), .int a2]) (rest := []) ⟨hx, hb, hml, hown, hts⟩ (mt_X3_isFine l D cU cO cI (F (21 + w4.toNatClampNeg)) (tc_zl z (21 + w4.toNatClampNeg)) (tc_zf z (21 + w4.toNatClampNeg)) a2 r12 h13) (va_cwS 2 hts gX3_areFine_X3_isFine rfl rfl rfl (by decide +kernel) ⟨Nat.le_of_ble_eq_true rfl, Nat.le_of_ble_eq_true rfl⟩) ⟨fun a U g mk q => ⟨q.1, q.2.1, va_K.moved (Vm.Alike.refl U.vm) q.2.2⟩, fun U hU hW9 => ⟨rfl, by rw [hU]; exact (hW.r (tc_isrK (show ¬ w4 < 0 ∧ w4.toNatClampNeg < tc_zn z from g6).2)), va_K.moved hW9.alike hK⟩⟩ rfl rfl hl.1 rfl (lv_room (Nat.le_of_ble_eq_true rfl)) dX3_areFine_45 ⟨Nat.le_of_ble_eq_true rfl, Nat.le_of_ble_eq_true rfl⟩) ?_
            refine lv_if_ne (tgt := 53) hx hb dX3_areFine_48 (by decide) (fun c14 => ?_) (fun c14 => ?_)
            · have hF := tc_if hF c14
              obtain ⟨v15, ev15⟩ : ∃ z9 : Int32, z9 = w4 + 1 := ⟨_, rfl⟩
              have hF := tc_lt hF ev15
              refine lv_iinc (v := v15) (lv' := [(6, .int v15), (7, .ref (F (21 + w4.toNatClampNeg))), (5, .int v1), (4, .ref (F 3)), (3, va_rf (tc_af F a3)), (2, .int a2), (1, .int a1)]) hx hb dX3_areFine_53 hl (k := 1) rfl (by rw [ev15]; rfl) (by decide) (by cases a3 <;> rfl) (fun ls hl => ?_)
              refine lv_goto (tgt := 14) hx hb dX3_areFine_56 (by decide) ?_
              exact ih_14 (Nat.le_of_succ_le hn_14) v15 _ hF (lv_sub hl [0, 2, 3, 4, 5, 6] rfl) 
            · have hF := tc_it hF c14
              refine lv_iconst (v := 0) hx hb dX3_areFine_51 (by decide) ?_
              have h91 := Option.some.inj hF
              rw [eQQ]
              exact W.zret hx hb hr rfl (fun t ht hW9 => ⟨by rw [← h91], ht⟩) (fun q h => absurd h List.not_mem_nil) dX3_areFine_52
  exact hL_14 100 (Nat.le_refl _) 0 _ hF (lv_sub hl [0, 1, 2, 6, 5, 4] rfl) 

def lp_S_canTurn_25 : Nat → tc_Z → Nat → Int32 → Int32 → Int32 → Option (Int32)
  | 0, _, _, _, _, _ => none
  | n_25 + 1, z, a1, a2, w8, w9 => (if ¬ w8 < 0 ∧ w8.toNatClampNeg < 16 then Option.bind (f_S_isFine (tc_zl z a1) (tc_zf z a1) (nI (tc_zl z (5 + w8.toNatClampNeg)))) (fun r11 => tc_let (w9 &&& r11) (fun v13 => (if w8 = a2 then (if v13 = 0 ∨ v13 = 1 then some v13 else none) else tc_jn (fun (w15 : Int32) => tc_let (w8 + w15) (fun v17 => lp_S_canTurn_25 n_25 z a1 a2 v17 v13)) (fun kc16 => (if a2 ≤ w8 then kc16 (-1) else kc16 1))))) else none)
def f_S_canTurn (z : tc_Z) (a1 : Nat) (a2 : Int32) : Option (Int32) := (if 0 < tc_zl z a1 then tc_let (tc_abs (a2 - (tc_zf z a1 0))) (fun v2 => (if 1 < tc_zl z a1 then tc_jn (fun (w4 : Int32) => (if 5 < tc_zl z a1 then tc_let (tc_zf z a1 5) (fun v7 => lp_S_canTurn_25 100 z a1 a2 v7 w4) else none)) (fun kc5 => (if (tc_zf z a1 1) < v2 then kc5 0 else kc5 1)) else none)) else none)
set_option maxHeartbeats 16000000 in
set_option maxRecDepth 100000 in
theorem mt_X3_canTurn (l : Launch) (D : va_G) (cU cO cI cII cZ : ClassId) (A : Nat → Prop) (F : Nat → Nat) (z : tc_Z) (a1 : Nat) (a2 : Int32) (r : Int32) (hrow : tc_isr z a1) (hF : f_S_canTurn z a1 a2 = some r) : Met l yX3_canTurn wsX3_canTurn ({ frames := 1, cells := 0, slots := 0, locals := 21 } : Room) (va_Pc [.ref (F 0), .ref (F a1), .int a2] (fun U => tc_WS D cI cII cZ A F z U.heap ∧ va_K D vwCl (tc_ty cU cO cI) U ∧ va_K D vwCl (tc_ts cII cZ) U)) (k2_QcV (.int r)) 0 0 (fun _ => False) := by
  refine Met.ofW (cc := cX3_canTurn) (maxL := 5) (ret := (some .boolean)) (by decide) rfl ?_
  intro p e s m args below meth c s₁ B hml hv
  obtain ⟨rfl, hW, hK, hKS⟩ := hv
  have hx := B.exec
  have hb := B.bytes
  have hr := B.returns
  have hts := atoms_spec (ws := wsX3_canTurn) B.pre
  have hown : s.vm.findClass RX3 = some m.cls := findClass_of_methodNamed B.named
  have hlocks := B.notSynchronized
  have hinX3 : ∀ w ∈ wsX30, w ∈ wsX3_canTurn := fun w9 h9 => List.mem_cons_of_mem _ (List.mem_append_right _ h9)
  have hl := lv_entry ([.ref (F 0), .ref (F a1), .int a2]) (n := 5) (Nat.le_of_ble_eq_true rfl)
  rw [lg_entry_eq]
  generalize (lg_sl ([.ref (F 0), .ref (F a1), .int a2]) ++ List.replicate (5 - (lg_sl ([.ref (F 0), .ref (F a1), .int a2])).length) Slot.unset).toArray = ls at hl ⊢
  have hl : lv_has ls 5 [(0, .ref (F 0)), (1, .ref (F a1)), (2, .int a2)] := hl
  refine tc_hideQ (R9 := ({ frames := 1, cells := 0, slots := 0, locals := 21 } : Room)) rfl (fun QQ eQQ => ?_)
  refine lv_iload_n hx hb dX3_canTurn_0 rfl (lv_at hl 2 rfl) ?_
  refine lv_aload_n hx hb dX3_canTurn_1 rfl (lv_at hl 1 rfl) ?_
  refine lv_iconst (v := 0) hx hb dX3_canTurn_2 (by decide) ?_
  obtain ⟨g1, hF⟩ := tc_ob hF
  refine tc_iald2 (j := 0) (by decide) hx hb hK (hW.r hrow) 2 rfl ⟨by decide, g1⟩ dX3_canTurn_3 ?_
  refine lv_isub hx hb dX3_canTurn_4 ?_
  refine va_mabs hx hb (by rw [hml]; exact hl.1.symm) hown (hts (.methodLink RX3 36 Lib.Math.abs.name) (List.mem_of_getElem? (i := 1) rfl)) (hts (.static Lib.Math.abs.name) (List.mem_of_getElem? (i := 2) rfl)) (hts (.initialized "java/lang/Math") (List.mem_of_getElem? (i := 3) rfl)) (hts (.code Lib.Math.abs.name Lib.Math.abs.code 1 (some .int)) (List.mem_of_getElem? (i := 4) rfl)) (Nat.le_of_ble_eq_true rfl) (Nat.le_of_ble_eq_true rfl) (Nat.le_of_ble_eq_true rfl) (Nat.le_of_ble_eq_true rfl) dX3_canTurn_5 ?_
  refine lv_topi (fun v2 ev2 => ?_)
  have hF := tc_lt hF ev2
  refine lv_aload_n hx hb dX3_canTurn_8 rfl (lv_at hl 1 rfl) ?_
  refine lv_iconst (v := 1) hx hb dX3_canTurn_9 (by decide) ?_
  obtain ⟨g3, hF⟩ := tc_ob hF
  refine tc_iald2 (j := 1) (by decide) hx hb hK (hW.r hrow) 2 rfl ⟨by decide, g3⟩ dX3_canTurn_10 ?_
  obtain ⟨kc5, ekc5, hF⟩ := tc_jx hF
  have Jkc5 : ∀ (w4 : Int32) (ls : Array Slot), kc5 w4 = some r → lv_has ls 5 [(2, .int a2), (1, .ref (F a1)), (0, .ref (F 0))] → W p l e ({ frames := 1, cells := 0, slots := 0, locals := 21 } : Room) s m (([.ref (F 0), .ref (F a1), .int a2] : List Value).toArray) below meth c s.heap [] (0) (0) QQ (F0 m 19 ls [.int w4]) := by
    intro w4 ls hF hl
    rw [ekc5] at hF
    dsimp only at hF
    refine lv_istore_n (lv' := [(3, .int w4), (2, .int a2), (1, .ref (F a1)), (0, .ref (F 0))]) hx hb dX3_canTurn_19 rfl hl (by decide) rfl (fun ls hl => ?_)
    refine lv_aload_n hx hb dX3_canTurn_20 rfl (lv_at hl 2 rfl) ?_
    refine lv_iconst (v := 5) hx hb dX3_canTurn_21 (by decide) ?_
    obtain ⟨g6, hF⟩ := tc_ob hF
    refine tc_iald2 (j := 5) (by decide) hx hb hK (hW.r hrow) 2 rfl ⟨by decide, g6⟩ dX3_canTurn_22 ?_
    refine lv_topi (fun v7 ev7 => ?_)
    have hF := tc_lt hF ev7
    refine lv_istore (lv' := [(4, .int v7), (3, .int w4), (2, .int a2), (1, .ref (F a1)), (0, .ref (F 0))]) hx hb dX3_canTurn_23 hl (by decide) rfl (fun ls hl => ?_)
    have hL_25 : ∀ (n_25 : Nat) (hn_25 : n_25 ≤ 100) (w8 : Int32) (w9 : Int32) (ls : Array Slot), lp_S_canTurn_25 n_25 z a1 a2 w8 w9 = some r → lv_has ls 5 [(4, .int w8), (3, .int w9), (2, .int a2), (1, .ref (F a1)), (0, .ref (F 0))] → W p l e ({ frames := 1, cells := 0, slots := 0, locals := 21 } : Room) s m (([.ref (F 0), .ref (F a1), .int a2] : List Value).toArray) below meth c s.heap [] (0) (0) QQ (F0 m 25 ls []) := by
      intro n_25
      induction n_25 with
      | zero => intro _; intro w8 w9 ls hF hl; rw [lp_S_canTurn_25] at hF; cases hF
      | succ n_25 ih_25 =>
        intro hn_25
        intro w8 w9 ls hF hl
        rw [lp_S_canTurn_25] at hF
        refine lv_iload_n hx hb dX3_canTurn_25 rfl (lv_at hl 1 rfl) ?_
        refine lv_aload_n hx hb dX3_canTurn_26 rfl (lv_at hl 3 rfl) ?_
        refine lv_aload_n hx hb dX3_canTurn_27 rfl (lv_at hl 4 rfl) ?_
        refine tc_get (v := .ref (F 1)) hx hb hts hinX3 hown hK (hW.o) (C := RX3) (T := TX3) (N := 6) rfl 2 (by decide) (hts (.fieldLink RX3 9 "TreadCranesLaw$Sim" "quay" "[[I") (List.mem_of_getElem? (i := 5) rfl)) (fun _ h9 => h9) rfl dX3_canTurn_28 ?_
        refine lv_iload hx hb dX3_canTurn_31 (lv_at hl 0 rfl) ?_
        obtain ⟨g10, hF⟩ := tc_ob hF
        refine tc_aaldA2 (q := F (5 + w8.toNatClampNeg)) (j := w8.toNatClampNeg) (rfl) hx hb hKS hW.q 0 rfl g10 dX3_canTurn_33 rfl ?_
        refine tc_alen (v := nI (tc_zl z (5 + w8.toNatClampNeg))) hx hb hK (hW.r (tc_isrQ (show ¬ w8 < 0 ∧ w8.toNatClampNeg < 16 from g10).2)) 2 rfl rfl dX3_canTurn_34 ?_
        obtain ⟨r11, h12, hF⟩ := tc_bi hF
        refine tc_cr (W.runS (As := [.ref (F a1), .int (nI (tc_zl z (5 + w8.toNatClampNeg)))]) (rest := [.int w9]) ⟨hx, hb, hml, hown, hts⟩ (mt_X3_isFine l D cU cO cI (F a1) (tc_zl z a1) (tc_zf z a1) (nI (tc_zl z (5 + w8.toNatClampNeg))) r11 h12) (va_cwS 2 hts gX3_canTurn_X3_isFine rfl rfl rfl (by decide +kernel) ⟨Nat.le_of_ble_eq_true rfl, Nat.le_of_ble_eq_true rfl⟩) ⟨fun a U g mk q => ⟨q.1, q.2.1, va_K.moved (Vm.Alike.refl U.vm) q.2.2⟩, fun U hU hW9 => ⟨rfl, by rw [hU]; exact (hW.r hrow), va_K.moved hW9.alike hK⟩⟩ rfl rfl hl.1 rfl (lv_room (Nat.le_of_ble_eq_true rfl)) dX3_canTurn_35 ⟨Nat.le_of_ble_eq_true rfl, Nat.le_of_ble_eq_true rfl⟩) ?_
        refine lv_iand hx hb dX3_canTurn_38 ?_
        refine lv_topi (fun v13 ev13 => ?_)
        have hF := tc_lt hF ev13
        refine lv_istore_n (lv' := [(3, .int v13), (4, .int w8), (2, .int a2), (1, .ref (F a1)), (0, .ref (F 0))]) hx hb dX3_canTurn_39 rfl hl (by decide) rfl (fun ls hl => ?_)
        refine lv_iload hx hb dX3_canTurn_40 (lv_at hl 1 rfl) ?_
        refine lv_iload_n hx hb dX3_canTurn_42 rfl (lv_at hl 2 rfl) ?_
        refine lv_icmp_ne (tgt := 48) hx hb dX3_canTurn_43 (by decide) (fun c14 => ?_) (fun c14 => ?_)
        · have hF := tc_if hF c14
          refine lv_iload hx hb dX3_canTurn_48 (lv_at hl 1 rfl) ?_
          refine lv_iload_n hx hb dX3_canTurn_50 rfl (lv_at hl 2 rfl) ?_
          refine lv_iload hx hb dX3_canTurn_51 (lv_at hl 1 rfl) ?_
          obtain ⟨kc16, ekc16, hF⟩ := tc_jx hF
          have Jkc16 : ∀ (w15 : Int32) (ls : Array Slot), kc16 w15 = some r → lv_has ls 5 [(3, .int v13), (2, .int a2), (1, .ref (F a1)), (0, .ref (F 0))] → W p l e ({ frames := 1, cells := 0, slots := 0, locals := 21 } : Room) s m (([.ref (F 0), .ref (F a1), .int a2] : List Value).toArray) below meth c s.heap [] (0) (0) QQ (F0 m 61 ls [.int w15, .int w8]) := by
            intro w15 ls hF hl
            rw [ekc16] at hF
            dsimp only at hF
            refine lv_iadd hx hb dX3_canTurn_61 ?_
            refine lv_topi (fun v17 ev17 => ?_)
            have hF := tc_lt hF ev17
            refine lv_istore (lv' := [(4, .int v17), (3, .int v13), (2, .int a2), (1, .ref (F a1)), (0, .ref (F 0))]) hx hb dX3_canTurn_62 hl (by decide) rfl (fun ls hl => ?_)
            refine lv_goto (tgt := 25) hx hb dX3_canTurn_64 (by decide) ?_
            exact ih_25 (Nat.le_of_succ_le hn_25) v17 v13 _ hF (lv_sub hl [0, 1, 2, 3, 4] rfl) 
          refine lv_icmp_le (tgt := 60) hx hb dX3_canTurn_53 (by decide) (fun c18 => ?_) (fun c18 => ?_)
          · have hF := tc_it hF c18
            refine lv_iconst (v := (-1)) hx hb dX3_canTurn_60 (by decide) ?_
            exact Jkc16 (-1) _ hF (lv_sub hl [0, 2, 3, 4] rfl) 
          · have hF := tc_if hF c18
            refine lv_iconst (v := 1) hx hb dX3_canTurn_56 (by decide) ?_
            refine lv_goto (tgt := 61) hx hb dX3_canTurn_57 (by decide) ?_
            exact Jkc16 1 _ hF (lv_sub hl [0, 2, 3, 4] rfl) 
        · have hF := tc_it hF c14
          refine lv_iload_n hx hb dX3_canTurn_46 rfl (lv_at hl 0 rfl) ?_
          obtain ⟨g19, hF⟩ := tc_ob hF
          have h91 := Option.some.inj hF
          rw [eQQ]
          exact W.zret hx hb hr (tc_nz g19) (fun t ht hW9 => ⟨by rw [← h91], ht⟩) (fun q h => absurd h List.not_mem_nil) dX3_canTurn_47
    exact hL_25 100 (Nat.le_refl _) v7 w4 _ hF (lv_sub hl [0, 1, 2, 3, 4] rfl) 
  refine lv_icmp_gt (tgt := 18) hx hb dX3_canTurn_11 (by decide) (fun c20 => ?_) (fun c20 => ?_)
  · have hF := tc_it hF c20
    refine lv_iconst (v := 0) hx hb dX3_canTurn_18 (by decide) ?_
    exact Jkc5 0 _ hF (lv_sub hl [2, 1, 0] rfl) 
  · have hF := tc_if hF c20
    refine lv_iconst (v := 1) hx hb dX3_canTurn_14 (by decide) ?_
    refine lv_goto (tgt := 19) hx hb dX3_canTurn_15 (by decide) ?_
    exact Jkc5 1 _ hF (lv_sub hl [2, 1, 0] rfl) 

