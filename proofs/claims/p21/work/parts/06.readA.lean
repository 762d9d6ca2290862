def f_X2_uppermostAt (x : tc_X) (a1 : Int32) : Option (Option Nat) := Option.bind (f_X2_isPlace a1) (fun r1 => (if r1 = 0 then some none else (if ¬ a1 < 0 ∧ a1.toNatClampNeg < 16 then (tc_oc (x.2.1 0 a1.toNatClampNeg) (some none) (fun j6 => some (some j6))) else none)))
set_option maxHeartbeats 4000000 in
set_option maxRecDepth 100000 in
theorem mt_X2_uppermostAt (l : Launch) (D : va_G) (cU cO cI : ClassId) (e0 : Nat) (A : Nat → Prop) (E : Nat → Nat) (x : tc_X) (a1 : Int32) (r : Option Nat) (hF : f_X2_uppermostAt x a1 = some r) : Met l yX2_uppermostAt wsX2_uppermostAt ({ frames := 2, cells := 0, slots := 0, locals := 42 } : Room) (va_Pc [.ref (E 0), .int a1] (fun U => tc_WC D cU cO e0 A E x U.heap ∧ tc_KC D cU cO cI U)) (k2_QcV (va_rf (tc_ad E 6 r))) 0 0 (fun _ => False) := by
  refine Met.ofW (cc := cX2_uppermostAt) (maxL := 2) (ret := (some (.object "TreadCranes$Barrel"))) (by decide) rfl ?_
  intro p e s m args below meth c s₁ B hml hv
  obtain ⟨rfl, hW, hKC⟩ := hv
  have hx := B.exec
  have hb := B.bytes
  have hr := B.returns
  have hts := atoms_spec (ws := wsX2_uppermostAt) B.pre
  have hown : s.vm.findClass RX2 = some m.cls := findClass_of_methodNamed B.named
  have hlocks := B.notSynchronized
  have hK := hKC.1
  have hinX2 : ∀ w ∈ wsX20, w ∈ wsX2_uppermostAt := fun w9 h9 => List.mem_cons_of_mem _ (List.mem_append_right _ h9)
  have hl := lv_entry ([.ref (E 0), .int a1]) (n := 2) (Nat.le_of_ble_eq_true rfl)
  rw [lg_entry_eq]
  generalize (lg_sl ([.ref (E 0), .int a1]) ++ List.replicate (2 - (lg_sl ([.ref (E 0), .int a1])).length) Slot.unset).toArray = ls at hl ⊢
  have hl : lv_has ls 2 [(0, .ref (E 0)), (1, .int a1)] := hl
  refine lv_iload_n hx hb dX2_uppermostAt_0 rfl (lv_at hl 1 rfl) ?_
  obtain ⟨r1, h2, hF⟩ := tc_bi hF
  refine tc_cr (W.runS (As := [.int a1]) (rest := []) ⟨hx, hb, hml, hown, hts⟩ (mt_X2_isPlace l   a1 r1 h2) (va_cwS 1 hts gX2_uppermostAt_X2_isPlace rfl rfl rfl (by decide +kernel) ⟨Nat.le_of_ble_eq_true rfl, Nat.le_of_ble_eq_true rfl⟩) ⟨fun a U g mk q => q, fun U hU hW9 => ⟨rfl, trivial⟩⟩ rfl rfl hl.1 rfl (lv_room (Nat.le_of_ble_eq_true rfl)) dX2_uppermostAt_1 ⟨Nat.le_of_ble_eq_true rfl, Nat.le_of_ble_eq_true rfl⟩) ?_
  refine lv_if_eq (tgt := 16) hx hb dX2_uppermostAt_4 (by decide) (fun c3 => ?_) (fun c3 => ?_)
  · have hF := tc_it hF c3
    refine lv_null hx hb dX2_uppermostAt_16 ?_
    have h91 := Option.some.inj hF
    exact W.aret hx hb hr (Or.inl ⟨_, rfl⟩) (Or.inl rfl) (fun t ht hW9 => ⟨by rw [← h91]; rfl, ht⟩) (fun q h => absurd h List.not_mem_nil) dX2_uppermostAt_17
  · have hF := tc_if hF c3
    refine lv_aload_n hx hb dX2_uppermostAt_7 rfl (lv_at hl 0 rfl) ?_
    refine tc_get (v := .ref (E 1)) hx hb hts hinX2 hown hK (hW.o) (C := RX2) (T := TX2) (N := 4) rfl 0 (by decide) (hts (.fieldLink RX2 11 "TreadCranes" "uppermost" "[LTreadCranes$Barrel;") (List.mem_of_getElem? (i := 1) rfl)) (fun _ h9 => h9) rfl dX2_uppermostAt_8 ?_
    refine lv_iload_n hx hb dX2_uppermostAt_11 rfl (lv_at hl 1 rfl) ?_
    obtain ⟨g4, hF⟩ := tc_ob hF
    refine tc_aald hx hb hK hW.u 0 rfl g4 dX2_uppermostAt_12 ?_
    refine tc_opt (fun o5 => ?_) (fun j6 o5 => ?_)
    · have hF := tc_on hF o5
      refine lv_goto (tgt := 17) hx hb dX2_uppermostAt_13 (by decide) ?_
      have h91 := Option.some.inj hF
      exact W.aret hx hb hr (Or.inl ⟨_, rfl⟩) (Or.inl rfl) (fun t ht hW9 => ⟨by rw [← h91]; rfl, ht⟩) (fun q h => absurd h List.not_mem_nil) dX2_uppermostAt_17
    · have hF := tc_os hF o5
      refine lv_goto (tgt := 17) hx hb dX2_uppermostAt_13 (by decide) ?_
      have h91 := Option.some.inj hF
      exact W.aret hx hb hr (Or.inl ⟨_, rfl⟩) (Or.inr ⟨_, rfl⟩) (fun t ht hW9 => ⟨by rw [← h91]; rfl, ht⟩) (fun q h => absurd h List.not_mem_nil) dX2_uppermostAt_17

def f_X2_heightOf (x : tc_X) (a1 : Int32) : Option (Int32) := Option.bind (f_X2_uppermostAt x a1) (fun r1 => (tc_oc (r1) (some 0) (fun j4 => (if j4 < tc_nb x then some ((x.1 13 j4) + 1) else none))))
set_option maxHeartbeats 4000000 in
set_option maxRecDepth 100000 in
theorem mt_X2_heightOf (l : Launch) (D : va_G) (cU cO cI : ClassId) (e0 : Nat) (A : Nat → Prop) (E : Nat → Nat) (x : tc_X) (a1 : Int32) (r : Int32) (hF : f_X2_heightOf x a1 = some r) : Met l yX2_heightOf wsX2_heightOf ({ frames := 3, cells := 0, slots := 0, locals := 63 } : Room) (va_Pc [.ref (E 0), .int a1] (fun U => tc_WC D cU cO e0 A E x U.heap ∧ tc_KC D cU cO cI U)) (k2_QcV (.int r)) 0 0 (fun _ => False) := by
  refine Met.ofW (cc := cX2_heightOf) (maxL := 3) (ret := (some .int)) (by decide) rfl ?_
  intro p e s m args below meth c s₁ B hml hv
  obtain ⟨rfl, hW, hKC⟩ := hv
  have hx := B.exec
  have hb := B.bytes
  have hr := B.returns
  have hts := atoms_spec (ws := wsX2_heightOf) B.pre
  have hown : s.vm.findClass RX2 = some m.cls := findClass_of_methodNamed B.named
  have hlocks := B.notSynchronized
  have hK := hKC.1
  have hinX0 : ∀ w ∈ wsX00, w ∈ wsX2_heightOf := fun w9 h9 => List.mem_cons_of_mem _ (List.mem_append_left _ (List.mem_append_right _ h9))
  have hl := lv_entry ([.ref (E 0), .int a1]) (n := 3) (Nat.le_of_ble_eq_true rfl)
  rw [lg_entry_eq]
  generalize (lg_sl ([.ref (E 0), .int a1]) ++ List.replicate (3 - (lg_sl ([.ref (E 0), .int a1])).length) Slot.unset).toArray = ls at hl ⊢
  have hl : lv_has ls 3 [(0, .ref (E 0)), (1, .int a1)] := hl
  refine lv_aload_n hx hb dX2_heightOf_0 rfl (lv_at hl 0 rfl) ?_
  refine lv_iload_n hx hb dX2_heightOf_1 rfl (lv_at hl 1 rfl) ?_
  obtain ⟨r1, h2, hF⟩ := tc_bi hF
  refine tc_cr (W.runV (As := [.int a1]) (rest := []) ⟨hx, hb, hml, hown, hts⟩ (mt_X2_uppermostAt l D cU cO cI e0 A E x a1 r1 h2) (cwV 1 hts gX2_heightOf_X2_uppermostAt rfl rfl rfl (by decide +kernel) ⟨Nat.le_of_ble_eq_true rfl, Nat.le_of_ble_eq_true rfl⟩) ⟨fun a U g mk q => ⟨q.1, q.2.1, q.2.2.call⟩, tc_rcv (hW.o) hK rfl, fun U hU hW9 => ⟨rfl, by rw [hU]; exact hW, hKC.warm hW9⟩⟩ rfl rfl hl.1 rfl (lv_room (Nat.le_of_ble_eq_true rfl)) dX2_heightOf_2 ⟨Nat.le_of_ble_eq_true rfl, Nat.le_of_ble_eq_true rfl⟩) ?_
  refine tc_opt (fun o3 => ?_) (fun j4 o3 => ?_)
  · have hF := tc_on hF o3
    refine lv_astore_nN (lv' := [(2, .null), (0, .ref (E 0)), (1, .int a1)]) hx hb dX2_heightOf_5 rfl hl (by decide) rfl (fun ls hl => ?_)
    refine lv_aload_nN hx hb dX2_heightOf_6 rfl (lv_at hl 0 rfl) ?_
    refine lv_ifnonnullN hx hb dX2_heightOf_7 ?_
    refine lv_iconst (v := 0) hx hb dX2_heightOf_10 (by decide) ?_
    refine lv_goto (tgt := 20) hx hb dX2_heightOf_11 (by decide) ?_
    have h91 := Option.some.inj hF
    exact W.iret hx hb hr (fun t ht hW9 => ⟨by rw [← h91], ht⟩) (fun q h => absurd h List.not_mem_nil) dX2_heightOf_20
  · have hF := tc_os hF o3
    refine lv_astore_n (lv' := [(2, .ref (E (6 + j4))), (0, .ref (E 0)), (1, .int a1)]) hx hb dX2_heightOf_5 rfl hl (by decide) rfl (fun ls hl => ?_)
    refine lv_aload_n hx hb dX2_heightOf_6 rfl (lv_at hl 0 rfl) ?_
    refine lv_ifnonnull (tgt := 14) hx hb dX2_heightOf_7 (by decide) ?_
    refine lv_aload_n hx hb dX2_heightOf_14 rfl (lv_at hl 0 rfl) ?_
    obtain ⟨g5, hF⟩ := tc_ob hF
    refine tc_get (v := .int (x.1 13 j4)) hx hb hts hinX0 hown hK (hW.b g5) (C := RX0) (T := TX0) (N := 7) rfl 3 (by decide) (hts (.fieldLink RX2 222 "TreadCranes$Barrel" "level" "I") (List.mem_of_getElem? (i := 1) rfl)) (fun _ h9 => h9) rfl dX2_heightOf_15 ?_
    refine lv_iconst (v := 1) hx hb dX2_heightOf_18 (by decide) ?_
    refine lv_iadd hx hb dX2_heightOf_19 ?_
    have h91 := Option.some.inj hF
    exact W.iret hx hb hr (fun t ht hW9 => ⟨by rw [← h91], ht⟩) (fun q h => absurd h List.not_mem_nil) dX2_heightOf_20

def lp_X2_highestBetween_5 : Nat → tc_X → Int32 → Int32 → Int32 → Int32 → Option (Int32)
  | 0, _, _, _, _, _ => none
  | n_5 + 1, x, a1, a2, w1, w2 => (if 16 ≤ w2 then some w1 else tc_let (tc_min a1 a2) (fun v4 => tc_let (tc_max a1 a2) (fun v5 => Option.bind (f_X2_isBetween w2 v4 v5) (fun r6 => (if r6 = 0 then tc_let (w2 + 1) (fun v9 => lp_X2_highestBetween_5 n_5 x a1 a2 w1 v9) else Option.bind (f_X2_heightOf x w2) (fun r10 => tc_let (tc_max w1 r10) (fun v12 => tc_let (w2 + 1) (fun v13 => lp_X2_highestBetween_5 n_5 x a1 a2 v12 v13))))))))
def f_X2_highestBetween (x : tc_X) (a1 : Int32) (a2 : Int32) : Option (Int32) := lp_X2_highestBetween_5 100 x a1 a2 0 0
set_option maxHeartbeats 4000000 in
set_option maxRecDepth 100000 in
theorem mt_X2_highestBetween (l : Launch) (D : va_G) (cU cO cI : ClassId) (e0 : Nat) (A : Nat → Prop) (E : Nat → Nat) (x : tc_X) (a1 : Int32) (a2 : Int32) (r : Int32) (hF : f_X2_highestBetween x a1 a2 = some r) : Met l yX2_highestBetween wsX2_highestBetween ({ frames := 4, cells := 0, slots := 0, locals := 85 } : Room) (va_Pc [.ref (E 0), .int a1, .int a2] (fun U => tc_WC D cU cO e0 A E x U.heap ∧ tc_KC D cU cO cI U)) (k2_QcV (.int r)) 0 0 (fun _ => False) := by
  refine Met.ofW (cc := cX2_highestBetween) (maxL := 5) (ret := (some .int)) (by decide) rfl ?_
  intro p e s m args below meth c s₁ B hml hv
  obtain ⟨rfl, hW, hKC⟩ := hv
  have hx := B.exec
  have hb := B.bytes
  have hr := B.returns
  have hts := atoms_spec (ws := wsX2_highestBetween) B.pre
  have hown : s.vm.findClass RX2 = some m.cls := findClass_of_methodNamed B.named
  have hlocks := B.notSynchronized
  have hK := hKC.1
  have hl := lv_entry ([.ref (E 0), .int a1, .int a2]) (n := 5) (Nat.le_of_ble_eq_true rfl)
  rw [lg_entry_eq]
  generalize (lg_sl ([.ref (E 0), .int a1, .int a2]) ++ List.replicate (5 - (lg_sl ([.ref (E 0), .int a1, .int a2])).length) Slot.unset).toArray = ls at hl ⊢
  have hl : lv_has ls 5 [(0, .ref (E 0)), (1, .int a1), (2, .int a2)] := hl
  refine lv_iconst (v := 0) hx hb dX2_highestBetween_0 (by decide) ?_
  refine lv_istore_n (lv' := [(3, .int 0), (0, .ref (E 0)), (1, .int a1), (2, .int a2)]) hx hb dX2_highestBetween_1 rfl hl (by decide) rfl (fun ls hl => ?_)
  refine lv_iconst (v := 0) hx hb dX2_highestBetween_2 (by decide) ?_
  refine lv_istore (lv' := [(4, .int 0), (3, .int 0), (0, .ref (E 0)), (1, .int a1), (2, .int a2)]) hx hb dX2_highestBetween_3 hl (by decide) rfl (fun ls hl => ?_)
  refine tc_lp2 (fun n w1 w2 => lp_X2_highestBetween_5 n x a1 a2 w1 w2) (fun w1 w2 => [(0, .ref (E 0)), (1, .int a1), (2, .int a2), (3, .int w1), (4, .int w2)]) 100 0 0 ?_ ?_ hF (lv_sub hl [2, 3, 4, 1, 0] rfl)
  · intro n_5 w1 w2 ih_5 hF ls hl
    have hF : lp_X2_highestBetween_5 (n_5 + 1) x a1 a2 w1 w2 = some r := hF
    rw [lp_X2_highestBetween_5] at hF
    refine lv_iload hx hb dX2_highestBetween_5 (lv_at hl 4 rfl) ?_
    refine lv_bipush (v := 16) hx hb dX2_highestBetween_7 (by decide) ?_
    refine lv_icmp_ge (tgt := 47) hx hb dX2_highestBetween_9 (by decide) (fun c3 => ?_) (fun c3 => ?_)
    · have hF := tc_it hF c3
      refine lv_iload_n hx hb dX2_highestBetween_47 rfl (lv_at hl 3 rfl) ?_
      have h91 := Option.some.inj hF
      exact W.iret hx hb hr (fun t ht hW9 => ⟨by rw [← h91], ht⟩) (fun q h => absurd h List.not_mem_nil) dX2_highestBetween_48
    · have hF := tc_if hF c3
      refine lv_iload hx hb dX2_highestBetween_12 (lv_at hl 4 rfl) ?_
      refine lv_iload_n hx hb dX2_highestBetween_14 rfl (lv_at hl 1 rfl) ?_
      refine lv_iload_n hx hb dX2_highestBetween_15 rfl (lv_at hl 2 rfl) ?_
      refine va_mmin hx hb (by rw [hml]; exact hl.1.symm) hown (hts (.methodLink RX2 225 Lib.Math.min.name) (List.mem_of_getElem? (i := 1) rfl)) (hts (.static Lib.Math.min.name) (List.mem_of_getElem? (i := 2) rfl)) (hts (.initialized "java/lang/Math") (List.mem_of_getElem? (i := 3) rfl)) (hts (.code Lib.Math.min.name Lib.Math.min.code 2 (some .int)) (List.mem_of_getElem? (i := 4) rfl)) (Nat.le_of_ble_eq_true rfl) (Nat.le_of_ble_eq_true rfl) (Nat.le_of_ble_eq_true rfl) (Nat.le_of_ble_eq_true rfl) dX2_highestBetween_16 ?_
      refine lv_topi (fun v4 ev4 => ?_)
      have hF := tc_lt hF ev4
      refine lv_iload_n hx hb dX2_highestBetween_19 rfl (lv_at hl 1 rfl) ?_
      refine lv_iload_n hx hb dX2_highestBetween_20 rfl (lv_at hl 2 rfl) ?_
      refine va_mmax hx hb (by rw [hml]; exact hl.1.symm) hown (hts (.methodLink RX2 228 Lib.Math.max.name) (List.mem_of_getElem? (i := 5) rfl)) (hts (.static Lib.Math.max.name) (List.mem_of_getElem? (i := 6) rfl)) (hts (.initialized "java/lang/Math") (List.mem_of_getElem? (i := 3) rfl)) (hts (.code Lib.Math.max.name Lib.Math.max.code 2 (some .int)) (List.mem_of_getElem? (i := 7) rfl)) (Nat.le_of_ble_eq_true rfl) (Nat.le_of_ble_eq_true rfl) (Nat.le_of_ble_eq_true rfl) (Nat.le_of_ble_eq_true rfl) dX2_highestBetween_21 ?_
      refine lv_topi (fun v5 ev5 => ?_)
      have hF := tc_lt hF ev5
      obtain ⟨r6, h7, hF⟩ := tc_bi hF
      refine tc_cr (W.runS (As := [.int w2, .int v4, .int v5]) (rest := []) ⟨hx, hb, hml, hown, hts⟩ (mt_X2_isBetween l   w2 v4 v5 r6 h7) (va_cwS 3 hts gX2_highestBetween_X2_isBetween rfl rfl rfl (by decide +kernel) ⟨Nat.le_of_ble_eq_true rfl, Nat.le_of_ble_eq_true rfl⟩) ⟨fun a U g mk q => q, fun U hU hW9 => ⟨rfl, trivial⟩⟩ rfl rfl hl.1 rfl (lv_room (Nat.le_of_ble_eq_true rfl)) dX2_highestBetween_24 ⟨Nat.le_of_ble_eq_true rfl, Nat.le_of_ble_eq_true rfl⟩) ?_
      refine lv_if_eq (tgt := 41) hx hb dX2_highestBetween_27 (by decide) (fun c8 => ?_) (fun c8 => ?_)
      · have hF := tc_it hF c8
        obtain ⟨v9, ev9⟩ : ∃ z : Int32, z = w2 + 1 := ⟨_, rfl⟩
        have hF := tc_lt hF ev9
        refine lv_iinc (v := v9) (lv' := [(4, .int v9), (0, .ref (E 0)), (1, .int a1), (2, .int a2), (3, .int w1)]) hx hb dX2_highestBetween_41 hl (k := 4) rfl (by rw [ev9]; rfl) (by decide) rfl (fun ls hl => ?_)
        refine lv_goto (tgt := 5) hx hb dX2_highestBetween_44 (by decide) ?_
        exact ih_5 w1 v9 hF _ (lv_sub hl [1, 2, 3, 4, 0] rfl)
      · have hF := tc_if hF c8
        refine lv_iload_n hx hb dX2_highestBetween_30 rfl (lv_at hl 3 rfl) ?_
        refine lv_aload_n hx hb dX2_highestBetween_31 rfl (lv_at hl 0 rfl) ?_
        refine lv_iload hx hb dX2_highestBetween_32 (lv_at hl 4 rfl) ?_
        obtain ⟨r10, h11, hF⟩ := tc_bi hF
        refine tc_cr (W.runV (As := [.int w2]) (rest := [.int w1]) ⟨hx, hb, hml, hown, hts⟩ (mt_X2_heightOf l D cU cO cI e0 A E x w2 r10 h11) (cwV 1 hts gX2_highestBetween_X2_heightOf rfl rfl rfl (by decide +kernel) ⟨Nat.le_of_ble_eq_true rfl, Nat.le_of_ble_eq_true rfl⟩) ⟨fun a U g mk q => ⟨q.1, q.2.1, q.2.2.call⟩, tc_rcv (hW.o) hK rfl, fun U hU hW9 => ⟨rfl, by rw [hU]; exact hW, hKC.warm hW9⟩⟩ rfl rfl hl.1 rfl (lv_room (Nat.le_of_ble_eq_true rfl)) dX2_highestBetween_34 ⟨Nat.le_of_ble_eq_true rfl, Nat.le_of_ble_eq_true rfl⟩) ?_
        refine va_mmax hx hb (by rw [hml]; exact hl.1.symm) hown (hts (.methodLink RX2 228 Lib.Math.max.name) (List.mem_of_getElem? (i := 5) rfl)) (hts (.static Lib.Math.max.name) (List.mem_of_getElem? (i := 6) rfl)) (hts (.initialized "java/lang/Math") (List.mem_of_getElem? (i := 3) rfl)) (hts (.code Lib.Math.max.name Lib.Math.max.code 2 (some .int)) (List.mem_of_getElem? (i := 7) rfl)) (Nat.le_of_ble_eq_true rfl) (Nat.le_of_ble_eq_true rfl) (Nat.le_of_ble_eq_true rfl) (Nat.le_of_ble_eq_true rfl) dX2_highestBetween_37 ?_
        refine lv_topi (fun v12 ev12 => ?_)
        have hF := tc_lt hF ev12
        refine lv_istore_n (lv' := [(3, .int v12), (0, .ref (E 0)), (1, .int a1), (2, .int a2), (4, .int w2)]) hx hb dX2_highestBetween_40 rfl hl (by decide) rfl (fun ls hl => ?_)
        obtain ⟨v13, ev13⟩ : ∃ z : Int32, z = w2 + 1 := ⟨_, rfl⟩
        have hF := tc_lt hF ev13
        refine lv_iinc (v := v13) (lv' := [(4, .int v13), (3, .int v12), (0, .ref (E 0)), (1, .int a1), (2, .int a2)]) hx hb dX2_highestBetween_41 hl (k := 4) rfl (by rw [ev13]; rfl) (by decide) rfl (fun ls hl => ?_)
        refine lv_goto (tgt := 5) hx hb dX2_highestBetween_44 (by decide) ?_
        exact ih_5 v12 v13 hF _ (lv_sub hl [2, 3, 4, 1, 0] rfl)
  · intro w1 w2 h9
    have h9 : lp_X2_highestBetween_5 0 x a1 a2 w1 w2 = some r := h9
    rw [lp_X2_highestBetween_5] at h9
    cases h9

def lp_X2_hooksAllow_3 : Nat → tc_X → Int32 → Int32 → Int32 → Int32 → Option (Int32)
  | 0, _, _, _, _, _ => none
  | n_3 + 1, x, a1, a2, a3, w1 => (if (nI (tc_nc x)) ≤ w1 then some 1 else (if ¬ w1 < 0 ∧ w1.toNatClampNeg < tc_nc x then tc_let w1.toNatClampNeg (fun b4 => (if w1 = a3 then tc_let (w1 + 1) (fun v7 => lp_X2_hooksAllow_3 n_3 x a1 a2 a3 v7) else (if (x.1 25 b4) = a1 then Option.bind (f_X1_lowestHook x b4 a2) (fun r10 => (if r10 ≤ (x.1 26 b4) then tc_let (w1 + 1) (fun v13 => lp_X2_hooksAllow_3 n_3 x a1 a2 a3 v13) else some 0)) else tc_let (w1 + 1) (fun v9 => lp_X2_hooksAllow_3 n_3 x a1 a2 a3 v9)))) else none))
def f_X2_hooksAllow (x : tc_X) (a1 : Int32) (a2 : Int32) (a3 : Int32) : Option (Int32) := lp_X2_hooksAllow_3 100 x a1 a2 a3 0
set_option maxHeartbeats 4000000 in
set_option maxRecDepth 100000 in
theorem mt_X2_hooksAllow (l : Launch) (D : va_G) (cU cO cI : ClassId) (e0 : Nat) (A : Nat → Prop) (E : Nat → Nat) (x : tc_X) (a1 : Int32) (a2 : Int32) (a3 : Int32) (r : Int32) (hF : f_X2_hooksAllow x a1 a2 a3 = some r) : Met l yX2_hooksAllow wsX2_hooksAllow ({ frames := 3, cells := 0, slots := 0, locals := 67 } : Room) (va_Pc [.ref (E 0), .int a1, .int a2, .int a3] (fun U => tc_WC D cU cO e0 A E x U.heap ∧ tc_KC D cU cO cI U)) (k2_QcV (.int r)) 0 0 (fun _ => False) := by
  refine Met.ofW (cc := cX2_hooksAllow) (maxL := 6) (ret := (some .boolean)) (by decide) rfl ?_
  intro p e s m args below meth c s₁ B hml hv
  obtain ⟨rfl, hW, hKC⟩ := hv
  have hx := B.exec
  have hb := B.bytes
  have hr := B.returns
  have hts := atoms_spec (ws := wsX2_hooksAllow) B.pre
  have hown : s.vm.findClass RX2 = some m.cls := findClass_of_methodNamed B.named
  have hlocks := B.notSynchronized
  have hK := hKC.1
  have hinX1 : ∀ w ∈ wsX10, w ∈ wsX2_hooksAllow := fun w9 h9 => List.mem_cons_of_mem _ (List.mem_append_left _ (List.mem_append_right _ h9))
  have hinX2 : ∀ w ∈ wsX20, w ∈ wsX2_hooksAllow := fun w9 h9 => List.mem_cons_of_mem _ (List.mem_append_left _ (List.mem_append_left _ (List.mem_append_right _ h9)))
  have hl := lv_entry ([.ref (E 0), .int a1, .int a2, .int a3]) (n := 6) (Nat.le_of_ble_eq_true rfl)
  rw [lg_entry_eq]
  generalize (lg_sl ([.ref (E 0), .int a1, .int a2, .int a3]) ++ List.replicate (6 - (lg_sl ([.ref (E 0), .int a1, .int a2, .int a3])).length) Slot.unset).toArray = ls at hl ⊢
  have hl : lv_has ls 6 [(0, .ref (E 0)), (1, .int a1), (2, .int a2), (3, .int a3)] := hl
  refine lv_iconst (v := 0) hx hb dX2_hooksAllow_0 (by decide) ?_
  refine lv_istore (lv' := [(4, .int 0), (0, .ref (E 0)), (1, .int a1), (2, .int a2), (3, .int a3)]) hx hb dX2_hooksAllow_1 hl (by decide) rfl (fun ls hl => ?_)
  refine tc_lp1 (fun n w1 => lp_X2_hooksAllow_3 n x a1 a2 a3 w1) (fun w1 => [(0, .ref (E 0)), (1, .int a1), (2, .int a2), (3, .int a3), (4, .int w1)]) 100 0 ?_ ?_ hF (lv_sub hl [1, 2, 3, 4, 0] rfl)
  · intro n_3 w1 ih_3 hF ls hl
    have hF : lp_X2_hooksAllow_3 (n_3 + 1) x a1 a2 a3 w1 = some r := hF
    rw [lp_X2_hooksAllow_3] at hF
    refine lv_iload hx hb dX2_hooksAllow_3 (lv_at hl 4 rfl) ?_
    refine lv_aload_n hx hb dX2_hooksAllow_5 rfl (lv_at hl 0 rfl) ?_
    refine tc_get (v := .ref (E 3)) hx hb hts hinX2 hown hK (hW.o) (C := RX2) (T := TX2) (N := 4) rfl 2 (by decide) (hts (.fieldLink RX2 22 "TreadCranes" "cranes" "Ljava/util/ArrayList;") (List.mem_of_getElem? (i := 1) rfl)) (fun _ h9 => h9) rfl dX2_hooksAllow_6 ?_
    obtain ⟨mo, ha1, -⟩ := hW.2.2.2.1
    refine tc_cr (W.runV (As := []) (rest := [.int w1]) ⟨hx, hb, hml, hown, hts⟩ (mt_lsize l D (E 3) mo (E 5) (nI (tc_nc x))) (cwV 0 hts gX2_hooksAllow_Jx4a65c_size_8abf5 rfl rfl rfl (by decide +kernel) ⟨Nat.le_of_ble_eq_true rfl, Nat.le_of_ble_eq_true rfl⟩) ⟨fun a U g mk q => ⟨q.1, q.2.1, va_K.moved (Vm.Alike.refl U.vm) q.2.2⟩, tc_rcv ha1 hK rfl, fun U hU hW9 => ⟨rfl, by rw [hU]; exact ha1, va_K.moved hW9.alike (hK.sub [] rfl)⟩⟩ rfl rfl hl.1 rfl (lv_room (Nat.le_of_ble_eq_true rfl)) dX2_hooksAllow_9 ⟨Nat.le_of_ble_eq_true rfl, Nat.le_of_ble_eq_true rfl⟩) ?_
    refine lv_icmp_ge (tgt := 66) hx hb dX2_hooksAllow_12 (by decide) (fun c2 => ?_) (fun c2 => ?_)
    · have hF := tc_it hF c2
      refine lv_iconst (v := 1) hx hb dX2_hooksAllow_66 (by decide) ?_
      have h91 := Option.some.inj hF
      exact W.zret hx hb hr rfl (fun t ht hW9 => ⟨by rw [← h91], ht⟩) (fun q h => absurd h List.not_mem_nil) dX2_hooksAllow_67
    · have hF := tc_if hF c2
      refine lv_aload_n hx hb dX2_hooksAllow_15 rfl (lv_at hl 0 rfl) ?_
      refine tc_get (v := .ref (E 3)) hx hb hts hinX2 hown hK (hW.o) (C := RX2) (T := TX2) (N := 4) rfl 2 (by decide) (hts (.fieldLink RX2 22 "TreadCranes" "cranes" "Ljava/util/ArrayList;") (List.mem_of_getElem? (i := 1) rfl)) (fun _ h9 => h9) rfl dX2_hooksAllow_16 ?_
      refine lv_iload hx hb dX2_hooksAllow_19 (lv_at hl 4 rfl) ?_
      obtain ⟨g3, hF⟩ := tc_ob hF
      obtain ⟨b4, eb4⟩ : ∃ z : Nat, z = w1.toNatClampNeg := ⟨_, rfl⟩
      have hF := tc_lt hF eb4
      have g5 : b4 < tc_nc x := by rw [eb4]; exact g3.2
      obtain ⟨mo, cap, fl, ha1, ha2, ha3, ha4, ha5⟩ := tc_Li.full hW.2.2.2.1 (Nat.lt_of_le_of_lt (Nat.zero_le _) g3.2)
      refine tc_cr (W.runV (As := [.int w1]) (rest := []) ⟨hx, hb, hml, hown, hts⟩ (mt_lget l D cO (E 3) mo (E 5) (tc_nc x) cap fl w1 (E (46 + b4)) g3 ha3 ha4 (by rw [eb4]; exact ha5 _ g3.2)) (cwV 1 hts gX2_hooksAllow_Jx4a65c_get_915e3 rfl rfl rfl (by decide +kernel) ⟨Nat.le_of_ble_eq_true rfl, Nat.le_of_ble_eq_true rfl⟩) ⟨fun a U g mk q => ⟨q.1, q.2.1, q.2.2.1, va_K.moved (Vm.Alike.refl U.vm) q.2.2.2⟩, tc_rcv ha1 hK rfl, fun U hU hW9 => ⟨rfl, by rw [hU]; exact ha1, by rw [hU]; exact ha2, va_K.moved hW9.alike (hK.sub [1] rfl)⟩⟩ rfl rfl hl.1 rfl (lv_room (Nat.le_of_ble_eq_true rfl)) dX2_hooksAllow_21 ⟨Nat.le_of_ble_eq_true rfl, Nat.le_of_ble_eq_true rfl⟩) ?_
      refine va_castS hx hb hown (hts (.classLink RX2 81 "TreadCranes$Crane") (List.mem_of_getElem? (i := 2) rfl)) ((hK.1 2 _ rfl).2) (tc_rcv (hW.c g5) hK rfl) dX2_hooksAllow_24 ?_
      refine lv_astore (lv' := [(5, .ref (E (46 + b4))), (0, .ref (E 0)), (1, .int a1), (2, .int a2), (3, .int a3), (4, .int w1)]) hx hb dX2_hooksAllow_27 hl (by decide) rfl (fun ls hl => ?_)
      refine lv_iload hx hb dX2_hooksAllow_29 (lv_at hl 5 rfl) ?_
      refine lv_iload_n hx hb dX2_hooksAllow_31 rfl (lv_at hl 4 rfl) ?_
      refine lv_icmp_eq (tgt := 60) hx hb dX2_hooksAllow_32 (by decide) (fun c6 => ?_) (fun c6 => ?_)
      · have hF := tc_it hF c6
        obtain ⟨v7, ev7⟩ : ∃ z : Int32, z = w1 + 1 := ⟨_, rfl⟩
        have hF := tc_lt hF ev7
        refine lv_iinc (v := v7) (lv' := [(4, .int v7), (5, .ref (E (46 + b4))), (0, .ref (E 0)), (1, .int a1), (2, .int a2), (3, .int a3)]) hx hb dX2_hooksAllow_60 hl (k := 5) rfl (by rw [ev7]; rfl) (by decide) rfl (fun ls hl => ?_)
        refine lv_goto (tgt := 3) hx hb dX2_hooksAllow_63 (by decide) ?_
        exact ih_3 v7 hF _ (lv_sub hl [2, 3, 4, 5, 0] rfl)
      · have hF := tc_if hF c6
        refine lv_aload hx hb dX2_hooksAllow_35 (lv_at hl 0 rfl) ?_
        refine tc_get (v := .int (x.1 25 b4)) hx hb hts hinX1 hown hK (hW.c g5) (C := RX1) (T := TX1) (N := 8) rfl 5 (by decide) (hts (.fieldLink RX2 108 "TreadCranes$Crane" "hookPlace" "I") (List.mem_of_getElem? (i := 3) rfl)) (fun _ h9 => h9) rfl dX2_hooksAllow_37 ?_
        refine lv_iload_n hx hb dX2_hooksAllow_40 rfl (lv_at hl 2 rfl) ?_
        refine lv_icmp_ne (tgt := 60) hx hb dX2_hooksAllow_41 (by decide) (fun c8 => ?_) (fun c8 => ?_)
        · have hF := tc_if hF c8
          obtain ⟨v9, ev9⟩ : ∃ z : Int32, z = w1 + 1 := ⟨_, rfl⟩
          have hF := tc_lt hF ev9
          refine lv_iinc (v := v9) (lv' := [(4, .int v9), (5, .ref (E (46 + b4))), (0, .ref (E 0)), (1, .int a1), (2, .int a2), (3, .int a3)]) hx hb dX2_hooksAllow_60 hl (k := 5) rfl (by rw [ev9]; rfl) (by decide) rfl (fun ls hl => ?_)
          refine lv_goto (tgt := 3) hx hb dX2_hooksAllow_63 (by decide) ?_
          exact ih_3 v9 hF _ (lv_sub hl [2, 3, 4, 5, 0] rfl)
        · have hF := tc_it hF c8
          refine lv_aload hx hb dX2_hooksAllow_44 (lv_at hl 0 rfl) ?_
          refine tc_get (v := .int (x.1 26 b4)) hx hb hts hinX1 hown hK (hW.c g5) (C := RX1) (T := TX1) (N := 8) rfl 6 (by decide) (hts (.fieldLink RX2 105 "TreadCranes$Crane" "hookHeight" "I") (List.mem_of_getElem? (i := 4) rfl)) (fun _ h9 => h9) rfl dX2_hooksAllow_46 ?_
          refine lv_aload hx hb dX2_hooksAllow_49 (lv_at hl 0 rfl) ?_
          refine lv_iload_n hx hb dX2_hooksAllow_51 rfl (lv_at hl 3 rfl) ?_
          obtain ⟨r10, h11, hF⟩ := tc_bi hF
          refine tc_cr (W.runV (As := [.int a2]) (rest := [.int (x.1 26 b4)]) ⟨hx, hb, hml, hown, hts⟩ (mt_X1_lowestHook l D cU cO cI e0 A E x b4 a2 r10 h11) (cwV 1 hts gX2_hooksAllow_X1_lowestHook rfl rfl rfl (by decide +kernel) ⟨Nat.le_of_ble_eq_true rfl, Nat.le_of_ble_eq_true rfl⟩) ⟨fun a U g mk q => ⟨q.1, q.2.1, q.2.2.call⟩, tc_rcv (hW.c g5) hK rfl, fun U hU hW9 => ⟨rfl, by rw [hU]; exact hW, hKC.warm hW9⟩⟩ rfl rfl hl.1 rfl (lv_room (Nat.le_of_ble_eq_true rfl)) dX2_hooksAllow_52 ⟨Nat.le_of_ble_eq_true rfl, Nat.le_of_ble_eq_true rfl⟩) ?_
          refine lv_icmp_ge (tgt := 60) hx hb dX2_hooksAllow_55 (by decide) (fun c12 => ?_) (fun c12 => ?_)
          · have hF := tc_it hF c12
            obtain ⟨v13, ev13⟩ : ∃ z : Int32, z = w1 + 1 := ⟨_, rfl⟩
            have hF := tc_lt hF ev13
            refine lv_iinc (v := v13) (lv' := [(4, .int v13), (5, .ref (E (46 + b4))), (0, .ref (E 0)), (1, .int a1), (2, .int a2), (3, .int a3)]) hx hb dX2_hooksAllow_60 hl (k := 5) rfl (by rw [ev13]; rfl) (by decide) rfl (fun ls hl => ?_)
            refine lv_goto (tgt := 3) hx hb dX2_hooksAllow_63 (by decide) ?_
            exact ih_3 v13 hF _ (lv_sub hl [2, 3, 4, 5, 0] rfl)
          · have hF := tc_if hF c12
            refine lv_iconst (v := 0) hx hb dX2_hooksAllow_58 (by decide) ?_
            have h91 := Option.some.inj hF
            exact W.zret hx hb hr rfl (fun t ht hW9 => ⟨by rw [← h91], ht⟩) (fun q h => absurd h List.not_mem_nil) dX2_hooksAllow_59
  · intro w1 h9
    have h9 : lp_X2_hooksAllow_3 0 x a1 a2 a3 w1 = some r := h9
    rw [lp_X2_hooksAllow_3] at h9
    cases h9

def f_X2_numberOf (x : tc_X) (a1 : Option Nat) : Option (Int32) := tc_oc a1 (some (-1)) (fun j1 => (if j1 < tc_nb x then some (x.1 10 j1) else none))
set_option maxHeartbeats 4000000 in
set_option maxRecDepth 100000 in
theorem mt_X2_numberOf (l : Launch) (D : va_G) (cU cO cI : ClassId) (e0 : Nat) (A : Nat → Prop) (E : Nat → Nat) (x : tc_X) (a1 : Option Nat) (r : Int32) (hF : f_X2_numberOf x a1 = some r) : Met l yX2_numberOf wsX2_numberOf ({ frames := 0, cells := 0, slots := 0, locals := 0 } : Room) (va_Pc [va_rf (tc_ad E 6 a1)] (fun U => tc_WC D cU cO e0 A E x U.heap ∧ tc_KC D cU cO cI U)) (k2_QcV (.int r)) 0 0 (fun _ => False) := by
  cases a1 with
  | none =>
    have hF := tc_on hF rfl
    show Met l yX2_numberOf wsX2_numberOf ({ frames := 0, cells := 0, slots := 0, locals := 0 } : Room) (va_Pc [.null] (fun U => tc_WC D cU cO e0 A E x U.heap ∧ tc_KC D cU cO cI U)) (k2_QcV (.int r)) 0 0 (fun _ => False)
    refine Met.ofW (cc := cX2_numberOf) (maxL := 1) (ret := (some .int)) (by decide) rfl ?_
    intro p e s m args below meth c s₁ B hml hv
    obtain ⟨rfl, hW, hKC⟩ := hv
    have hx := B.exec
    have hb := B.bytes
    have hr := B.returns
    have hts := atoms_spec (ws := wsX2_numberOf) B.pre
    have hown : s.vm.findClass RX2 = some m.cls := findClass_of_methodNamed B.named
    have hlocks := B.notSynchronized
    have hK := hKC.1
    have hinX0 : ∀ w ∈ wsX00, w ∈ wsX2_numberOf := fun w9 h9 => List.mem_cons_of_mem _ (List.mem_append_right _ h9)
    have hl := lv_entry ([.null]) (n := 1) (Nat.le_of_ble_eq_true rfl)
    rw [lg_entry_eq]
    generalize (lg_sl ([.null]) ++ List.replicate (1 - (lg_sl ([.null])).length) Slot.unset).toArray = ls at hl ⊢
    have hl : lv_has ls 1 [(0, .null)] := hl
    refine lv_aload_nN hx hb dX2_numberOf_0 rfl (lv_at hl 0 rfl) ?_
    refine lv_ifnonnullN hx hb dX2_numberOf_1 ?_
    refine lv_iconst (v := (-1)) hx hb dX2_numberOf_4 (by decide) ?_
    refine lv_goto (tgt := 12) hx hb dX2_numberOf_5 (by decide) ?_
    have h91 := Option.some.inj hF
    exact W.iret hx hb hr (fun t ht hW9 => ⟨by rw [← h91], ht⟩) (fun q h => absurd h List.not_mem_nil) dX2_numberOf_12
  | some j1 =>
    have hF := tc_os hF rfl
    show Met l yX2_numberOf wsX2_numberOf ({ frames := 0, cells := 0, slots := 0, locals := 0 } : Room) (va_Pc [.ref (E (6 + j1))] (fun U => tc_WC D cU cO e0 A E x U.heap ∧ tc_KC D cU cO cI U)) (k2_QcV (.int r)) 0 0 (fun _ => False)
    refine Met.ofW (cc := cX2_numberOf) (maxL := 1) (ret := (some .int)) (by decide) rfl ?_
    intro p e s m args below meth c s₁ B hml hv
    obtain ⟨rfl, hW, hKC⟩ := hv
    have hx := B.exec
    have hb := B.bytes
    have hr := B.returns
    have hts := atoms_spec (ws := wsX2_numberOf) B.pre
    have hown : s.vm.findClass RX2 = some m.cls := findClass_of_methodNamed B.named
    have hlocks := B.notSynchronized
    have hK := hKC.1
    have hinX0 : ∀ w ∈ wsX00, w ∈ wsX2_numberOf := fun w9 h9 => List.mem_cons_of_mem _ (List.mem_append_right _ h9)
    have hl := lv_entry ([.ref (E (6 + j1))]) (n := 1) (Nat.le_of_ble_eq_true rfl)
    rw [lg_entry_eq]
    generalize (lg_sl ([.ref (E (6 + j1))]) ++ List.replicate (1 - (lg_sl ([.ref (E (6 + j1))])).length) Slot.unset).toArray = ls at hl ⊢
    have hl : lv_has ls 1 [(0, .ref (E (6 + j1)))] := hl
    refine lv_aload_n hx hb dX2_numberOf_0 rfl (lv_at hl 0 rfl) ?_
    refine lv_ifnonnull (tgt := 8) hx hb dX2_numberOf_1 (by decide) ?_
    refine lv_aload_n hx hb dX2_numberOf_8 rfl (lv_at hl 0 rfl) ?_
    obtain ⟨g2, hF⟩ := tc_ob hF
    refine tc_get (v := .int (x.1 10 j1)) hx hb hts hinX0 hown hK (hW.b g2) (C := RX0) (T := TX0) (N := 7) rfl 0 (by decide) (hts (.fieldLink RX2 64 "TreadCranes$Barrel" "number" "I") (List.mem_of_getElem? (i := 1) rfl)) (fun _ h9 => h9) rfl dX2_numberOf_9 ?_
    have h91 := Option.some.inj hF
    exact W.iret hx hb hr (fun t ht hW9 => ⟨by rw [← h91], ht⟩) (fun q h => absurd h List.not_mem_nil) dX2_numberOf_12

def lp_X2_weightsAt_8 : Nat → tc_X → Int32 → Option Nat → Option (Int32)
  | 0, _, _, _ => none
  | n_8 + 1, x, w5, w6 => tc_oc w6 (some w5) (fun j8 => (if j8 < tc_nb x then tc_let (w5 + (x.1 11 j8)) (fun v10 => (tc_oc (x.2.1 1 j8) (lp_X2_weightsAt_8 n_8 x v10 none) (fun j12 => lp_X2_weightsAt_8 n_8 x v10 (some j12)))) else none))
def f_X2_weightsAt (x : tc_X) (a1 : Int32) : Option (Int32) := Option.bind (f_X2_uppermostAt x a1) (fun r1 => (tc_oc (r1) (lp_X2_weightsAt_8 100 x 0 none) (fun j4 => lp_X2_weightsAt_8 100 x 0 (some j4))))
set_option maxHeartbeats 4000000 in
set_option maxRecDepth 100000 in
theorem mt_X2_weightsAt (l : Launch) (D : va_G) (cU cO cI : ClassId) (e0 : Nat) (A : Nat → Prop) (E : Nat → Nat) (x : tc_X) (a1 : Int32) (r : Int32) (hF : f_X2_weightsAt x a1 = some r) : Met l yX2_weightsAt wsX2_weightsAt ({ frames := 3, cells := 0, slots := 0, locals := 63 } : Room) (va_Pc [.ref (E 0), .int a1] (fun U => tc_WC D cU cO e0 A E x U.heap ∧ tc_KC D cU cO cI U)) (k2_QcV (.int r)) 0 0 (fun _ => False) := by
  refine Met.ofW (cc := cX2_weightsAt) (maxL := 4) (ret := (some .int)) (by decide) rfl ?_
  intro p e s m args below meth c s₁ B hml hv
  obtain ⟨rfl, hW, hKC⟩ := hv
  have hx := B.exec
  have hb := B.bytes
  have hr := B.returns
  have hts := atoms_spec (ws := wsX2_weightsAt) B.pre
  have hown : s.vm.findClass RX2 = some m.cls := findClass_of_methodNamed B.named
  have hlocks := B.notSynchronized
  have hK := hKC.1
  have hinX0 : ∀ w ∈ wsX00, w ∈ wsX2_weightsAt := fun w9 h9 => List.mem_cons_of_mem _ (List.mem_append_left _ (List.mem_append_right _ h9))
  have hl := lv_entry ([.ref (E 0), .int a1]) (n := 4) (Nat.le_of_ble_eq_true rfl)
  rw [lg_entry_eq]
  generalize (lg_sl ([.ref (E 0), .int a1]) ++ List.replicate (4 - (lg_sl ([.ref (E 0), .int a1])).length) Slot.unset).toArray = ls at hl ⊢
  have hl : lv_has ls 4 [(0, .ref (E 0)), (1, .int a1)] := hl
  refine lv_iconst (v := 0) hx hb dX2_weightsAt_0 (by decide) ?_
  refine lv_istore_n (lv' := [(2, .int 0), (0, .ref (E 0)), (1, .int a1)]) hx hb dX2_weightsAt_1 rfl hl (by decide) rfl (fun ls hl => ?_)
  refine lv_aload_n hx hb dX2_weightsAt_2 rfl (lv_at hl 1 rfl) ?_
  refine lv_iload_n hx hb dX2_weightsAt_3 rfl (lv_at hl 2 rfl) ?_
  obtain ⟨r1, h2, hF⟩ := tc_bi hF
  refine tc_cr (W.runV (As := [.int a1]) (rest := []) ⟨hx, hb, hml, hown, hts⟩ (mt_X2_uppermostAt l D cU cO cI e0 A E x a1 r1 h2) (cwV 1 hts gX2_weightsAt_X2_uppermostAt rfl rfl rfl (by decide +kernel) ⟨Nat.le_of_ble_eq_true rfl, Nat.le_of_ble_eq_true rfl⟩) ⟨fun a U g mk q => ⟨q.1, q.2.1, q.2.2.call⟩, tc_rcv (hW.o) hK rfl, fun U hU hW9 => ⟨rfl, by rw [hU]; exact hW, hKC.warm hW9⟩⟩ rfl rfl hl.1 rfl (lv_room (Nat.le_of_ble_eq_true rfl)) dX2_weightsAt_4 ⟨Nat.le_of_ble_eq_true rfl, Nat.le_of_ble_eq_true rfl⟩) ?_
  refine tc_opt (fun o3 => ?_) (fun j4 o3 => ?_)
  · have hF := tc_on hF o3
    refine lv_astore_nN (lv' := [(3, .null), (2, .int 0), (0, .ref (E 0)), (1, .int a1)]) hx hb dX2_weightsAt_7 rfl hl (by decide) rfl (fun ls hl => ?_)
    refine tc_lp2 (fun n w5 w6 => lp_X2_weightsAt_8 n x w5 w6) (fun w5 w6 => [(2, .int w5), (3, va_rf (tc_ad E 6 w6))]) 100 0 none ?_ ?_ hF (lv_sub hl [1, 0] rfl)
    · intro n_8 w5 w6 ih_8 hF ls hl
      have hF : lp_X2_weightsAt_8 (n_8 + 1) x w5 w6 = some r := hF
      rw [lp_X2_weightsAt_8] at hF
      cases w6 with
      | none =>
        have hF := tc_on hF rfl
        have hl : lv_has ls 4 [(2, .int w5), (3, .null)] := hl
        refine lv_aload_nN hx hb dX2_weightsAt_8 rfl (lv_at hl 1 rfl) ?_
        refine lv_ifnullN (tgt := 27) hx hb dX2_weightsAt_9 (by decide) ?_
        refine lv_iload_n hx hb dX2_weightsAt_27 rfl (lv_at hl 0 rfl) ?_
        have h91 := Option.some.inj hF
        exact W.iret hx hb hr (fun t ht hW9 => ⟨by rw [← h91], ht⟩) (fun q h => absurd h List.not_mem_nil) dX2_weightsAt_28
      | some j8 =>
        have hF := tc_os hF rfl
        have hl : lv_has ls 4 [(2, .int w5), (3, .ref (E (6 + j8)))] := hl
        refine lv_aload_n hx hb dX2_weightsAt_8 rfl (lv_at hl 1 rfl) ?_
        refine lv_ifnull hx hb dX2_weightsAt_9 ?_
        refine lv_iload_n hx hb dX2_weightsAt_12 rfl (lv_at hl 0 rfl) ?_
        refine lv_aload_n hx hb dX2_weightsAt_13 rfl (lv_at hl 1 rfl) ?_
        obtain ⟨g9, hF⟩ := tc_ob hF
        refine tc_get (v := .int (x.1 11 j8)) hx hb hts hinX0 hown hK (hW.b g9) (C := RX0) (T := TX0) (N := 7) rfl 1 (by decide) (hts (.fieldLink RX2 134 "TreadCranes$Barrel" "weight" "I") (List.mem_of_getElem? (i := 1) rfl)) (fun _ h9 => h9) rfl dX2_weightsAt_14 ?_
        refine lv_iadd hx hb dX2_weightsAt_17 ?_
        refine lv_topi (fun v10 ev10 => ?_)
        have hF := tc_lt hF ev10
        refine lv_istore_n (lv' := [(2, .int v10), (3, .ref (E (6 + j8)))]) hx hb dX2_weightsAt_18 rfl hl (by decide) rfl (fun ls hl => ?_)
        refine lv_aload_n hx hb dX2_weightsAt_19 rfl (lv_at hl 1 rfl) ?_
        refine tc_get (v := va_rf (tc_ad E 6 (x.2.1 1 j8))) hx hb hts hinX0 hown hK (hW.b g9) (C := RX0) (T := TX0) (N := 7) rfl 4 (by decide) (hts (.fieldLink RX2 231 "TreadCranes$Barrel" "below" "LTreadCranes$Barrel;") (List.mem_of_getElem? (i := 2) rfl)) (fun _ h9 => h9) rfl dX2_weightsAt_20 ?_
        refine tc_opt (fun o11 => ?_) (fun j12 o11 => ?_)
        · have hF := tc_on hF o11
          refine lv_astore_nN (lv' := [(3, .null), (2, .int v10)]) hx hb dX2_weightsAt_23 rfl hl (by decide) rfl (fun ls hl => ?_)
          refine lv_goto (tgt := 8) hx hb dX2_weightsAt_24 (by decide) ?_
          exact ih_8 v10 none hF _ (lv_sub hl [1, 0] rfl)
        · have hF := tc_os hF o11
          refine lv_astore_n (lv' := [(3, .ref (E (6 + j12))), (2, .int v10)]) hx hb dX2_weightsAt_23 rfl hl (by decide) rfl (fun ls hl => ?_)
          refine lv_goto (tgt := 8) hx hb dX2_weightsAt_24 (by decide) ?_
          exact ih_8 v10 (some j12) hF _ (lv_sub hl [1, 0] rfl)
    · intro w5 w6 h9
      have h9 : lp_X2_weightsAt_8 0 x w5 w6 = some r := h9
      rw [lp_X2_weightsAt_8] at h9
      cases h9
  · have hF := tc_os hF o3
    refine lv_astore_n (lv' := [(3, .ref (E (6 + j4))), (2, .int 0), (0, .ref (E 0)), (1, .int a1)]) hx hb dX2_weightsAt_7 rfl hl (by decide) rfl (fun ls hl => ?_)
    refine tc_lp2 (fun n w13 w14 => lp_X2_weightsAt_8 n x w13 w14) (fun w13 w14 => [(2, .int w13), (3, va_rf (tc_ad E 6 w14))]) 100 0 (some j4) ?_ ?_ hF (lv_sub hl [1, 0] rfl)
    · intro n_8 w13 w14 ih_8 hF ls hl
      have hF : lp_X2_weightsAt_8 (n_8 + 1) x w13 w14 = some r := hF
      rw [lp_X2_weightsAt_8] at hF
      cases w14 with
      | none =>
        have hF := tc_on hF rfl
        have hl : lv_has ls 4 [(2, .int w13), (3, .null)] := hl
        refine lv_aload_nN hx hb dX2_weightsAt_8 rfl (lv_at hl 1 rfl) ?_
        refine lv_ifnullN (tgt := 27) hx hb dX2_weightsAt_9 (by decide) ?_
        refine lv_iload_n hx hb dX2_weightsAt_27 rfl (lv_at hl 0 rfl) ?_
        have h91 := Option.some.inj hF
        exact W.iret hx hb hr (fun t ht hW9 => ⟨by rw [← h91], ht⟩) (fun q h => absurd h List.not_mem_nil) dX2_weightsAt_28
      | some j16 =>
        have hF := tc_os hF rfl
        have hl : lv_has ls 4 [(2, .int w13), (3, .ref (E (6 + j16)))] := hl
        refine lv_aload_n hx hb dX2_weightsAt_8 rfl (lv_at hl 1 rfl) ?_
        refine lv_ifnull hx hb dX2_weightsAt_9 ?_
        refine lv_iload_n hx hb dX2_weightsAt_12 rfl (lv_at hl 0 rfl) ?_
        refine lv_aload_n hx hb dX2_weightsAt_13 rfl (lv_at hl 1 rfl) ?_
        obtain ⟨g17, hF⟩ := tc_ob hF
        refine tc_get (v := .int (x.1 11 j16)) hx hb hts hinX0 hown hK (hW.b g17) (C := RX0) (T := TX0) (N := 7) rfl 1 (by decide) (hts (.fieldLink RX2 134 "TreadCranes$Barrel" "weight" "I") (List.mem_of_getElem? (i := 1) rfl)) (fun _ h9 => h9) rfl dX2_weightsAt_14 ?_
        refine lv_iadd hx hb dX2_weightsAt_17 ?_
        refine lv_topi (fun v18 ev18 => ?_)
        have hF := tc_lt hF ev18
        refine lv_istore_n (lv' := [(2, .int v18), (3, .ref (E (6 + j16)))]) hx hb dX2_weightsAt_18 rfl hl (by decide) rfl (fun ls hl => ?_)
        refine lv_aload_n hx hb dX2_weightsAt_19 rfl (lv_at hl 1 rfl) ?_
        refine tc_get (v := va_rf (tc_ad E 6 (x.2.1 1 j16))) hx hb hts hinX0 hown hK (hW.b g17) (C := RX0) (T := TX0) (N := 7) rfl 4 (by decide) (hts (.fieldLink RX2 231 "TreadCranes$Barrel" "below" "LTreadCranes$Barrel;") (List.mem_of_getElem? (i := 2) rfl)) (fun _ h9 => h9) rfl dX2_weightsAt_20 ?_
        refine tc_opt (fun o19 => ?_) (fun j20 o19 => ?_)
        · have hF := tc_on hF o19
          refine lv_astore_nN (lv' := [(3, .null), (2, .int v18)]) hx hb dX2_weightsAt_23 rfl hl (by decide) rfl (fun ls hl => ?_)
          refine lv_goto (tgt := 8) hx hb dX2_weightsAt_24 (by decide) ?_
          exact ih_8 v18 none hF _ (lv_sub hl [1, 0] rfl)
        · have hF := tc_os hF o19
          refine lv_astore_n (lv' := [(3, .ref (E (6 + j20))), (2, .int v18)]) hx hb dX2_weightsAt_23 rfl hl (by decide) rfl (fun ls hl => ?_)
          refine lv_goto (tgt := 8) hx hb dX2_weightsAt_24 (by decide) ?_
          exact ih_8 v18 (some j20) hF _ (lv_sub hl [1, 0] rfl)
    · intro w13 w14 h9
      have h9 : lp_X2_weightsAt_8 0 x w13 w14 = some r := h9
      rw [lp_X2_weightsAt_8] at h9
      cases h9

def lp_X2_hooksOver_4 : Nat → tc_X → Int32 → Int32 → Int32 → Option (Int32)
  | 0, _, _, _, _ => none
  | n_4 + 1, x, a1, w1, w2 => (if (nI (tc_nc x)) ≤ w2 then some w1 else (if ¬ w2 < 0 ∧ w2.toNatClampNeg < tc_nc x then tc_let w2.toNatClampNeg (fun b5 => (if (x.1 25 b5) = a1 then tc_let (w1 + 1) (fun v9 => tc_let (w2 + 1) (fun v10 => lp_X2_hooksOver_4 n_4 x a1 v9 v10)) else tc_let (w2 + 1) (fun v8 => lp_X2_hooksOver_4 n_4 x a1 w1 v8))) else none))
def f_X2_hooksOver (x : tc_X) (a1 : Int32) : Option (Int32) := lp_X2_hooksOver_4 100 x a1 0 0
set_option maxHeartbeats 4000000 in
set_option maxRecDepth 100000 in
theorem mt_X2_hooksOver (l : Launch) (D : va_G) (cU cO cI : ClassId) (e0 : Nat) (A : Nat → Prop) (E : Nat → Nat) (x : tc_X) (a1 : Int32) (r : Int32) (hF : f_X2_hooksOver x a1 = some r) : Met l yX2_hooksOver wsX2_hooksOver ({ frames := 3, cells := 0, slots := 0, locals := 67 } : Room) (va_Pc [.ref (E 0), .int a1] (fun U => tc_WC D cU cO e0 A E x U.heap ∧ tc_KC D cU cO cI U)) (k2_QcV (.int r)) 0 0 (fun _ => False) := by
  refine Met.ofW (cc := cX2_hooksOver) (maxL := 4) (ret := (some .int)) (by decide) rfl ?_
  intro p e s m args below meth c s₁ B hml hv
  obtain ⟨rfl, hW, hKC⟩ := hv
  have hx := B.exec
  have hb := B.bytes
  have hr := B.returns
  have hts := atoms_spec (ws := wsX2_hooksOver) B.pre
  have hown : s.vm.findClass RX2 = some m.cls := findClass_of_methodNamed B.named
  have hlocks := B.notSynchronized
  have hK := hKC.1
  have hinX1 : ∀ w ∈ wsX10, w ∈ wsX2_hooksOver := fun w9 h9 => List.mem_cons_of_mem _ (List.mem_append_left _ (List.mem_append_right _ h9))
  have hinX2 : ∀ w ∈ wsX20, w ∈ wsX2_hooksOver := fun w9 h9 => List.mem_cons_of_mem _ (List.mem_append_left _ (List.mem_append_left _ (List.mem_append_right _ h9)))
  have hl := lv_entry ([.ref (E 0), .int a1]) (n := 4) (Nat.le_of_ble_eq_true rfl)
  rw [lg_entry_eq]
  generalize (lg_sl ([.ref (E 0), .int a1]) ++ List.replicate (4 - (lg_sl ([.ref (E 0), .int a1])).length) Slot.unset).toArray = ls at hl ⊢
  have hl : lv_has ls 4 [(0, .ref (E 0)), (1, .int a1)] := hl
  refine lv_iconst (v := 0) hx hb dX2_hooksOver_0 (by decide) ?_
  refine lv_istore_n (lv' := [(2, .int 0), (0, .ref (E 0)), (1, .int a1)]) hx hb dX2_hooksOver_1 rfl hl (by decide) rfl (fun ls hl => ?_)
  refine lv_iconst (v := 0) hx hb dX2_hooksOver_2 (by decide) ?_
  refine lv_istore_n (lv' := [(3, .int 0), (2, .int 0), (0, .ref (E 0)), (1, .int a1)]) hx hb dX2_hooksOver_3 rfl hl (by decide) rfl (fun ls hl => ?_)
  refine tc_lp2 (fun n w1 w2 => lp_X2_hooksOver_4 n x a1 w1 w2) (fun w1 w2 => [(0, .ref (E 0)), (1, .int a1), (2, .int w1), (3, .int w2)]) 100 0 0 ?_ ?_ hF (lv_sub hl [2, 3, 1, 0] rfl)
  · intro n_4 w1 w2 ih_4 hF ls hl
    have hF : lp_X2_hooksOver_4 (n_4 + 1) x a1 w1 w2 = some r := hF
    rw [lp_X2_hooksOver_4] at hF
    refine lv_iload_n hx hb dX2_hooksOver_4 rfl (lv_at hl 3 rfl) ?_
    refine lv_aload_n hx hb dX2_hooksOver_5 rfl (lv_at hl 0 rfl) ?_
    refine tc_get (v := .ref (E 3)) hx hb hts hinX2 hown hK (hW.o) (C := RX2) (T := TX2) (N := 4) rfl 2 (by decide) (hts (.fieldLink RX2 22 "TreadCranes" "cranes" "Ljava/util/ArrayList;") (List.mem_of_getElem? (i := 1) rfl)) (fun _ h9 => h9) rfl dX2_hooksOver_6 ?_
    obtain ⟨mo, ha1, -⟩ := hW.2.2.2.1
    refine tc_cr (W.runV (As := []) (rest := [.int w2]) ⟨hx, hb, hml, hown, hts⟩ (mt_lsize l D (E 3) mo (E 5) (nI (tc_nc x))) (cwV 0 hts gX2_hooksOver_Jx4a65c_size_8abf5 rfl rfl rfl (by decide +kernel) ⟨Nat.le_of_ble_eq_true rfl, Nat.le_of_ble_eq_true rfl⟩) ⟨fun a U g mk q => ⟨q.1, q.2.1, va_K.moved (Vm.Alike.refl U.vm) q.2.2⟩, tc_rcv ha1 hK rfl, fun U hU hW9 => ⟨rfl, by rw [hU]; exact ha1, va_K.moved hW9.alike (hK.sub [] rfl)⟩⟩ rfl rfl hl.1 rfl (lv_room (Nat.le_of_ble_eq_true rfl)) dX2_hooksOver_9 ⟨Nat.le_of_ble_eq_true rfl, Nat.le_of_ble_eq_true rfl⟩) ?_
    refine lv_icmp_ge (tgt := 42) hx hb dX2_hooksOver_12 (by decide) (fun c3 => ?_) (fun c3 => ?_)
    · have hF := tc_it hF c3
      refine lv_iload_n hx hb dX2_hooksOver_42 rfl (lv_at hl 2 rfl) ?_
      have h91 := Option.some.inj hF
      exact W.iret hx hb hr (fun t ht hW9 => ⟨by rw [← h91], ht⟩) (fun q h => absurd h List.not_mem_nil) dX2_hooksOver_43
    · have hF := tc_if hF c3
      refine lv_aload_n hx hb dX2_hooksOver_15 rfl (lv_at hl 0 rfl) ?_
      refine tc_get (v := .ref (E 3)) hx hb hts hinX2 hown hK (hW.o) (C := RX2) (T := TX2) (N := 4) rfl 2 (by decide) (hts (.fieldLink RX2 22 "TreadCranes" "cranes" "Ljava/util/ArrayList;") (List.mem_of_getElem? (i := 1) rfl)) (fun _ h9 => h9) rfl dX2_hooksOver_16 ?_
      refine lv_iload_n hx hb dX2_hooksOver_19 rfl (lv_at hl 3 rfl) ?_
      obtain ⟨g4, hF⟩ := tc_ob hF
      obtain ⟨b5, eb5⟩ : ∃ z : Nat, z = w2.toNatClampNeg := ⟨_, rfl⟩
      have hF := tc_lt hF eb5
      have g6 : b5 < tc_nc x := by rw [eb5]; exact g4.2
      obtain ⟨mo, cap, fl, ha1, ha2, ha3, ha4, ha5⟩ := tc_Li.full hW.2.2.2.1 (Nat.lt_of_le_of_lt (Nat.zero_le _) g4.2)
      refine tc_cr (W.runV (As := [.int w2]) (rest := []) ⟨hx, hb, hml, hown, hts⟩ (mt_lget l D cO (E 3) mo (E 5) (tc_nc x) cap fl w2 (E (46 + b5)) g4 ha3 ha4 (by rw [eb5]; exact ha5 _ g4.2)) (cwV 1 hts gX2_hooksOver_Jx4a65c_get_915e3 rfl rfl rfl (by decide +kernel) ⟨Nat.le_of_ble_eq_true rfl, Nat.le_of_ble_eq_true rfl⟩) ⟨fun a U g mk q => ⟨q.1, q.2.1, q.2.2.1, va_K.moved (Vm.Alike.refl U.vm) q.2.2.2⟩, tc_rcv ha1 hK rfl, fun U hU hW9 => ⟨rfl, by rw [hU]; exact ha1, by rw [hU]; exact ha2, va_K.moved hW9.alike (hK.sub [1] rfl)⟩⟩ rfl rfl hl.1 rfl (lv_room (Nat.le_of_ble_eq_true rfl)) dX2_hooksOver_20 ⟨Nat.le_of_ble_eq_true rfl, Nat.le_of_ble_eq_true rfl⟩) ?_
      refine va_castS hx hb hown (hts (.classLink RX2 81 "TreadCranes$Crane") (List.mem_of_getElem? (i := 2) rfl)) ((hK.1 2 _ rfl).2) (tc_rcv (hW.c g6) hK rfl) dX2_hooksOver_23 ?_
      refine tc_get (v := .int (x.1 25 b5)) hx hb hts hinX1 hown hK (hW.c g6) (C := RX1) (T := TX1) (N := 8) rfl 5 (by decide) (hts (.fieldLink RX2 108 "TreadCranes$Crane" "hookPlace" "I") (List.mem_of_getElem? (i := 3) rfl)) (fun _ h9 => h9) rfl dX2_hooksOver_26 ?_
      refine lv_iload_n hx hb dX2_hooksOver_29 rfl (lv_at hl 1 rfl) ?_
      refine lv_icmp_ne (tgt := 36) hx hb dX2_hooksOver_30 (by decide) (fun c7 => ?_) (fun c7 => ?_)
      · have hF := tc_if hF c7
        obtain ⟨v8, ev8⟩ : ∃ z : Int32, z = w2 + 1 := ⟨_, rfl⟩
        have hF := tc_lt hF ev8
        refine lv_iinc (v := v8) (lv' := [(3, .int v8), (0, .ref (E 0)), (1, .int a1), (2, .int w1)]) hx hb dX2_hooksOver_36 hl (k := 3) rfl (by rw [ev8]; rfl) (by decide) rfl (fun ls hl => ?_)
        refine lv_goto (tgt := 4) hx hb dX2_hooksOver_39 (by decide) ?_
        exact ih_4 w1 v8 hF _ (lv_sub hl [1, 2, 3, 0] rfl)
      · have hF := tc_it hF c7
        obtain ⟨v9, ev9⟩ : ∃ z : Int32, z = w1 + 1 := ⟨_, rfl⟩
        have hF := tc_lt hF ev9
        refine lv_iinc (v := v9) (lv' := [(2, .int v9), (0, .ref (E 0)), (1, .int a1), (3, .int w2)]) hx hb dX2_hooksOver_33 hl (k := 2) rfl (by rw [ev9]; rfl) (by decide) rfl (fun ls hl => ?_)
        obtain ⟨v10, ev10⟩ : ∃ z : Int32, z = w2 + 1 := ⟨_, rfl⟩
        have hF := tc_lt hF ev10
        refine lv_iinc (v := v10) (lv' := [(3, .int v10), (2, .int v9), (0, .ref (E 0)), (1, .int a1)]) hx hb dX2_hooksOver_36 hl (k := 3) rfl (by rw [ev10]; rfl) (by decide) rfl (fun ls hl => ?_)
        refine lv_goto (tgt := 4) hx hb dX2_hooksOver_39 (by decide) ?_
        exact ih_4 v9 v10 hF _ (lv_sub hl [2, 3, 1, 0] rfl)
  · intro w1 w2 h9
    have h9 : lp_X2_hooksOver_4 0 x a1 w1 w2 = some r := h9
    rw [lp_X2_hooksOver_4] at h9
    cases h9

def lp_X2_standing_4 : Nat → tc_X → Int32 → Int32 → Option (Int32)
  | 0, _, _, _ => none
  | n_4 + 1, x, w1, w2 => (if 16 ≤ w2 then some w1 else Option.bind (f_X2_heightOf x w2) (fun r4 => tc_let (w1 + r4) (fun v6 => tc_let (w2 + 1) (fun v7 => lp_X2_standing_4 n_4 x v6 v7))))
def f_X2_standing (x : tc_X)  : Option (Int32) := lp_X2_standing_4 100 x 0 0
set_option maxHeartbeats 4000000 in
set_option maxRecDepth 100000 in
theorem mt_X2_standing (l : Launch) (D : va_G) (cU cO cI : ClassId) (e0 : Nat) (A : Nat → Prop) (E : Nat → Nat) (x : tc_X) (r : Int32) (hF : f_X2_standing x = some r) : Met l yX2_standing wsX2_standing ({ frames := 4, cells := 0, slots := 0, locals := 85 } : Room) (va_Pc [.ref (E 0)] (fun U => tc_WC D cU cO e0 A E x U.heap ∧ tc_KC D cU cO cI U)) (k2_QcV (.int r)) 0 0 (fun _ => False) := by
  refine Met.ofW (cc := cX2_standing) (maxL := 3) (ret := (some .int)) (by decide) rfl ?_
  intro p e s m args below meth c s₁ B hml hv
  obtain ⟨rfl, hW, hKC⟩ := hv
  have hx := B.exec
  have hb := B.bytes
  have hr := B.returns
  have hts := atoms_spec (ws := wsX2_standing) B.pre
  have hown : s.vm.findClass RX2 = some m.cls := findClass_of_methodNamed B.named
  have hlocks := B.notSynchronized
  have hK := hKC.1
  have hl := lv_entry ([.ref (E 0)]) (n := 3) (Nat.le_of_ble_eq_true rfl)
  rw [lg_entry_eq]
  generalize (lg_sl ([.ref (E 0)]) ++ List.replicate (3 - (lg_sl ([.ref (E 0)])).length) Slot.unset).toArray = ls at hl ⊢
  have hl : lv_has ls 3 [(0, .ref (E 0))] := hl
  refine lv_iconst (v := 0) hx hb dX2_standing_0 (by decide) ?_
  refine lv_istore_n (lv' := [(1, .int 0), (0, .ref (E 0))]) hx hb dX2_standing_1 rfl hl (by decide) rfl (fun ls hl => ?_)
  refine lv_iconst (v := 0) hx hb dX2_standing_2 (by decide) ?_
  refine lv_istore_n (lv' := [(2, .int 0), (1, .int 0), (0, .ref (E 0))]) hx hb dX2_standing_3 rfl hl (by decide) rfl (fun ls hl => ?_)
  refine tc_lp2 (fun n w1 w2 => lp_X2_standing_4 n x w1 w2) (fun w1 w2 => [(0, .ref (E 0)), (1, .int w1), (2, .int w2)]) 100 0 0 ?_ ?_ hF (lv_sub hl [2, 1, 0] rfl)
  · intro n_4 w1 w2 ih_4 hF ls hl
    have hF : lp_X2_standing_4 (n_4 + 1) x w1 w2 = some r := hF
    rw [lp_X2_standing_4] at hF
    refine lv_iload_n hx hb dX2_standing_4 rfl (lv_at hl 2 rfl) ?_
    refine lv_bipush (v := 16) hx hb dX2_standing_5 (by decide) ?_
    refine lv_icmp_ge (tgt := 24) hx hb dX2_standing_7 (by decide) (fun c3 => ?_) (fun c3 => ?_)
    · have hF := tc_it hF c3
      refine lv_iload_n hx hb dX2_standing_24 rfl (lv_at hl 1 rfl) ?_
      have h91 := Option.some.inj hF
      exact W.iret hx hb hr (fun t ht hW9 => ⟨by rw [← h91], ht⟩) (fun q h => absurd h List.not_mem_nil) dX2_standing_25
    · have hF := tc_if hF c3
      refine lv_iload_n hx hb dX2_standing_10 rfl (lv_at hl 1 rfl) ?_
      refine lv_aload_n hx hb dX2_standing_11 rfl (lv_at hl 0 rfl) ?_
      refine lv_iload_n hx hb dX2_standing_12 rfl (lv_at hl 2 rfl) ?_
      obtain ⟨r4, h5, hF⟩ := tc_bi hF
      refine tc_cr (W.runV (As := [.int w2]) (rest := [.int w1]) ⟨hx, hb, hml, hown, hts⟩ (mt_X2_heightOf l D cU cO cI e0 A E x w2 r4 h5) (cwV 1 hts gX2_standing_X2_heightOf rfl rfl rfl (by decide +kernel) ⟨Nat.le_of_ble_eq_true rfl, Nat.le_of_ble_eq_true rfl⟩) ⟨fun a U g mk q => ⟨q.1, q.2.1, q.2.2.call⟩, tc_rcv (hW.o) hK rfl, fun U hU hW9 => ⟨rfl, by rw [hU]; exact hW, hKC.warm hW9⟩⟩ rfl rfl hl.1 rfl (lv_room (Nat.le_of_ble_eq_true rfl)) dX2_standing_13 ⟨Nat.le_of_ble_eq_true rfl, Nat.le_of_ble_eq_true rfl⟩) ?_
      refine lv_iadd hx hb dX2_standing_16 ?_
      refine lv_topi (fun v6 ev6 => ?_)
      have hF := tc_lt hF ev6
      refine lv_istore_n (lv' := [(1, .int v6), (0, .ref (E 0)), (2, .int w2)]) hx hb dX2_standing_17 rfl hl (by decide) rfl (fun ls hl => ?_)
      obtain ⟨v7, ev7⟩ : ∃ z : Int32, z = w2 + 1 := ⟨_, rfl⟩
      have hF := tc_lt hF ev7
      refine lv_iinc (v := v7) (lv' := [(2, .int v7), (1, .int v6), (0, .ref (E 0))]) hx hb dX2_standing_18 hl (k := 2) rfl (by rw [ev7]; rfl) (by decide) rfl (fun ls hl => ?_)
      refine lv_goto (tgt := 4) hx hb dX2_standing_21 (by decide) ?_
      exact ih_4 v6 v7 hF _ (lv_sub hl [2, 1, 0] rfl)
  · intro w1 w2 h9
    have h9 : lp_X2_standing_4 0 x w1 w2 = some r := h9
    rw [lp_X2_standing_4] at h9
    cases h9

def lp_X2_hanging_4 : Nat → tc_X → Int32 → Int32 → Option (Int32)
  | 0, _, _, _ => none
  | n_4 + 1, x, w1, w2 => (if (nI (tc_nc x)) ≤ w2 then some w1 else (if ¬ w2 < 0 ∧ w2.toNatClampNeg < tc_nc x then tc_let w2.toNatClampNeg (fun b5 => (tc_oc (x.2.1 2 b5) (tc_let (w2 + 1) (fun v9 => lp_X2_hanging_4 n_4 x w1 v9)) (fun j8 => tc_let (w1 + 1) (fun v10 => tc_let (w2 + 1) (fun v11 => lp_X2_hanging_4 n_4 x v10 v11))))) else none))
def f_X2_hanging (x : tc_X)  : Option (Int32) := lp_X2_hanging_4 100 x 0 0
set_option maxHeartbeats 4000000 in
set_option maxRecDepth 100000 in
theorem mt_X2_hanging (l : Launch) (D : va_G) (cU cO cI : ClassId) (e0 : Nat) (A : Nat → Prop) (E : Nat → Nat) (x : tc_X) (r : Int32) (hF : f_X2_hanging x = some r) : Met l yX2_hanging wsX2_hanging ({ frames := 3, cells := 0, slots := 0, locals := 67 } : Room) (va_Pc [.ref (E 0)] (fun U => tc_WC D cU cO e0 A E x U.heap ∧ tc_KC D cU cO cI U)) (k2_QcV (.int r)) 0 0 (fun _ => False) := by
  refine Met.ofW (cc := cX2_hanging) (maxL := 3) (ret := (some .int)) (by decide) rfl ?_
  intro p e s m args below meth c s₁ B hml hv
  obtain ⟨rfl, hW, hKC⟩ := hv
  have hx := B.exec
  have hb := B.bytes
  have hr := B.returns
  have hts := atoms_spec (ws := wsX2_hanging) B.pre
  have hown : s.vm.findClass RX2 = some m.cls := findClass_of_methodNamed B.named
  have hlocks := B.notSynchronized
  have hK := hKC.1
  have hinX1 : ∀ w ∈ wsX10, w ∈ wsX2_hanging := fun w9 h9 => List.mem_cons_of_mem _ (List.mem_append_left _ (List.mem_append_right _ h9))
  have hinX2 : ∀ w ∈ wsX20, w ∈ wsX2_hanging := fun w9 h9 => List.mem_cons_of_mem _ (List.mem_append_left _ (List.mem_append_left _ (List.mem_append_right _ h9)))
  have hl := lv_entry ([.ref (E 0)]) (n := 3) (Nat.le_of_ble_eq_true rfl)
  rw [lg_entry_eq]
  generalize (lg_sl ([.ref (E 0)]) ++ List.replicate (3 - (lg_sl ([.ref (E 0)])).length) Slot.unset).toArray = ls at hl ⊢
  have hl : lv_has ls 3 [(0, .ref (E 0))] := hl
  refine lv_iconst (v := 0) hx hb dX2_hanging_0 (by decide) ?_
  refine lv_istore_n (lv' := [(1, .int 0), (0, .ref (E 0))]) hx hb dX2_hanging_1 rfl hl (by decide) rfl (fun ls hl => ?_)
  refine lv_iconst (v := 0) hx hb dX2_hanging_2 (by decide) ?_
  refine lv_istore_n (lv' := [(2, .int 0), (1, .int 0), (0, .ref (E 0))]) hx hb dX2_hanging_3 rfl hl (by decide) rfl (fun ls hl => ?_)
  refine tc_lp2 (fun n w1 w2 => lp_X2_hanging_4 n x w1 w2) (fun w1 w2 => [(0, .ref (E 0)), (1, .int w1), (2, .int w2)]) 100 0 0 ?_ ?_ hF (lv_sub hl [2, 1, 0] rfl)
  · intro n_4 w1 w2 ih_4 hF ls hl
    have hF : lp_X2_hanging_4 (n_4 + 1) x w1 w2 = some r := hF
    rw [lp_X2_hanging_4] at hF
    refine lv_iload_n hx hb dX2_hanging_4 rfl (lv_at hl 2 rfl) ?_
    refine lv_aload_n hx hb dX2_hanging_5 rfl (lv_at hl 0 rfl) ?_
    refine tc_get (v := .ref (E 3)) hx hb hts hinX2 hown hK (hW.o) (C := RX2) (T := TX2) (N := 4) rfl 2 (by decide) (hts (.fieldLink RX2 22 "TreadCranes" "cranes" "Ljava/util/ArrayList;") (List.mem_of_getElem? (i := 1) rfl)) (fun _ h9 => h9) rfl dX2_hanging_6 ?_
    obtain ⟨mo, ha1, -⟩ := hW.2.2.2.1
    refine tc_cr (W.runV (As := []) (rest := [.int w2]) ⟨hx, hb, hml, hown, hts⟩ (mt_lsize l D (E 3) mo (E 5) (nI (tc_nc x))) (cwV 0 hts gX2_hanging_Jx4a65c_size_8abf5 rfl rfl rfl (by decide +kernel) ⟨Nat.le_of_ble_eq_true rfl, Nat.le_of_ble_eq_true rfl⟩) ⟨fun a U g mk q => ⟨q.1, q.2.1, va_K.moved (Vm.Alike.refl U.vm) q.2.2⟩, tc_rcv ha1 hK rfl, fun U hU hW9 => ⟨rfl, by rw [hU]; exact ha1, va_K.moved hW9.alike (hK.sub [] rfl)⟩⟩ rfl rfl hl.1 rfl (lv_room (Nat.le_of_ble_eq_true rfl)) dX2_hanging_9 ⟨Nat.le_of_ble_eq_true rfl, Nat.le_of_ble_eq_true rfl⟩) ?_
    refine lv_icmp_ge (tgt := 41) hx hb dX2_hanging_12 (by decide) (fun c3 => ?_) (fun c3 => ?_)
    · have hF := tc_it hF c3
      refine lv_iload_n hx hb dX2_hanging_41 rfl (lv_at hl 1 rfl) ?_
      have h91 := Option.some.inj hF
      exact W.iret hx hb hr (fun t ht hW9 => ⟨by rw [← h91], ht⟩) (fun q h => absurd h List.not_mem_nil) dX2_hanging_42
    · have hF := tc_if hF c3
      refine lv_aload_n hx hb dX2_hanging_15 rfl (lv_at hl 0 rfl) ?_
      refine tc_get (v := .ref (E 3)) hx hb hts hinX2 hown hK (hW.o) (C := RX2) (T := TX2) (N := 4) rfl 2 (by decide) (hts (.fieldLink RX2 22 "TreadCranes" "cranes" "Ljava/util/ArrayList;") (List.mem_of_getElem? (i := 1) rfl)) (fun _ h9 => h9) rfl dX2_hanging_16 ?_
      refine lv_iload_n hx hb dX2_hanging_19 rfl (lv_at hl 2 rfl) ?_
      obtain ⟨g4, hF⟩ := tc_ob hF
      obtain ⟨b5, eb5⟩ : ∃ z : Nat, z = w2.toNatClampNeg := ⟨_, rfl⟩
      have hF := tc_lt hF eb5
      have g6 : b5 < tc_nc x := by rw [eb5]; exact g4.2
      obtain ⟨mo, cap, fl, ha1, ha2, ha3, ha4, ha5⟩ := tc_Li.full hW.2.2.2.1 (Nat.lt_of_le_of_lt (Nat.zero_le _) g4.2)
      refine tc_cr (W.runV (As := [.int w2]) (rest := []) ⟨hx, hb, hml, hown, hts⟩ (mt_lget l D cO (E 3) mo (E 5) (tc_nc x) cap fl w2 (E (46 + b5)) g4 ha3 ha4 (by rw [eb5]; exact ha5 _ g4.2)) (cwV 1 hts gX2_hanging_Jx4a65c_get_915e3 rfl rfl rfl (by decide +kernel) ⟨Nat.le_of_ble_eq_true rfl, Nat.le_of_ble_eq_true rfl⟩) ⟨fun a U g mk q => ⟨q.1, q.2.1, q.2.2.1, va_K.moved (Vm.Alike.refl U.vm) q.2.2.2⟩, tc_rcv ha1 hK rfl, fun U hU hW9 => ⟨rfl, by rw [hU]; exact ha1, by rw [hU]; exact ha2, va_K.moved hW9.alike (hK.sub [1] rfl)⟩⟩ rfl rfl hl.1 rfl (lv_room (Nat.le_of_ble_eq_true rfl)) dX2_hanging_20 ⟨Nat.le_of_ble_eq_true rfl, Nat.le_of_ble_eq_true rfl⟩) ?_
      refine va_castS hx hb hown (hts (.classLink RX2 81 "TreadCranes$Crane") (List.mem_of_getElem? (i := 2) rfl)) ((hK.1 2 _ rfl).2) (tc_rcv (hW.c g6) hK rfl) dX2_hanging_23 ?_
      refine tc_get (v := va_rf (tc_ad E 6 (x.2.1 2 b5))) hx hb hts hinX1 hown hK (hW.c g6) (C := RX1) (T := TX1) (N := 8) rfl 7 (by decide) (hts (.fieldLink RX2 130 "TreadCranes$Crane" "load" "LTreadCranes$Barrel;") (List.mem_of_getElem? (i := 3) rfl)) (fun _ h9 => h9) rfl dX2_hanging_26 ?_
      refine tc_opt (fun o7 => ?_) (fun j8 o7 => ?_)
      · have hF := tc_on hF o7
        refine lv_ifnullN (tgt := 35) hx hb dX2_hanging_29 (by decide) ?_
        obtain ⟨v9, ev9⟩ : ∃ z : Int32, z = w2 + 1 := ⟨_, rfl⟩
        have hF := tc_lt hF ev9
        refine lv_iinc (v := v9) (lv' := [(2, .int v9), (0, .ref (E 0)), (1, .int w1)]) hx hb dX2_hanging_35 hl (k := 2) rfl (by rw [ev9]; rfl) (by decide) rfl (fun ls hl => ?_)
        refine lv_goto (tgt := 4) hx hb dX2_hanging_38 (by decide) ?_
        exact ih_4 w1 v9 hF _ (lv_sub hl [1, 2, 0] rfl)
      · have hF := tc_os hF o7
        refine lv_ifnull hx hb dX2_hanging_29 ?_
        obtain ⟨v10, ev10⟩ : ∃ z : Int32, z = w1 + 1 := ⟨_, rfl⟩
        have hF := tc_lt hF ev10
        refine lv_iinc (v := v10) (lv' := [(1, .int v10), (0, .ref (E 0)), (2, .int w2)]) hx hb dX2_hanging_32 hl (k := 1) rfl (by rw [ev10]; rfl) (by decide) rfl (fun ls hl => ?_)
        obtain ⟨v11, ev11⟩ : ∃ z : Int32, z = w2 + 1 := ⟨_, rfl⟩
        have hF := tc_lt hF ev11
        refine lv_iinc (v := v11) (lv' := [(2, .int v11), (1, .int v10), (0, .ref (E 0))]) hx hb dX2_hanging_35 hl (k := 2) rfl (by rw [ev11]; rfl) (by decide) rfl (fun ls hl => ?_)
        refine lv_goto (tgt := 4) hx hb dX2_hanging_38 (by decide) ?_
        exact ih_4 v10 v11 hF _ (lv_sub hl [2, 1, 0] rfl)
  · intro w1 w2 h9
    have h9 : lp_X2_hanging_4 0 x w1 w2 = some r := h9
    rw [lp_X2_hanging_4] at h9
    cases h9

def f_X2_placeAnswer (x : tc_X) (a1 : Int32) (a2 : Int32) : Option (Int32) := (if a2 = 0 then Option.bind (f_X2_heightOf x a1) (fun r2 => some r2) else (if a2 = 1 then Option.bind (f_X2_uppermostAt x a1) (fun r5 => (tc_oc (r5) (Option.bind (f_X2_numberOf x none) (fun r9 => some r9)) (fun j8 => Option.bind (f_X2_numberOf x (some j8)) (fun r11 => some r11)))) else (if a2 = 2 then Option.bind (f_X2_weightsAt x a1) (fun r14 => some r14) else Option.bind (f_X2_hooksOver x a1) (fun r16 => some r16))))
set_option maxHeartbeats 4000000 in
set_option maxRecDepth 100000 in
theorem mt_X2_placeAnswer (l : Launch) (D : va_G) (cU cO cI : ClassId) (e0 : Nat) (A : Nat → Prop) (E : Nat → Nat) (x : tc_X) (a1 : Int32) (a2 : Int32) (r : Int32) (hF : f_X2_placeAnswer x a1 a2 = some r) : Met l yX2_placeAnswer wsX2_placeAnswer ({ frames := 4, cells := 0, slots := 0, locals := 90 } : Room) (va_Pc [.ref (E 0), .int a1, .int a2] (fun U => tc_WC D cU cO e0 A E x U.heap ∧ tc_KC D cU cO cI U)) (k2_QcV (.int r)) 0 0 (fun _ => False) := by
  refine Met.ofW (cc := cX2_placeAnswer) (maxL := 3) (ret := (some .int)) (by decide) rfl ?_
  intro p e s m args below meth c s₁ B hml hv
  obtain ⟨rfl, hW, hKC⟩ := hv
  have hx := B.exec
  have hb := B.bytes
  have hr := B.returns
  have hts := atoms_spec (ws := wsX2_placeAnswer) B.pre
  have hown : s.vm.findClass RX2 = some m.cls := findClass_of_methodNamed B.named
  have hlocks := B.notSynchronized
  have hK := hKC.1
  have hl := lv_entry ([.ref (E 0), .int a1, .int a2]) (n := 3) (Nat.le_of_ble_eq_true rfl)
  rw [lg_entry_eq]
  generalize (lg_sl ([.ref (E 0), .int a1, .int a2]) ++ List.replicate (3 - (lg_sl ([.ref (E 0), .int a1, .int a2])).length) Slot.unset).toArray = ls at hl ⊢
  have hl : lv_has ls 3 [(0, .ref (E 0)), (1, .int a1), (2, .int a2)] := hl
  refine lv_iload_n hx hb dX2_placeAnswer_0 rfl (lv_at hl 2 rfl) ?_
  by_cases c1 : a2 = 0
  · have hF := tc_it hF c1
    refine lv_tableIn (off := 27) (tgt := 28) hx hb dX2_placeAnswer_1 (by rw [c1]; decide) (by rw [c1]; decide) (by rw [c1]; decide +kernel) (by decide) ?_
    refine lv_aload_n hx hb dX2_placeAnswer_28 rfl (lv_at hl 0 rfl) ?_
    refine lv_iload_n hx hb dX2_placeAnswer_29 rfl (lv_at hl 1 rfl) ?_
    obtain ⟨r2, h3, hF⟩ := tc_bi hF
    refine tc_cr (W.runV (As := [.int a1]) (rest := []) ⟨hx, hb, hml, hown, hts⟩ (mt_X2_heightOf l D cU cO cI e0 A E x a1 r2 h3) (cwV 1 hts gX2_placeAnswer_X2_heightOf rfl rfl rfl (by decide +kernel) ⟨Nat.le_of_ble_eq_true rfl, Nat.le_of_ble_eq_true rfl⟩) ⟨fun a U g mk q => ⟨q.1, q.2.1, q.2.2.call⟩, tc_rcv (hW.o) hK rfl, fun U hU hW9 => ⟨rfl, by rw [hU]; exact hW, hKC.warm hW9⟩⟩ rfl rfl hl.1 rfl (lv_room (Nat.le_of_ble_eq_true rfl)) dX2_placeAnswer_30 ⟨Nat.le_of_ble_eq_true rfl, Nat.le_of_ble_eq_true rfl⟩) ?_
    have h91 := Option.some.inj hF
    exact W.iret hx hb hr (fun t ht hW9 => ⟨by rw [← h91], ht⟩) (fun q h => absurd h List.not_mem_nil) dX2_placeAnswer_33
  have hF := tc_if hF c1
  by_cases c4 : a2 = 1
  · have hF := tc_it hF c4
    refine lv_tableIn (off := 33) (tgt := 34) hx hb dX2_placeAnswer_1 (by rw [c4]; decide) (by rw [c4]; decide) (by rw [c4]; decide +kernel) (by decide) ?_
    refine lv_aload_n hx hb dX2_placeAnswer_34 rfl (lv_at hl 0 rfl) ?_
    refine lv_iload_n hx hb dX2_placeAnswer_35 rfl (lv_at hl 1 rfl) ?_
    obtain ⟨r5, h6, hF⟩ := tc_bi hF
    refine tc_cr (W.runV (As := [.int a1]) (rest := []) ⟨hx, hb, hml, hown, hts⟩ (mt_X2_uppermostAt l D cU cO cI e0 A E x a1 r5 h6) (cwV 1 hts gX2_placeAnswer_X2_uppermostAt rfl rfl rfl (by decide +kernel) ⟨Nat.le_of_ble_eq_true rfl, Nat.le_of_ble_eq_true rfl⟩) ⟨fun a U g mk q => ⟨q.1, q.2.1, q.2.2.call⟩, tc_rcv (hW.o) hK rfl, fun U hU hW9 => ⟨rfl, by rw [hU]; exact hW, hKC.warm hW9⟩⟩ rfl rfl hl.1 rfl (lv_room (Nat.le_of_ble_eq_true rfl)) dX2_placeAnswer_36 ⟨Nat.le_of_ble_eq_true rfl, Nat.le_of_ble_eq_true rfl⟩) ?_
    refine tc_opt (fun o7 => ?_) (fun j8 o7 => ?_)
    · have hF := tc_on hF o7
      obtain ⟨r9, h10, hF⟩ := tc_bi hF
      refine tc_cr (W.runS (As := [.null]) (rest := []) ⟨hx, hb, hml, hown, hts⟩ (mt_X2_numberOf l D cU cO cI e0 A E x none r9 h10) (va_cwS 1 hts gX2_placeAnswer_X2_numberOf rfl rfl rfl (by decide +kernel) ⟨Nat.le_of_ble_eq_true rfl, Nat.le_of_ble_eq_true rfl⟩) ⟨fun a U g mk q => ⟨q.1, q.2.1, q.2.2.call⟩, fun U hU hW9 => ⟨rfl, by rw [hU]; exact hW, hKC.warm hW9⟩⟩ rfl rfl hl.1 rfl (lv_room (Nat.le_of_ble_eq_true rfl)) dX2_placeAnswer_39 ⟨Nat.le_of_ble_eq_true rfl, Nat.le_of_ble_eq_true rfl⟩) ?_
      have h91 := Option.some.inj hF
      exact W.iret hx hb hr (fun t ht hW9 => ⟨by rw [← h91], ht⟩) (fun q h => absurd h List.not_mem_nil) dX2_placeAnswer_42
    · have hF := tc_os hF o7
      obtain ⟨r11, h12, hF⟩ := tc_bi hF
      refine tc_cr (W.runS (As := [.ref (E (6 + j8))]) (rest := []) ⟨hx, hb, hml, hown, hts⟩ (mt_X2_numberOf l D cU cO cI e0 A E x (some j8) r11 h12) (va_cwS 1 hts gX2_placeAnswer_X2_numberOf rfl rfl rfl (by decide +kernel) ⟨Nat.le_of_ble_eq_true rfl, Nat.le_of_ble_eq_true rfl⟩) ⟨fun a U g mk q => ⟨q.1, q.2.1, q.2.2.call⟩, fun U hU hW9 => ⟨rfl, by rw [hU]; exact hW, hKC.warm hW9⟩⟩ rfl rfl hl.1 rfl (lv_room (Nat.le_of_ble_eq_true rfl)) dX2_placeAnswer_39 ⟨Nat.le_of_ble_eq_true rfl, Nat.le_of_ble_eq_true rfl⟩) ?_
      have h91 := Option.some.inj hF
      exact W.iret hx hb hr (fun t ht hW9 => ⟨by rw [← h91], ht⟩) (fun q h => absurd h List.not_mem_nil) dX2_placeAnswer_42
  have hF := tc_if hF c4
  by_cases c13 : a2 = 2
  · have hF := tc_it hF c13
    refine lv_tableIn (off := 42) (tgt := 43) hx hb dX2_placeAnswer_1 (by rw [c13]; decide) (by rw [c13]; decide) (by rw [c13]; decide +kernel) (by decide) ?_
    refine lv_aload_n hx hb dX2_placeAnswer_43 rfl (lv_at hl 0 rfl) ?_
    refine lv_iload_n hx hb dX2_placeAnswer_44 rfl (lv_at hl 1 rfl) ?_
    obtain ⟨r14, h15, hF⟩ := tc_bi hF
    refine tc_cr (W.runV (As := [.int a1]) (rest := []) ⟨hx, hb, hml, hown, hts⟩ (mt_X2_weightsAt l D cU cO cI e0 A E x a1 r14 h15) (cwV 1 hts gX2_placeAnswer_X2_weightsAt rfl rfl rfl (by decide +kernel) ⟨Nat.le_of_ble_eq_true rfl, Nat.le_of_ble_eq_true rfl⟩) ⟨fun a U g mk q => ⟨q.1, q.2.1, q.2.2.call⟩, tc_rcv (hW.o) hK rfl, fun U hU hW9 => ⟨rfl, by rw [hU]; exact hW, hKC.warm hW9⟩⟩ rfl rfl hl.1 rfl (lv_room (Nat.le_of_ble_eq_true rfl)) dX2_placeAnswer_45 ⟨Nat.le_of_ble_eq_true rfl, Nat.le_of_ble_eq_true rfl⟩) ?_
    have h91 := Option.some.inj hF
    exact W.iret hx hb hr (fun t ht hW9 => ⟨by rw [← h91], ht⟩) (fun q h => absurd h List.not_mem_nil) dX2_placeAnswer_48
  have hF := tc_if hF c13
  refine lv_tableOut (tgt := 49) hx hb dX2_placeAnswer_1 (by have q0 := lv_neT c1 (a := 0) (by decide); have q1 := lv_neT c4 (a := 1) (by decide); have q2 := lv_neT c13 (a := 2) (by decide); omega) (by decide) ?_
  refine lv_aload_n hx hb dX2_placeAnswer_49 rfl (lv_at hl 0 rfl) ?_
  refine lv_iload_n hx hb dX2_placeAnswer_50 rfl (lv_at hl 1 rfl) ?_
  obtain ⟨r16, h17, hF⟩ := tc_bi hF
  refine tc_cr (W.runV (As := [.int a1]) (rest := []) ⟨hx, hb, hml, hown, hts⟩ (mt_X2_hooksOver l D cU cO cI e0 A E x a1 r16 h17) (cwV 1 hts gX2_placeAnswer_X2_hooksOver rfl rfl rfl (by decide +kernel) ⟨Nat.le_of_ble_eq_true rfl, Nat.le_of_ble_eq_true rfl⟩) ⟨fun a U g mk q => ⟨q.1, q.2.1, q.2.2.call⟩, tc_rcv (hW.o) hK rfl, fun U hU hW9 => ⟨rfl, by rw [hU]; exact hW, hKC.warm hW9⟩⟩ rfl rfl hl.1 rfl (lv_room (Nat.le_of_ble_eq_true rfl)) dX2_placeAnswer_51 ⟨Nat.le_of_ble_eq_true rfl, Nat.le_of_ble_eq_true rfl⟩) ?_
  have h91 := Option.some.inj hF
  exact W.iret hx hb hr (fun t ht hW9 => ⟨by rw [← h91], ht⟩) (fun q h => absurd h List.not_mem_nil) dX2_placeAnswer_54

def f_X2_barrelAnswer (x : tc_X) (a1 : Nat) (a2 : Int32) : Option (Int32) := (if a2 = 0 then (if a1 < tc_nb x then some (x.1 11 a1) else none) else (if a2 = 1 then (if a1 < tc_nb x then some (x.1 12 a1) else none) else (if a2 = 2 then (if a1 < tc_nb x then (if (x.1 12 a1) = (-1) then some 0 else Option.bind (f_X2_heightOf x (x.1 12 a1)) (fun r8 => some ((r8 - (x.1 13 a1)) - 1))) else none) else (if a2 = 3 then (if a1 < tc_nb x then some (x.1 14 a1) else none) else (if a1 < tc_nb x then (if (x.1 15 a1) = 0 then some 0 else some 1) else none)))))
set_option maxHeartbeats 4000000 in
set_option maxRecDepth 100000 in
theorem mt_X2_barrelAnswer (l : Launch) (D : va_G) (cU cO cI : ClassId) (e0 : Nat) (A : Nat → Prop) (E : Nat → Nat) (x : tc_X) (a1 : Nat) (a2 : Int32) (r : Int32) (hF : f_X2_barrelAnswer x a1 a2 = some r) : Met l yX2_barrelAnswer wsX2_barrelAnswer ({ frames := 4, cells := 0, slots := 0, locals := 85 } : Room) (va_Pc [.ref (E 0), .ref (E (6 + a1)), .int a2] (fun U => tc_WC D cU cO e0 A E x U.heap ∧ tc_KC D cU cO cI U)) (k2_QcV (.int r)) 0 0 (fun _ => False) := by
  refine Met.ofW (cc := cX2_barrelAnswer) (maxL := 3) (ret := (some .int)) (by decide) rfl ?_
  intro p e s m args below meth c s₁ B hml hv
  obtain ⟨rfl, hW, hKC⟩ := hv
  have hx := B.exec
  have hb := B.bytes
  have hr := B.returns
  have hts := atoms_spec (ws := wsX2_barrelAnswer) B.pre
  have hown : s.vm.findClass RX2 = some m.cls := findClass_of_methodNamed B.named
  have hlocks := B.notSynchronized
  have hK := hKC.1
  have hinX0 : ∀ w ∈ wsX00, w ∈ wsX2_barrelAnswer := fun w9 h9 => List.mem_cons_of_mem _ (List.mem_append_left _ (List.mem_append_right _ h9))
  have hl := lv_entry ([.ref (E 0), .ref (E (6 + a1)), .int a2]) (n := 3) (Nat.le_of_ble_eq_true rfl)
  rw [lg_entry_eq]
  generalize (lg_sl ([.ref (E 0), .ref (E (6 + a1)), .int a2]) ++ List.replicate (3 - (lg_sl ([.ref (E 0), .ref (E (6 + a1)), .int a2])).length) Slot.unset).toArray = ls at hl ⊢
  have hl : lv_has ls 3 [(0, .ref (E 0)), (1, .ref (E (6 + a1))), (2, .int a2)] := hl
  refine lv_iload_n hx hb dX2_barrelAnswer_0 rfl (lv_at hl 2 rfl) ?_
  by_cases c1 : a2 = 0
  · have hF := tc_it hF c1
    refine lv_tableIn (off := 31) (tgt := 32) hx hb dX2_barrelAnswer_1 (by rw [c1]; decide) (by rw [c1]; decide) (by rw [c1]; decide +kernel) (by decide) ?_
    refine lv_aload_n hx hb dX2_barrelAnswer_32 rfl (lv_at hl 1 rfl) ?_
    obtain ⟨g2, hF⟩ := tc_ob hF
    refine tc_get (v := .int (x.1 11 a1)) hx hb hts hinX0 hown hK (hW.b g2) (C := RX0) (T := TX0) (N := 7) rfl 1 (by decide) (hts (.fieldLink RX2 134 "TreadCranes$Barrel" "weight" "I") (List.mem_of_getElem? (i := 1) rfl)) (fun _ h9 => h9) rfl dX2_barrelAnswer_33 ?_
    have h91 := Option.some.inj hF
    exact W.iret hx hb hr (fun t ht hW9 => ⟨by rw [← h91], ht⟩) (fun q h => absurd h List.not_mem_nil) dX2_barrelAnswer_36
  have hF := tc_if hF c1
  by_cases c3 : a2 = 1
  · have hF := tc_it hF c3
    refine lv_tableIn (off := 36) (tgt := 37) hx hb dX2_barrelAnswer_1 (by rw [c3]; decide) (by rw [c3]; decide) (by rw [c3]; decide +kernel) (by decide) ?_
    refine lv_aload_n hx hb dX2_barrelAnswer_37 rfl (lv_at hl 1 rfl) ?_
    obtain ⟨g4, hF⟩ := tc_ob hF
    refine tc_get (v := .int (x.1 12 a1)) hx hb hts hinX0 hown hK (hW.b g4) (C := RX0) (T := TX0) (N := 7) rfl 2 (by decide) (hts (.fieldLink RX2 193 "TreadCranes$Barrel" "place" "I") (List.mem_of_getElem? (i := 2) rfl)) (fun _ h9 => h9) rfl dX2_barrelAnswer_38 ?_
    have h91 := Option.some.inj hF
    exact W.iret hx hb hr (fun t ht hW9 => ⟨by rw [← h91], ht⟩) (fun q h => absurd h List.not_mem_nil) dX2_barrelAnswer_41
  have hF := tc_if hF c3
  by_cases c5 : a2 = 2
  · have hF := tc_it hF c5
    refine lv_tableIn (off := 41) (tgt := 42) hx hb dX2_barrelAnswer_1 (by rw [c5]; decide) (by rw [c5]; decide) (by rw [c5]; decide +kernel) (by decide) ?_
    refine lv_aload_n hx hb dX2_barrelAnswer_42 rfl (lv_at hl 1 rfl) ?_
    obtain ⟨g6, hF⟩ := tc_ob hF
    refine tc_get (v := .int (x.1 12 a1)) hx hb hts hinX0 hown hK (hW.b g6) (C := RX0) (T := TX0) (N := 7) rfl 2 (by decide) (hts (.fieldLink RX2 193 "TreadCranes$Barrel" "place" "I") (List.mem_of_getElem? (i := 2) rfl)) (fun _ h9 => h9) rfl dX2_barrelAnswer_43 ?_
    refine lv_iconst (v := (-1)) hx hb dX2_barrelAnswer_46 (by decide) ?_
    refine lv_icmp_ne (tgt := 54) hx hb dX2_barrelAnswer_47 (by decide) (fun c7 => ?_) (fun c7 => ?_)
    · have hF := tc_if hF c7
      refine lv_aload_n hx hb dX2_barrelAnswer_54 rfl (lv_at hl 0 rfl) ?_
      refine lv_aload_n hx hb dX2_barrelAnswer_55 rfl (lv_at hl 1 rfl) ?_
      refine tc_get (v := .int (x.1 12 a1)) hx hb hts hinX0 hown hK (hW.b g6) (C := RX0) (T := TX0) (N := 7) rfl 2 (by decide) (hts (.fieldLink RX2 193 "TreadCranes$Barrel" "place" "I") (List.mem_of_getElem? (i := 2) rfl)) (fun _ h9 => h9) rfl dX2_barrelAnswer_56 ?_
      obtain ⟨r8, h9, hF⟩ := tc_bi hF
      refine tc_cr (W.runV (As := [.int (x.1 12 a1)]) (rest := []) ⟨hx, hb, hml, hown, hts⟩ (mt_X2_heightOf l D cU cO cI e0 A E x (x.1 12 a1) r8 h9) (cwV 1 hts gX2_barrelAnswer_X2_heightOf rfl rfl rfl (by decide +kernel) ⟨Nat.le_of_ble_eq_true rfl, Nat.le_of_ble_eq_true rfl⟩) ⟨fun a U g mk q => ⟨q.1, q.2.1, q.2.2.call⟩, tc_rcv (hW.o) hK rfl, fun U hU hW9 => ⟨rfl, by rw [hU]; exact hW, hKC.warm hW9⟩⟩ rfl rfl hl.1 rfl (lv_room (Nat.le_of_ble_eq_true rfl)) dX2_barrelAnswer_59 ⟨Nat.le_of_ble_eq_true rfl, Nat.le_of_ble_eq_true rfl⟩) ?_
      refine lv_aload_n hx hb dX2_barrelAnswer_62 rfl (lv_at hl 1 rfl) ?_
      refine tc_get (v := .int (x.1 13 a1)) hx hb hts hinX0 hown hK (hW.b g6) (C := RX0) (T := TX0) (N := 7) rfl 3 (by decide) (hts (.fieldLink RX2 222 "TreadCranes$Barrel" "level" "I") (List.mem_of_getElem? (i := 3) rfl)) (fun _ h9 => h9) rfl dX2_barrelAnswer_63 ?_
      refine lv_isub hx hb dX2_barrelAnswer_66 ?_
      refine lv_iconst (v := 1) hx hb dX2_barrelAnswer_67 (by decide) ?_
      refine lv_isub hx hb dX2_barrelAnswer_68 ?_
      have h91 := Option.some.inj hF
      exact W.iret hx hb hr (fun t ht hW9 => ⟨by rw [← h91], ht⟩) (fun q h => absurd h List.not_mem_nil) dX2_barrelAnswer_69
    · have hF := tc_it hF c7
      refine lv_iconst (v := 0) hx hb dX2_barrelAnswer_50 (by decide) ?_
      refine lv_goto (tgt := 69) hx hb dX2_barrelAnswer_51 (by decide) ?_
      have h91 := Option.some.inj hF
      exact W.iret hx hb hr (fun t ht hW9 => ⟨by rw [← h91], ht⟩) (fun q h => absurd h List.not_mem_nil) dX2_barrelAnswer_69
  have hF := tc_if hF c5
  by_cases c10 : a2 = 3
  · have hF := tc_it hF c10
    refine lv_tableIn (off := 69) (tgt := 70) hx hb dX2_barrelAnswer_1 (by rw [c10]; decide) (by rw [c10]; decide) (by rw [c10]; decide +kernel) (by decide) ?_
    refine lv_aload_n hx hb dX2_barrelAnswer_70 rfl (lv_at hl 1 rfl) ?_
    obtain ⟨g11, hF⟩ := tc_ob hF
    refine tc_get (v := .int (x.1 14 a1)) hx hb hts hinX0 hown hK (hW.b g11) (C := RX0) (T := TX0) (N := 7) rfl 5 (by decide) (hts (.fieldLink RX2 158 "TreadCranes$Barrel" "crane" "I") (List.mem_of_getElem? (i := 4) rfl)) (fun _ h9 => h9) rfl dX2_barrelAnswer_71 ?_
    have h91 := Option.some.inj hF
    exact W.iret hx hb hr (fun t ht hW9 => ⟨by rw [← h91], ht⟩) (fun q h => absurd h List.not_mem_nil) dX2_barrelAnswer_74
  have hF := tc_if hF c10
  refine lv_tableOut (tgt := 75) hx hb dX2_barrelAnswer_1 (by have q0 := lv_neT c1 (a := 0) (by decide); have q1 := lv_neT c3 (a := 1) (by decide); have q2 := lv_neT c5 (a := 2) (by decide); have q3 := lv_neT c10 (a := 3) (by decide); omega) (by decide) ?_
  refine lv_aload_n hx hb dX2_barrelAnswer_75 rfl (lv_at hl 1 rfl) ?_
  obtain ⟨g12, hF⟩ := tc_ob hF
  refine tc_get (v := .int (x.1 15 a1)) hx hb hts hinX0 hown hK (hW.b g12) (C := RX0) (T := TX0) (N := 7) rfl 6 (by decide) (hts (.fieldLink RX2 196 "TreadCranes$Barrel" "broken" "Z") (List.mem_of_getElem? (i := 5) rfl)) (fun _ h9 => h9) rfl dX2_barrelAnswer_76 ?_
  refine lv_if_eq (tgt := 86) hx hb dX2_barrelAnswer_79 (by decide) (fun c13 => ?_) (fun c13 => ?_)
  · have hF := tc_it hF c13
    refine lv_iconst (v := 0) hx hb dX2_barrelAnswer_86 (by decide) ?_
    have h91 := Option.some.inj hF
    exact W.iret hx hb hr (fun t ht hW9 => ⟨by rw [← h91], ht⟩) (fun q h => absurd h List.not_mem_nil) dX2_barrelAnswer_87
  · have hF := tc_if hF c13
    refine lv_iconst (v := 1) hx hb dX2_barrelAnswer_82 (by decide) ?_
    refine lv_goto (tgt := 87) hx hb dX2_barrelAnswer_83 (by decide) ?_
    have h91 := Option.some.inj hF
    exact W.iret hx hb hr (fun t ht hW9 => ⟨by rw [← h91], ht⟩) (fun q h => absurd h List.not_mem_nil) dX2_barrelAnswer_87

def f_X2_craneAnswer (x : tc_X) (a1 : Nat) (a2 : Int32) : Option (Int32) := (if a2 = 0 then (if a1 < tc_nc x then some (x.1 20 a1) else none) else (if a2 = 1 then (if a1 < tc_nc x then some (x.1 21 a1) else none) else (if a2 = 2 then (if a1 < tc_nc x then some (x.1 22 a1) else none) else (if a2 = 3 then (if a1 < tc_nc x then some (x.1 23 a1) else none) else (if a2 = 4 then (if a1 < tc_nc x then some (x.1 24 a1) else none) else (if a2 = 5 then (if a1 < tc_nc x then some (x.1 25 a1) else none) else (if a2 = 6 then (if a1 < tc_nc x then some (x.1 26 a1) else none) else (if a2 = 7 then (if a1 < tc_nc x then (tc_oc (x.2.1 2 a1) (Option.bind (f_X2_numberOf x none) (fun r19 => some r19)) (fun j18 => Option.bind (f_X2_numberOf x (some j18)) (fun r21 => some r21))) else none) else (if a1 < tc_nc x then Option.bind (f_X1_strength x a1) (fun r24 => some r24) else none)))))))))
set_option maxHeartbeats 4000000 in
set_option maxRecDepth 100000 in
theorem mt_X2_craneAnswer (l : Launch) (D : va_G) (cU cO cI : ClassId) (e0 : Nat) (A : Nat → Prop) (E : Nat → Nat) (x : tc_X) (a1 : Nat) (a2 : Int32) (r : Int32) (hF : f_X2_craneAnswer x a1 a2 = some r) : Met l yX2_craneAnswer wsX2_craneAnswer ({ frames := 1, cells := 0, slots := 0, locals := 20 } : Room) (va_Pc [.ref (E (46 + a1)), .int a2] (fun U => tc_WC D cU cO e0 A E x U.heap ∧ tc_KC D cU cO cI U)) (k2_QcV (.int r)) 0 0 (fun _ => False) := by
  refine Met.ofW (cc := cX2_craneAnswer) (maxL := 2) (ret := (some .int)) (by decide) rfl ?_
  intro p e s m args below meth c s₁ B hml hv
  obtain ⟨rfl, hW, hKC⟩ := hv
  have hx := B.exec
  have hb := B.bytes
  have hr := B.returns
  have hts := atoms_spec (ws := wsX2_craneAnswer) B.pre
  have hown : s.vm.findClass RX2 = some m.cls := findClass_of_methodNamed B.named
  have hlocks := B.notSynchronized
  have hK := hKC.1
  have hinX1 : ∀ w ∈ wsX10, w ∈ wsX2_craneAnswer := fun w9 h9 => List.mem_cons_of_mem _ (List.mem_append_left _ (List.mem_append_right _ h9))
  have hl := lv_entry ([.ref (E (46 + a1)), .int a2]) (n := 2) (Nat.le_of_ble_eq_true rfl)
  rw [lg_entry_eq]
  generalize (lg_sl ([.ref (E (46 + a1)), .int a2]) ++ List.replicate (2 - (lg_sl ([.ref (E (46 + a1)), .int a2])).length) Slot.unset).toArray = ls at hl ⊢
  have hl : lv_has ls 2 [(0, .ref (E (46 + a1))), (1, .int a2)] := hl
  refine lv_iload_n hx hb dX2_craneAnswer_0 rfl (lv_at hl 1 rfl) ?_
  by_cases c1 : a2 = 0
  · have hF := tc_it hF c1
    refine lv_tableIn (off := 47) (tgt := 48) hx hb dX2_craneAnswer_1 (by rw [c1]; decide) (by rw [c1]; decide) (by rw [c1]; decide +kernel) (by decide) ?_
    refine lv_aload_n hx hb dX2_craneAnswer_48 rfl (lv_at hl 0 rfl) ?_
    obtain ⟨g2, hF⟩ := tc_ob hF
    refine tc_get (v := .int (x.1 20 a1)) hx hb hts hinX1 hown hK (hW.c g2) (C := RX1) (T := TX1) (N := 8) rfl 0 (by decide) (hts (.fieldLink RX2 258 "TreadCranes$Crane" "place" "I") (List.mem_of_getElem? (i := 1) rfl)) (fun _ h9 => h9) rfl dX2_craneAnswer_49 ?_
    have h91 := Option.some.inj hF
    exact W.iret hx hb hr (fun t ht hW9 => ⟨by rw [← h91], ht⟩) (fun q h => absurd h List.not_mem_nil) dX2_craneAnswer_52
  have hF := tc_if hF c1
  by_cases c3 : a2 = 1
  · have hF := tc_it hF c3
    refine lv_tableIn (off := 52) (tgt := 53) hx hb dX2_craneAnswer_1 (by rw [c3]; decide) (by rw [c3]; decide) (by rw [c3]; decide +kernel) (by decide) ?_
    refine lv_aload_n hx hb dX2_craneAnswer_53 rfl (lv_at hl 0 rfl) ?_
    obtain ⟨g4, hF⟩ := tc_ob hF
    refine tc_get (v := .int (x.1 21 a1)) hx hb hts hinX1 hown hK (hW.c g4) (C := RX1) (T := TX1) (N := 8) rfl 1 (by decide) (hts (.fieldLink RX2 259 "TreadCranes$Crane" "reach" "I") (List.mem_of_getElem? (i := 2) rfl)) (fun _ h9 => h9) rfl dX2_craneAnswer_54 ?_
    have h91 := Option.some.inj hF
    exact W.iret hx hb hr (fun t ht hW9 => ⟨by rw [← h91], ht⟩) (fun q h => absurd h List.not_mem_nil) dX2_craneAnswer_57
  have hF := tc_if hF c3
  by_cases c5 : a2 = 2
  · have hF := tc_it hF c5
    refine lv_tableIn (off := 57) (tgt := 58) hx hb dX2_craneAnswer_1 (by rw [c5]; decide) (by rw [c5]; decide) (by rw [c5]; decide +kernel) (by decide) ?_
    refine lv_aload_n hx hb dX2_craneAnswer_58 rfl (lv_at hl 0 rfl) ?_
    obtain ⟨g6, hF⟩ := tc_ob hF
    refine tc_get (v := .int (x.1 22 a1)) hx hb hts hinX1 hown hK (hW.c g6) (C := RX1) (T := TX1) (N := 8) rfl 2 (by decide) (hts (.fieldLink RX2 262 "TreadCranes$Crane" "drum" "I") (List.mem_of_getElem? (i := 3) rfl)) (fun _ h9 => h9) rfl dX2_craneAnswer_59 ?_
    have h91 := Option.some.inj hF
    exact W.iret hx hb hr (fun t ht hW9 => ⟨by rw [← h91], ht⟩) (fun q h => absurd h List.not_mem_nil) dX2_craneAnswer_62
  have hF := tc_if hF c5
  by_cases c7 : a2 = 3
  · have hF := tc_it hF c7
    refine lv_tableIn (off := 62) (tgt := 63) hx hb dX2_craneAnswer_1 (by rw [c7]; decide) (by rw [c7]; decide) (by rw [c7]; decide +kernel) (by decide) ?_
    refine lv_aload_n hx hb dX2_craneAnswer_63 rfl (lv_at hl 0 rfl) ?_
    obtain ⟨g8, hF⟩ := tc_ob hF
    refine tc_get (v := .int (x.1 23 a1)) hx hb hts hinX1 hown hK (hW.c g8) (C := RX1) (T := TX1) (N := 8) rfl 3 (by decide) (hts (.fieldLink RX2 93 "TreadCranes$Crane" "walkers" "I") (List.mem_of_getElem? (i := 4) rfl)) (fun _ h9 => h9) rfl dX2_craneAnswer_64 ?_
    have h91 := Option.some.inj hF
    exact W.iret hx hb hr (fun t ht hW9 => ⟨by rw [← h91], ht⟩) (fun q h => absurd h List.not_mem_nil) dX2_craneAnswer_67
  have hF := tc_if hF c7
  by_cases c9 : a2 = 4
  · have hF := tc_it hF c9
    refine lv_tableIn (off := 67) (tgt := 68) hx hb dX2_craneAnswer_1 (by rw [c9]; decide) (by rw [c9]; decide) (by rw [c9]; decide +kernel) (by decide) ?_
    refine lv_aload_n hx hb dX2_craneAnswer_68 rfl (lv_at hl 0 rfl) ?_
    obtain ⟨g10, hF⟩ := tc_ob hF
    refine tc_get (v := .int (x.1 24 a1)) hx hb hts hinX1 hown hK (hW.c g10) (C := RX1) (T := TX1) (N := 8) rfl 4 (by decide) (hts (.fieldLink RX2 96 "TreadCranes$Crane" "worn" "I") (List.mem_of_getElem? (i := 5) rfl)) (fun _ h9 => h9) rfl dX2_craneAnswer_69 ?_
    have h91 := Option.some.inj hF
    exact W.iret hx hb hr (fun t ht hW9 => ⟨by rw [← h91], ht⟩) (fun q h => absurd h List.not_mem_nil) dX2_craneAnswer_72
  have hF := tc_if hF c9
  by_cases c11 : a2 = 5
  · have hF := tc_it hF c11
    refine lv_tableIn (off := 72) (tgt := 73) hx hb dX2_craneAnswer_1 (by rw [c11]; decide) (by rw [c11]; decide) (by rw [c11]; decide +kernel) (by decide) ?_
    refine lv_aload_n hx hb dX2_craneAnswer_73 rfl (lv_at hl 0 rfl) ?_
    obtain ⟨g12, hF⟩ := tc_ob hF
    refine tc_get (v := .int (x.1 25 a1)) hx hb hts hinX1 hown hK (hW.c g12) (C := RX1) (T := TX1) (N := 8) rfl 5 (by decide) (hts (.fieldLink RX2 108 "TreadCranes$Crane" "hookPlace" "I") (List.mem_of_getElem? (i := 6) rfl)) (fun _ h9 => h9) rfl dX2_craneAnswer_74 ?_
    have h91 := Option.some.inj hF
    exact W.iret hx hb hr (fun t ht hW9 => ⟨by rw [← h91], ht⟩) (fun q h => absurd h List.not_mem_nil) dX2_craneAnswer_77
  have hF := tc_if hF c11
  by_cases c13 : a2 = 6
  · have hF := tc_it hF c13
    refine lv_tableIn (off := 77) (tgt := 78) hx hb dX2_craneAnswer_1 (by rw [c13]; decide) (by rw [c13]; decide) (by rw [c13]; decide +kernel) (by decide) ?_
    refine lv_aload_n hx hb dX2_craneAnswer_78 rfl (lv_at hl 0 rfl) ?_
    obtain ⟨g14, hF⟩ := tc_ob hF
    refine tc_get (v := .int (x.1 26 a1)) hx hb hts hinX1 hown hK (hW.c g14) (C := RX1) (T := TX1) (N := 8) rfl 6 (by decide) (hts (.fieldLink RX2 105 "TreadCranes$Crane" "hookHeight" "I") (List.mem_of_getElem? (i := 7) rfl)) (fun _ h9 => h9) rfl dX2_craneAnswer_79 ?_
    have h91 := Option.some.inj hF
    exact W.iret hx hb hr (fun t ht hW9 => ⟨by rw [← h91], ht⟩) (fun q h => absurd h List.not_mem_nil) dX2_craneAnswer_82
  have hF := tc_if hF c13
  by_cases c15 : a2 = 7
  · have hF := tc_it hF c15
    refine lv_tableIn (off := 82) (tgt := 83) hx hb dX2_craneAnswer_1 (by rw [c15]; decide) (by rw [c15]; decide) (by rw [c15]; decide +kernel) (by decide) ?_
    refine lv_aload_n hx hb dX2_craneAnswer_83 rfl (lv_at hl 0 rfl) ?_
    obtain ⟨g16, hF⟩ := tc_ob hF
    refine tc_get (v := va_rf (tc_ad E 6 (x.2.1 2 a1))) hx hb hts hinX1 hown hK (hW.c g16) (C := RX1) (T := TX1) (N := 8) rfl 7 (by decide) (hts (.fieldLink RX2 130 "TreadCranes$Crane" "load" "LTreadCranes$Barrel;") (List.mem_of_getElem? (i := 8) rfl)) (fun _ h9 => h9) rfl dX2_craneAnswer_84 ?_
    refine tc_opt (fun o17 => ?_) (fun j18 o17 => ?_)
    · have hF := tc_on hF o17
      obtain ⟨r19, h20, hF⟩ := tc_bi hF
      refine tc_cr (W.runS (As := [.null]) (rest := []) ⟨hx, hb, hml, hown, hts⟩ (mt_X2_numberOf l D cU cO cI e0 A E x none r19 h20) (va_cwS 1 hts gX2_craneAnswer_X2_numberOf rfl rfl rfl (by decide +kernel) ⟨Nat.le_of_ble_eq_true rfl, Nat.le_of_ble_eq_true rfl⟩) ⟨fun a U g mk q => ⟨q.1, q.2.1, q.2.2.call⟩, fun U hU hW9 => ⟨rfl, by rw [hU]; exact hW, hKC.warm hW9⟩⟩ rfl rfl hl.1 rfl (lv_room (Nat.le_of_ble_eq_true rfl)) dX2_craneAnswer_87 ⟨Nat.le_of_ble_eq_true rfl, Nat.le_of_ble_eq_true rfl⟩) ?_
      have h91 := Option.some.inj hF
      exact W.iret hx hb hr (fun t ht hW9 => ⟨by rw [← h91], ht⟩) (fun q h => absurd h List.not_mem_nil) dX2_craneAnswer_90
    · have hF := tc_os hF o17
      obtain ⟨r21, h22, hF⟩ := tc_bi hF
      refine tc_cr (W.runS (As := [.ref (E (6 + j18))]) (rest := []) ⟨hx, hb, hml, hown, hts⟩ (mt_X2_numberOf l D cU cO cI e0 A E x (some j18) r21 h22) (va_cwS 1 hts gX2_craneAnswer_X2_numberOf rfl rfl rfl (by decide +kernel) ⟨Nat.le_of_ble_eq_true rfl, Nat.le_of_ble_eq_true rfl⟩) ⟨fun a U g mk q => ⟨q.1, q.2.1, q.2.2.call⟩, fun U hU hW9 => ⟨rfl, by rw [hU]; exact hW, hKC.warm hW9⟩⟩ rfl rfl hl.1 rfl (lv_room (Nat.le_of_ble_eq_true rfl)) dX2_craneAnswer_87 ⟨Nat.le_of_ble_eq_true rfl, Nat.le_of_ble_eq_true rfl⟩) ?_
      have h91 := Option.some.inj hF
      exact W.iret hx hb hr (fun t ht hW9 => ⟨by rw [← h91], ht⟩) (fun q h => absurd h List.not_mem_nil) dX2_craneAnswer_90
  have hF := tc_if hF c15
  refine lv_tableOut (tgt := 91) hx hb dX2_craneAnswer_1 (by have q0 := lv_neT c1 (a := 0) (by decide); have q1 := lv_neT c3 (a := 1) (by decide); have q2 := lv_neT c5 (a := 2) (by decide); have q3 := lv_neT c7 (a := 3) (by decide); have q4 := lv_neT c9 (a := 4) (by decide); have q5 := lv_neT c11 (a := 5) (by decide); have q6 := lv_neT c13 (a := 6) (by decide); have q7 := lv_neT c15 (a := 7) (by decide); omega) (by decide) ?_
  refine lv_aload_n hx hb dX2_craneAnswer_91 rfl (lv_at hl 0 rfl) ?_
  obtain ⟨g23, hF⟩ := tc_ob hF
  obtain ⟨r24, h25, hF⟩ := tc_bi hF
  refine tc_cr (W.runV (As := []) (rest := []) ⟨hx, hb, hml, hown, hts⟩ (mt_X1_strength l D cU cO cI e0 A E x a1 r24 h25) (cwV 0 hts gX2_craneAnswer_X1_strength rfl rfl rfl (by decide +kernel) ⟨Nat.le_of_ble_eq_true rfl, Nat.le_of_ble_eq_true rfl⟩) ⟨fun a U g mk q => ⟨q.1, q.2.1, q.2.2.call⟩, tc_rcv (hW.c g23) hK rfl, fun U hU hW9 => ⟨rfl, by rw [hU]; exact hW, hKC.warm hW9⟩⟩ rfl rfl hl.1 rfl (lv_room (Nat.le_of_ble_eq_true rfl)) dX2_craneAnswer_92 ⟨Nat.le_of_ble_eq_true rfl, Nat.le_of_ble_eq_true rfl⟩) ?_
  have h91 := Option.some.inj hF
  exact W.iret hx hb hr (fun t ht hW9 => ⟨by rw [← h91], ht⟩) (fun q h => absurd h List.not_mem_nil) dX2_craneAnswer_95

def f_X2_countAnswer (x : tc_X) (a1 : Int32) : Option (Int32) := (if a1 = 0 then some (x.1 0 0) else (if a1 = 1 then some (nI (tc_nb x)) else (if a1 = 2 then Option.bind (f_X2_standing x) (fun r4 => some r4) else (if a1 = 3 then Option.bind (f_X2_hanging x) (fun r7 => some r7) else (if a1 = 4 then Option.bind (f_X2_standing x) (fun r10 => Option.bind (f_X2_hanging x) (fun r12 => some (((nI (tc_nb x)) - r10) - r12))) else (if a1 = 5 then some (nI (tc_nc x)) else Option.bind (f_X2_highestBetween x 0 15) (fun r15 => some r15)))))))
set_option maxHeartbeats 4000000 in
set_option maxRecDepth 100000 in
theorem mt_X2_countAnswer (l : Launch) (D : va_G) (cU cO cI : ClassId) (e0 : Nat) (A : Nat → Prop) (E : Nat → Nat) (x : tc_X) (a1 : Int32) (r : Int32) (hF : f_X2_countAnswer x a1 = some r) : Met l yX2_countAnswer wsX2_countAnswer ({ frames := 5, cells := 0, slots := 0, locals := 109 } : Room) (va_Pc [.ref (E 0), .int a1] (fun U => tc_WC D cU cO e0 A E x U.heap ∧ tc_KC D cU cO cI U)) (k2_QcV (.int r)) 0 0 (fun _ => False) := by
  refine Met.ofW (cc := cX2_countAnswer) (maxL := 2) (ret := (some .int)) (by decide) rfl ?_
  intro p e s m args below meth c s₁ B hml hv
  obtain ⟨rfl, hW, hKC⟩ := hv
  have hx := B.exec
  have hb := B.bytes
  have hr := B.returns
  have hts := atoms_spec (ws := wsX2_countAnswer) B.pre
  have hown : s.vm.findClass RX2 = some m.cls := findClass_of_methodNamed B.named
  have hlocks := B.notSynchronized
  have hK := hKC.1
  have hinX2 : ∀ w ∈ wsX20, w ∈ wsX2_countAnswer := fun w9 h9 => List.mem_cons_of_mem _ (List.mem_append_left _ (List.mem_append_left _ (List.mem_append_left _ (List.mem_append_right _ h9))))
  have hl := lv_entry ([.ref (E 0), .int a1]) (n := 2) (Nat.le_of_ble_eq_true rfl)
  rw [lg_entry_eq]
  generalize (lg_sl ([.ref (E 0), .int a1]) ++ List.replicate (2 - (lg_sl ([.ref (E 0), .int a1])).length) Slot.unset).toArray = ls at hl ⊢
  have hl : lv_has ls 2 [(0, .ref (E 0)), (1, .int a1)] := hl
  refine lv_iload_n hx hb dX2_countAnswer_0 rfl (lv_at hl 1 rfl) ?_
  by_cases c1 : a1 = 0
  · have hF := tc_it hF c1
    refine lv_tableIn (off := 39) (tgt := 40) hx hb dX2_countAnswer_1 (by rw [c1]; decide) (by rw [c1]; decide) (by rw [c1]; decide +kernel) (by decide) ?_
    refine lv_aload_n hx hb dX2_countAnswer_40 rfl (lv_at hl 0 rfl) ?_
    refine tc_get (v := .int (x.1 0 0)) hx hb hts hinX2 hown hK (hW.o) (C := RX2) (T := TX2) (N := 4) rfl 3 (by decide) (hts (.fieldLink RX2 123 "TreadCranes" "ticks" "I") (List.mem_of_getElem? (i := 1) rfl)) (fun _ h9 => h9) rfl dX2_countAnswer_41 ?_
    have h91 := Option.some.inj hF
    exact W.iret hx hb hr (fun t ht hW9 => ⟨by rw [← h91], ht⟩) (fun q h => absurd h List.not_mem_nil) dX2_countAnswer_44
  have hF := tc_if hF c1
  by_cases c2 : a1 = 1
  · have hF := tc_it hF c2
    refine lv_tableIn (off := 44) (tgt := 45) hx hb dX2_countAnswer_1 (by rw [c2]; decide) (by rw [c2]; decide) (by rw [c2]; decide +kernel) (by decide) ?_
    refine lv_aload_n hx hb dX2_countAnswer_45 rfl (lv_at hl 0 rfl) ?_
    refine tc_get (v := .ref (E 2)) hx hb hts hinX2 hown hK (hW.o) (C := RX2) (T := TX2) (N := 4) rfl 1 (by decide) (hts (.fieldLink RX2 18 "TreadCranes" "barrels" "Ljava/util/ArrayList;") (List.mem_of_getElem? (i := 2) rfl)) (fun _ h9 => h9) rfl dX2_countAnswer_46 ?_
    obtain ⟨mo, ha1, -⟩ := hW.2.2.1
    refine tc_cr (W.runV (As := []) (rest := []) ⟨hx, hb, hml, hown, hts⟩ (mt_lsize l D (E 2) mo (E 4) (nI (tc_nb x))) (cwV 0 hts gX2_countAnswer_Jx4a65c_size_8abf5 rfl rfl rfl (by decide +kernel) ⟨Nat.le_of_ble_eq_true rfl, Nat.le_of_ble_eq_true rfl⟩) ⟨fun a U g mk q => ⟨q.1, q.2.1, va_K.moved (Vm.Alike.refl U.vm) q.2.2⟩, tc_rcv ha1 hK rfl, fun U hU hW9 => ⟨rfl, by rw [hU]; exact ha1, va_K.moved hW9.alike (hK.sub [] rfl)⟩⟩ rfl rfl hl.1 rfl (lv_room (Nat.le_of_ble_eq_true rfl)) dX2_countAnswer_49 ⟨Nat.le_of_ble_eq_true rfl, Nat.le_of_ble_eq_true rfl⟩) ?_
    have h91 := Option.some.inj hF
    exact W.iret hx hb hr (fun t ht hW9 => ⟨by rw [← h91], ht⟩) (fun q h => absurd h List.not_mem_nil) dX2_countAnswer_52
  have hF := tc_if hF c2
  by_cases c3 : a1 = 2
  · have hF := tc_it hF c3
    refine lv_tableIn (off := 52) (tgt := 53) hx hb dX2_countAnswer_1 (by rw [c3]; decide) (by rw [c3]; decide) (by rw [c3]; decide +kernel) (by decide) ?_
    refine lv_aload_n hx hb dX2_countAnswer_53 rfl (lv_at hl 0 rfl) ?_
    obtain ⟨r4, h5, hF⟩ := tc_bi hF
    refine tc_cr (W.runV (As := []) (rest := []) ⟨hx, hb, hml, hown, hts⟩ (mt_X2_standing l D cU cO cI e0 A E x  r4 h5) (cwV 0 hts gX2_countAnswer_X2_standing rfl rfl rfl (by decide +kernel) ⟨Nat.le_of_ble_eq_true rfl, Nat.le_of_ble_eq_true rfl⟩) ⟨fun a U g mk q => ⟨q.1, q.2.1, q.2.2.call⟩, tc_rcv (hW.o) hK rfl, fun U hU hW9 => ⟨rfl, by rw [hU]; exact hW, hKC.warm hW9⟩⟩ rfl rfl hl.1 rfl (lv_room (Nat.le_of_ble_eq_true rfl)) dX2_countAnswer_54 ⟨Nat.le_of_ble_eq_true rfl, Nat.le_of_ble_eq_true rfl⟩) ?_
    have h91 := Option.some.inj hF
    exact W.iret hx hb hr (fun t ht hW9 => ⟨by rw [← h91], ht⟩) (fun q h => absurd h List.not_mem_nil) dX2_countAnswer_57
  have hF := tc_if hF c3
  by_cases c6 : a1 = 3
  · have hF := tc_it hF c6
    refine lv_tableIn (off := 57) (tgt := 58) hx hb dX2_countAnswer_1 (by rw [c6]; decide) (by rw [c6]; decide) (by rw [c6]; decide +kernel) (by decide) ?_
    refine lv_aload_n hx hb dX2_countAnswer_58 rfl (lv_at hl 0 rfl) ?_
    obtain ⟨r7, h8, hF⟩ := tc_bi hF
    refine tc_cr (W.runV (As := []) (rest := []) ⟨hx, hb, hml, hown, hts⟩ (mt_X2_hanging l D cU cO cI e0 A E x  r7 h8) (cwV 0 hts gX2_countAnswer_X2_hanging rfl rfl rfl (by decide +kernel) ⟨Nat.le_of_ble_eq_true rfl, Nat.le_of_ble_eq_true rfl⟩) ⟨fun a U g mk q => ⟨q.1, q.2.1, q.2.2.call⟩, tc_rcv (hW.o) hK rfl, fun U hU hW9 => ⟨rfl, by rw [hU]; exact hW, hKC.warm hW9⟩⟩ rfl rfl hl.1 rfl (lv_room (Nat.le_of_ble_eq_true rfl)) dX2_countAnswer_59 ⟨Nat.le_of_ble_eq_true rfl, Nat.le_of_ble_eq_true rfl⟩) ?_
    have h91 := Option.some.inj hF
    exact W.iret hx hb hr (fun t ht hW9 => ⟨by rw [← h91], ht⟩) (fun q h => absurd h List.not_mem_nil) dX2_countAnswer_62
  have hF := tc_if hF c6
  by_cases c9 : a1 = 4
  · have hF := tc_it hF c9
    refine lv_tableIn (off := 62) (tgt := 63) hx hb dX2_countAnswer_1 (by rw [c9]; decide) (by rw [c9]; decide) (by rw [c9]; decide +kernel) (by decide) ?_
    refine lv_aload_n hx hb dX2_countAnswer_63 rfl (lv_at hl 0 rfl) ?_
    refine tc_get (v := .ref (E 2)) hx hb hts hinX2 hown hK (hW.o) (C := RX2) (T := TX2) (N := 4) rfl 1 (by decide) (hts (.fieldLink RX2 18 "TreadCranes" "barrels" "Ljava/util/ArrayList;") (List.mem_of_getElem? (i := 2) rfl)) (fun _ h9 => h9) rfl dX2_countAnswer_64 ?_
    obtain ⟨mo, ha1, -⟩ := hW.2.2.1
    refine tc_cr (W.runV (As := []) (rest := []) ⟨hx, hb, hml, hown, hts⟩ (mt_lsize l D (E 2) mo (E 4) (nI (tc_nb x))) (cwV 0 hts gX2_countAnswer_Jx4a65c_size_8abf5 rfl rfl rfl (by decide +kernel) ⟨Nat.le_of_ble_eq_true rfl, Nat.le_of_ble_eq_true rfl⟩) ⟨fun a U g mk q => ⟨q.1, q.2.1, va_K.moved (Vm.Alike.refl U.vm) q.2.2⟩, tc_rcv ha1 hK rfl, fun U hU hW9 => ⟨rfl, by rw [hU]; exact ha1, va_K.moved hW9.alike (hK.sub [] rfl)⟩⟩ rfl rfl hl.1 rfl (lv_room (Nat.le_of_ble_eq_true rfl)) dX2_countAnswer_67 ⟨Nat.le_of_ble_eq_true rfl, Nat.le_of_ble_eq_true rfl⟩) ?_
    refine lv_aload_n hx hb dX2_countAnswer_70 rfl (lv_at hl 0 rfl) ?_
    obtain ⟨r10, h11, hF⟩ := tc_bi hF
    refine tc_cr (W.runV (As := []) (rest := [.int (nI (tc_nb x))]) ⟨hx, hb, hml, hown, hts⟩ (mt_X2_standing l D cU cO cI e0 A E x  r10 h11) (cwV 0 hts gX2_countAnswer_X2_standing rfl rfl rfl (by decide +kernel) ⟨Nat.le_of_ble_eq_true rfl, Nat.le_of_ble_eq_true rfl⟩) ⟨fun a U g mk q => ⟨q.1, q.2.1, q.2.2.call⟩, tc_rcv (hW.o) hK rfl, fun U hU hW9 => ⟨rfl, by rw [hU]; exact hW, hKC.warm hW9⟩⟩ rfl rfl hl.1 rfl (lv_room (Nat.le_of_ble_eq_true rfl)) dX2_countAnswer_71 ⟨Nat.le_of_ble_eq_true rfl, Nat.le_of_ble_eq_true rfl⟩) ?_
    refine lv_isub hx hb dX2_countAnswer_74 ?_
    refine lv_aload_n hx hb dX2_countAnswer_75 rfl (lv_at hl 0 rfl) ?_
    obtain ⟨r12, h13, hF⟩ := tc_bi hF
    refine tc_cr (W.runV (As := []) (rest := [.int ((nI (tc_nb x)) - r10)]) ⟨hx, hb, hml, hown, hts⟩ (mt_X2_hanging l D cU cO cI e0 A E x  r12 h13) (cwV 0 hts gX2_countAnswer_X2_hanging rfl rfl rfl (by decide +kernel) ⟨Nat.le_of_ble_eq_true rfl, Nat.le_of_ble_eq_true rfl⟩) ⟨fun a U g mk q => ⟨q.1, q.2.1, q.2.2.call⟩, tc_rcv (hW.o) hK rfl, fun U hU hW9 => ⟨rfl, by rw [hU]; exact hW, hKC.warm hW9⟩⟩ rfl rfl hl.1 rfl (lv_room (Nat.le_of_ble_eq_true rfl)) dX2_countAnswer_76 ⟨Nat.le_of_ble_eq_true rfl, Nat.le_of_ble_eq_true rfl⟩) ?_
    refine lv_isub hx hb dX2_countAnswer_79 ?_
    have h91 := Option.some.inj hF
    exact W.iret hx hb hr (fun t ht hW9 => ⟨by rw [← h91], ht⟩) (fun q h => absurd h List.not_mem_nil) dX2_countAnswer_80
  have hF := tc_if hF c9
  by_cases c14 : a1 = 5
  · have hF := tc_it hF c14
    refine lv_tableIn (off := 80) (tgt := 81) hx hb dX2_countAnswer_1 (by rw [c14]; decide) (by rw [c14]; decide) (by rw [c14]; decide +kernel) (by decide) ?_
    refine lv_aload_n hx hb dX2_countAnswer_81 rfl (lv_at hl 0 rfl) ?_
    refine tc_get (v := .ref (E 3)) hx hb hts hinX2 hown hK (hW.o) (C := RX2) (T := TX2) (N := 4) rfl 2 (by decide) (hts (.fieldLink RX2 22 "TreadCranes" "cranes" "Ljava/util/ArrayList;") (List.mem_of_getElem? (i := 3) rfl)) (fun _ h9 => h9) rfl dX2_countAnswer_82 ?_
    obtain ⟨mo, ha1, -⟩ := hW.2.2.2.1
    refine tc_cr (W.runV (As := []) (rest := []) ⟨hx, hb, hml, hown, hts⟩ (mt_lsize l D (E 3) mo (E 5) (nI (tc_nc x))) (cwV 0 hts gX2_countAnswer_Jx4a65c_size_8abf5 rfl rfl rfl (by decide +kernel) ⟨Nat.le_of_ble_eq_true rfl, Nat.le_of_ble_eq_true rfl⟩) ⟨fun a U g mk q => ⟨q.1, q.2.1, va_K.moved (Vm.Alike.refl U.vm) q.2.2⟩, tc_rcv ha1 hK rfl, fun U hU hW9 => ⟨rfl, by rw [hU]; exact ha1, va_K.moved hW9.alike (hK.sub [] rfl)⟩⟩ rfl rfl hl.1 rfl (lv_room (Nat.le_of_ble_eq_true rfl)) dX2_countAnswer_85 ⟨Nat.le_of_ble_eq_true rfl, Nat.le_of_ble_eq_true rfl⟩) ?_
    have h91 := Option.some.inj hF
    exact W.iret hx hb hr (fun t ht hW9 => ⟨by rw [← h91], ht⟩) (fun q h => absurd h List.not_mem_nil) dX2_countAnswer_88
  have hF := tc_if hF c14
  refine lv_tableOut (tgt := 89) hx hb dX2_countAnswer_1 (by have q0 := lv_neT c1 (a := 0) (by decide); have q1 := lv_neT c2 (a := 1) (by decide); have q2 := lv_neT c3 (a := 2) (by decide); have q3 := lv_neT c6 (a := 3) (by decide); have q4 := lv_neT c9 (a := 4) (by decide); have q5 := lv_neT c14 (a := 5) (by decide); omega) (by decide) ?_
  refine lv_aload_n hx hb dX2_countAnswer_89 rfl (lv_at hl 0 rfl) ?_
  refine lv_iconst (v := 0) hx hb dX2_countAnswer_90 (by decide) ?_
  refine lv_bipush (v := 15) hx hb dX2_countAnswer_91 (by decide) ?_
  obtain ⟨r15, h16, hF⟩ := tc_bi hF
  refine tc_cr (W.runV (As := [.int 0, .int 15]) (rest := []) ⟨hx, hb, hml, hown, hts⟩ (mt_X2_highestBetween l D cU cO cI e0 A E x 0 15 r15 h16) (cwV 2 hts gX2_countAnswer_X2_highestBetween rfl rfl rfl (by decide +kernel) ⟨Nat.le_of_ble_eq_true rfl, Nat.le_of_ble_eq_true rfl⟩) ⟨fun a U g mk q => ⟨q.1, q.2.1, q.2.2.call⟩, tc_rcv (hW.o) hK rfl, fun U hU hW9 => ⟨rfl, by rw [hU]; exact hW, hKC.warm hW9⟩⟩ rfl rfl hl.1 rfl (lv_room (Nat.le_of_ble_eq_true rfl)) dX2_countAnswer_93 ⟨Nat.le_of_ble_eq_true rfl, Nat.le_of_ble_eq_true rfl⟩) ?_
  have h91 := Option.some.inj hF
  exact W.iret hx hb hr (fun t ht hW9 => ⟨by rw [← h91], ht⟩) (fun q h => absurd h List.not_mem_nil) dX2_countAnswer_96

def f_X2_isFreeToMove (x : tc_X) (a1 : Nat) (a2 : Int32) (a3 : Int32) : Option (Int32) := (if a1 < tc_nc x then (tc_oc (x.2.1 2 a1) (if a2 = a3 then some 0 else Option.bind (f_X1_reaches x a1 a2) (fun r5 => (if r5 = 0 then some 0 else Option.bind (f_X1_reaches x a1 a3) (fun r8 => (if r8 = 0 then some 0 else Option.bind (f_X2_heightOf x a3) (fun r11 => (if 8 ≤ r11 then some 0 else some 1))))))) (fun j3 => some 0)) else none)
set_option maxHeartbeats 4000000 in
set_option maxRecDepth 100000 in
theorem mt_X2_isFreeToMove (l : Launch) (D : va_G) (cU cO cI : ClassId) (e0 : Nat) (A : Nat → Prop) (E : Nat → Nat) (x : tc_X) (a1 : Nat) (a2 : Int32) (a3 : Int32) (r : Int32) (hF : f_X2_isFreeToMove x a1 a2 a3 = some r) : Met l yX2_isFreeToMove wsX2_isFreeToMove ({ frames := 4, cells := 0, slots := 0, locals := 85 } : Room) (va_Pc [.ref (E 0), .ref (E (46 + a1)), .int a2, .int a3] (fun U => tc_WC D cU cO e0 A E x U.heap ∧ tc_KC D cU cO cI U)) (k2_QcV (.int r)) 0 0 (fun _ => False) := by
  refine Met.ofW (cc := cX2_isFreeToMove) (maxL := 4) (ret := (some .boolean)) (by decide) rfl ?_
  intro p e s m args below meth c s₁ B hml hv
  obtain ⟨rfl, hW, hKC⟩ := hv
  have hx := B.exec
  have hb := B.bytes
  have hr := B.returns
  have hts := atoms_spec (ws := wsX2_isFreeToMove) B.pre
  have hown : s.vm.findClass RX2 = some m.cls := findClass_of_methodNamed B.named
  have hlocks := B.notSynchronized
  have hK := hKC.1
  have hinX1 : ∀ w ∈ wsX10, w ∈ wsX2_isFreeToMove := fun w9 h9 => List.mem_cons_of_mem _ (List.mem_append_left _ (List.mem_append_left _ (List.mem_append_right _ h9)))
  have hl := lv_entry ([.ref (E 0), .ref (E (46 + a1)), .int a2, .int a3]) (n := 4) (Nat.le_of_ble_eq_true rfl)
  rw [lg_entry_eq]
  generalize (lg_sl ([.ref (E 0), .ref (E (46 + a1)), .int a2, .int a3]) ++ List.replicate (4 - (lg_sl ([.ref (E 0), .ref (E (46 + a1)), .int a2, .int a3])).length) Slot.unset).toArray = ls at hl ⊢
  have hl : lv_has ls 4 [(0, .ref (E 0)), (1, .ref (E (46 + a1))), (2, .int a2), (3, .int a3)] := hl
  refine lv_aload_n hx hb dX2_isFreeToMove_0 rfl (lv_at hl 1 rfl) ?_
  obtain ⟨g1, hF⟩ := tc_ob hF
  refine tc_get (v := va_rf (tc_ad E 6 (x.2.1 2 a1))) hx hb hts hinX1 hown hK (hW.c g1) (C := RX1) (T := TX1) (N := 8) rfl 7 (by decide) (hts (.fieldLink RX2 130 "TreadCranes$Crane" "load" "LTreadCranes$Barrel;") (List.mem_of_getElem? (i := 1) rfl)) (fun _ h9 => h9) rfl dX2_isFreeToMove_1 ?_
  refine tc_opt (fun o2 => ?_) (fun j3 o2 => ?_)
  · have hF := tc_on hF o2
    refine lv_ifnonnullN hx hb dX2_isFreeToMove_4 ?_
    refine lv_iload_n hx hb dX2_isFreeToMove_7 rfl (lv_at hl 2 rfl) ?_
    refine lv_iload_n hx hb dX2_isFreeToMove_8 rfl (lv_at hl 3 rfl) ?_
    refine lv_icmp_eq (tgt := 42) hx hb dX2_isFreeToMove_9 (by decide) (fun c4 => ?_) (fun c4 => ?_)
    · have hF := tc_it hF c4
      refine lv_iconst (v := 0) hx hb dX2_isFreeToMove_42 (by decide) ?_
      have h91 := Option.some.inj hF
      exact W.zret hx hb hr rfl (fun t ht hW9 => ⟨by rw [← h91], ht⟩) (fun q h => absurd h List.not_mem_nil) dX2_isFreeToMove_43
    · have hF := tc_if hF c4
      refine lv_aload_n hx hb dX2_isFreeToMove_12 rfl (lv_at hl 1 rfl) ?_
      refine lv_iload_n hx hb dX2_isFreeToMove_13 rfl (lv_at hl 2 rfl) ?_
      obtain ⟨r5, h6, hF⟩ := tc_bi hF
      refine tc_cr (W.runV (As := [.int a2]) (rest := []) ⟨hx, hb, hml, hown, hts⟩ (mt_X1_reaches l D cU cO cI e0 A E x a1 a2 r5 h6) (cwV 1 hts gX2_isFreeToMove_X1_reaches rfl rfl rfl (by decide +kernel) ⟨Nat.le_of_ble_eq_true rfl, Nat.le_of_ble_eq_true rfl⟩) ⟨fun a U g mk q => ⟨q.1, q.2.1, q.2.2.call⟩, tc_rcv (hW.c g1) hK rfl, fun U hU hW9 => ⟨rfl, by rw [hU]; exact hW, hKC.warm hW9⟩⟩ rfl rfl hl.1 rfl (lv_room (Nat.le_of_ble_eq_true rfl)) dX2_isFreeToMove_14 ⟨Nat.le_of_ble_eq_true rfl, Nat.le_of_ble_eq_true rfl⟩) ?_
      refine lv_if_eq (tgt := 42) hx hb dX2_isFreeToMove_17 (by decide) (fun c7 => ?_) (fun c7 => ?_)
      · have hF := tc_it hF c7
        refine lv_iconst (v := 0) hx hb dX2_isFreeToMove_42 (by decide) ?_
        have h91 := Option.some.inj hF
        exact W.zret hx hb hr rfl (fun t ht hW9 => ⟨by rw [← h91], ht⟩) (fun q h => absurd h List.not_mem_nil) dX2_isFreeToMove_43
      · have hF := tc_if hF c7
        refine lv_aload_n hx hb dX2_isFreeToMove_20 rfl (lv_at hl 1 rfl) ?_
        refine lv_iload_n hx hb dX2_isFreeToMove_21 rfl (lv_at hl 3 rfl) ?_
        obtain ⟨r8, h9, hF⟩ := tc_bi hF
        refine tc_cr (W.runV (As := [.int a3]) (rest := []) ⟨hx, hb, hml, hown, hts⟩ (mt_X1_reaches l D cU cO cI e0 A E x a1 a3 r8 h9) (cwV 1 hts gX2_isFreeToMove_X1_reaches rfl rfl rfl (by decide +kernel) ⟨Nat.le_of_ble_eq_true rfl, Nat.le_of_ble_eq_true rfl⟩) ⟨fun a U g mk q => ⟨q.1, q.2.1, q.2.2.call⟩, tc_rcv (hW.c g1) hK rfl, fun U hU hW9 => ⟨rfl, by rw [hU]; exact hW, hKC.warm hW9⟩⟩ rfl rfl hl.1 rfl (lv_room (Nat.le_of_ble_eq_true rfl)) dX2_isFreeToMove_22 ⟨Nat.le_of_ble_eq_true rfl, Nat.le_of_ble_eq_true rfl⟩) ?_
        refine lv_if_eq (tgt := 42) hx hb dX2_isFreeToMove_25 (by decide) (fun c10 => ?_) (fun c10 => ?_)
        · have hF := tc_it hF c10
          refine lv_iconst (v := 0) hx hb dX2_isFreeToMove_42 (by decide) ?_
          have h91 := Option.some.inj hF
          exact W.zret hx hb hr rfl (fun t ht hW9 => ⟨by rw [← h91], ht⟩) (fun q h => absurd h List.not_mem_nil) dX2_isFreeToMove_43
        · have hF := tc_if hF c10
          refine lv_aload_n hx hb dX2_isFreeToMove_28 rfl (lv_at hl 0 rfl) ?_
          refine lv_iload_n hx hb dX2_isFreeToMove_29 rfl (lv_at hl 3 rfl) ?_
          obtain ⟨r11, h12, hF⟩ := tc_bi hF
          refine tc_cr (W.runV (As := [.int a3]) (rest := []) ⟨hx, hb, hml, hown, hts⟩ (mt_X2_heightOf l D cU cO cI e0 A E x a3 r11 h12) (cwV 1 hts gX2_isFreeToMove_X2_heightOf rfl rfl rfl (by decide +kernel) ⟨Nat.le_of_ble_eq_true rfl, Nat.le_of_ble_eq_true rfl⟩) ⟨fun a U g mk q => ⟨q.1, q.2.1, q.2.2.call⟩, tc_rcv (hW.o) hK rfl, fun U hU hW9 => ⟨rfl, by rw [hU]; exact hW, hKC.warm hW9⟩⟩ rfl rfl hl.1 rfl (lv_room (Nat.le_of_ble_eq_true rfl)) dX2_isFreeToMove_30 ⟨Nat.le_of_ble_eq_true rfl, Nat.le_of_ble_eq_true rfl⟩) ?_
          refine lv_bipush (v := 8) hx hb dX2_isFreeToMove_33 (by decide) ?_
          refine lv_icmp_ge (tgt := 42) hx hb dX2_isFreeToMove_35 (by decide) (fun c13 => ?_) (fun c13 => ?_)
          · have hF := tc_it hF c13
            refine lv_iconst (v := 0) hx hb dX2_isFreeToMove_42 (by decide) ?_
            have h91 := Option.some.inj hF
            exact W.zret hx hb hr rfl (fun t ht hW9 => ⟨by rw [← h91], ht⟩) (fun q h => absurd h List.not_mem_nil) dX2_isFreeToMove_43
          · have hF := tc_if hF c13
            refine lv_iconst (v := 1) hx hb dX2_isFreeToMove_38 (by decide) ?_
            refine lv_goto (tgt := 43) hx hb dX2_isFreeToMove_39 (by decide) ?_
            have h91 := Option.some.inj hF
            exact W.zret hx hb hr rfl (fun t ht hW9 => ⟨by rw [← h91], ht⟩) (fun q h => absurd h List.not_mem_nil) dX2_isFreeToMove_43
  · have hF := tc_os hF o2
    refine lv_ifnonnull (tgt := 42) hx hb dX2_isFreeToMove_4 (by decide) ?_
    refine lv_iconst (v := 0) hx hb dX2_isFreeToMove_42 (by decide) ?_
    have h91 := Option.some.inj hF
    exact W.zret hx hb hr rfl (fun t ht hW9 => ⟨by rw [← h91], ht⟩) (fun q h => absurd h List.not_mem_nil) dX2_isFreeToMove_43

def f_X2_ticksToMove (x : tc_X) (a1 : Nat) (a2 : Int32) (a3 : Int32) : Option (Int32) := Option.bind (f_X2_uppermostAt x a2) (fun r1 => (tc_oc (r1) (some (-1)) (fun j4 => (if j4 < tc_nb x then (if a1 < tc_nc x then Option.bind (f_X1_canLift x a1 (x.1 11 j4)) (fun r7 => (if r7 = 0 then some (-1) else Option.bind (f_X2_isFreeToMove x a1 a2 a3) (fun r10 => (if r10 = 0 then some (-1) else Option.bind (f_X2_heightOf x a2) (fun r13 => Option.bind (f_X2_heightOf x a3) (fun r15 => tc_let (r15 + 1) (fun v17 => Option.bind (f_X2_highestBetween x (x.1 25 a1) a2) (fun r18 => tc_let (tc_max (x.1 26 a1) r18) (fun v20 => (if a3 ≤ a2 then tc_let (a2 - 1) (fun v22 => Option.bind (f_X2_highestBetween x v22 a3) (fun r23 => tc_let (tc_max r13 (r23 + 1)) (fun v25 => Option.bind (f_X1_ticksToWind x a1 (v25 - v17)) (fun r26 => Option.bind (f_X1_wornAfterLowering x a1 (x.1 11 j4) r26) (fun r28 => (if r28 ≤ 99 then Option.bind (f_X1_ticksToWind x a1 (v20 - (x.1 26 a1))) (fun r31 => Option.bind (f_X2_distance (x.1 25 a1) a2) (fun r33 => Option.bind (f_X1_ticksToWind x a1 (v20 - r13)) (fun r35 => Option.bind (f_X1_ticksToWind x a1 (v25 - r13)) (fun r37 => Option.bind (f_X2_distance a2 a3) (fun r39 => some (((((r31 + r33) + r35) + r37) + r39) + r26)))))) else some (-1))))))) else tc_let (a2 + 1) (fun v41 => Option.bind (f_X2_highestBetween x v41 a3) (fun r42 => tc_let (tc_max r13 (r42 + 1)) (fun v44 => Option.bind (f_X1_ticksToWind x a1 (v44 - v17)) (fun r45 => Option.bind (f_X1_wornAfterLowering x a1 (x.1 11 j4) r45) (fun r47 => (if r47 ≤ 99 then Option.bind (f_X1_ticksToWind x a1 (v20 - (x.1 26 a1))) (fun r50 => Option.bind (f_X2_distance (x.1 25 a1) a2) (fun r52 => Option.bind (f_X1_ticksToWind x a1 (v20 - r13)) (fun r54 => Option.bind (f_X1_ticksToWind x a1 (v44 - r13)) (fun r56 => Option.bind (f_X2_distance a2 a3) (fun r58 => some (((((r50 + r52) + r54) + r56) + r58) + r45)))))) else some (-1))))))))))))))))) else none) else none))))
set_option maxHeartbeats 4000000 in
set_option maxRecDepth 100000 in
theorem mt_X2_ticksToMove (l : Launch) (D : va_G) (cU cO cI : ClassId) (e0 : Nat) (A : Nat → Prop) (E : Nat → Nat) (x : tc_X) (a1 : Nat) (a2 : Int32) (a3 : Int32) (r : Int32) (hF : f_X2_ticksToMove x a1 a2 a3 = some r) : Met l yX2_ticksToMove wsX2_ticksToMove ({ frames := 5, cells := 0, slots := 0, locals := 109 } : Room) (va_Pc [.ref (E 0), .ref (E (46 + a1)), .int a2, .int a3] (fun U => tc_WC D cU cO e0 A E x U.heap ∧ tc_KC D cU cO cI U)) (k2_QcV (.int r)) 0 0 (fun _ => False) := by
  refine Met.ofW (cc := cX2_ticksToMove) (maxL := 11) (ret := (some .int)) (by decide) rfl ?_
  intro p e s m args below meth c s₁ B hml hv
  obtain ⟨rfl, hW, hKC⟩ := hv
  have hx := B.exec
  have hb := B.bytes
  have hr := B.returns
  have hts := atoms_spec (ws := wsX2_ticksToMove) B.pre
  have hown : s.vm.findClass RX2 = some m.cls := findClass_of_methodNamed B.named
  have hlocks := B.notSynchronized
  have hK := hKC.1
  have hinX0 : ∀ w ∈ wsX00, w ∈ wsX2_ticksToMove := fun w9 h9 => List.mem_cons_of_mem _ (List.mem_append_left _ (List.mem_append_left _ (List.mem_append_right _ h9)))
  have hinX1 : ∀ w ∈ wsX10, w ∈ wsX2_ticksToMove := fun w9 h9 => List.mem_cons_of_mem _ (List.mem_append_left _ (List.mem_append_right _ h9))
  have hl := lv_entry ([.ref (E 0), .ref (E (46 + a1)), .int a2, .int a3]) (n := 11) (Nat.le_of_ble_eq_true rfl)
  rw [lg_entry_eq]
  generalize (lg_sl ([.ref (E 0), .ref (E (46 + a1)), .int a2, .int a3]) ++ List.replicate (11 - (lg_sl ([.ref (E 0), .ref (E (46 + a1)), .int a2, .int a3])).length) Slot.unset).toArray = ls at hl ⊢
  have hl : lv_has ls 11 [(0, .ref (E 0)), (1, .ref (E (46 + a1))), (2, .int a2), (3, .int a3)] := hl
  refine lv_aload_n hx hb dX2_ticksToMove_0 rfl (lv_at hl 0 rfl) ?_
  refine lv_iload_n hx hb dX2_ticksToMove_1 rfl (lv_at hl 2 rfl) ?_
  obtain ⟨r1, h2, hF⟩ := tc_bi hF
  refine tc_cr (W.runV (As := [.int a2]) (rest := []) ⟨hx, hb, hml, hown, hts⟩ (mt_X2_uppermostAt l D cU cO cI e0 A E x a2 r1 h2) (cwV 1 hts gX2_ticksToMove_X2_uppermostAt rfl rfl rfl (by decide +kernel) ⟨Nat.le_of_ble_eq_true rfl, Nat.le_of_ble_eq_true rfl⟩) ⟨fun a U g mk q => ⟨q.1, q.2.1, q.2.2.call⟩, tc_rcv (hW.o) hK rfl, fun U hU hW9 => ⟨rfl, by rw [hU]; exact hW, hKC.warm hW9⟩⟩ rfl rfl hl.1 rfl (lv_room (Nat.le_of_ble_eq_true rfl)) dX2_ticksToMove_2 ⟨Nat.le_of_ble_eq_true rfl, Nat.le_of_ble_eq_true rfl⟩) ?_
  refine tc_opt (fun o3 => ?_) (fun j4 o3 => ?_)
  · have hF := tc_on hF o3
    refine lv_astoreN (lv' := [(4, .null), (0, .ref (E 0)), (1, .ref (E (46 + a1))), (2, .int a2), (3, .int a3)]) hx hb dX2_ticksToMove_5 hl (by decide) rfl (fun ls hl => ?_)
    refine lv_aloadN hx hb dX2_ticksToMove_7 (lv_at hl 0 rfl) ?_
    refine lv_ifnullN (tgt := 34) hx hb dX2_ticksToMove_9 (by decide) ?_
    refine lv_iconst (v := (-1)) hx hb dX2_ticksToMove_34 (by decide) ?_
    have h91 := Option.some.inj hF
    exact W.iret hx hb hr (fun t ht hW9 => ⟨by rw [← h91], ht⟩) (fun q h => absurd h List.not_mem_nil) dX2_ticksToMove_35
  · have hF := tc_os hF o3
    refine lv_astore (lv' := [(4, .ref (E (6 + j4))), (0, .ref (E 0)), (1, .ref (E (46 + a1))), (2, .int a2), (3, .int a3)]) hx hb dX2_ticksToMove_5 hl (by decide) rfl (fun ls hl => ?_)
    refine lv_aload hx hb dX2_ticksToMove_7 (lv_at hl 0 rfl) ?_
    refine lv_ifnull hx hb dX2_ticksToMove_9 ?_
    refine lv_aload_n hx hb dX2_ticksToMove_12 rfl (lv_at hl 2 rfl) ?_
    refine lv_aload hx hb dX2_ticksToMove_13 (lv_at hl 0 rfl) ?_
    obtain ⟨g5, hF⟩ := tc_ob hF
    refine tc_get (v := .int (x.1 11 j4)) hx hb hts hinX0 hown hK (hW.b g5) (C := RX0) (T := TX0) (N := 7) rfl 1 (by decide) (hts (.fieldLink RX2 134 "TreadCranes$Barrel" "weight" "I") (List.mem_of_getElem? (i := 1) rfl)) (fun _ h9 => h9) rfl dX2_ticksToMove_15 ?_
    obtain ⟨g6, hF⟩ := tc_ob hF
    obtain ⟨r7, h8, hF⟩ := tc_bi hF
    refine tc_cr (W.runV (As := [.int (x.1 11 j4)]) (rest := []) ⟨hx, hb, hml, hown, hts⟩ (mt_X1_canLift l D cU cO cI e0 A E x a1 (x.1 11 j4) r7 h8) (cwV 1 hts gX2_ticksToMove_X1_canLift rfl rfl rfl (by decide +kernel) ⟨Nat.le_of_ble_eq_true rfl, Nat.le_of_ble_eq_true rfl⟩) ⟨fun a U g mk q => ⟨q.1, q.2.1, q.2.2.call⟩, tc_rcv (hW.c g6) hK rfl, fun U hU hW9 => ⟨rfl, by rw [hU]; exact hW, hKC.warm hW9⟩⟩ rfl rfl hl.1 rfl (lv_room (Nat.le_of_ble_eq_true rfl)) dX2_ticksToMove_18 ⟨Nat.le_of_ble_eq_true rfl, Nat.le_of_ble_eq_true rfl⟩) ?_
    refine lv_if_eq (tgt := 34) hx hb dX2_ticksToMove_21 (by decide) (fun c9 => ?_) (fun c9 => ?_)
    · have hF := tc_it hF c9
      refine lv_iconst (v := (-1)) hx hb dX2_ticksToMove_34 (by decide) ?_
      have h91 := Option.some.inj hF
      exact W.iret hx hb hr (fun t ht hW9 => ⟨by rw [← h91], ht⟩) (fun q h => absurd h List.not_mem_nil) dX2_ticksToMove_35
    · have hF := tc_if hF c9
      refine lv_aload_n hx hb dX2_ticksToMove_24 rfl (lv_at hl 1 rfl) ?_
      refine lv_aload_n hx hb dX2_ticksToMove_25 rfl (lv_at hl 2 rfl) ?_
      refine lv_iload_n hx hb dX2_ticksToMove_26 rfl (lv_at hl 3 rfl) ?_
      refine lv_iload_n hx hb dX2_ticksToMove_27 rfl (lv_at hl 4 rfl) ?_
      obtain ⟨r10, h11, hF⟩ := tc_bi hF
      refine tc_cr (W.runV (As := [.ref (E (46 + a1)), .int a2, .int a3]) (rest := []) ⟨hx, hb, hml, hown, hts⟩ (mt_X2_isFreeToMove l D cU cO cI e0 A E x a1 a2 a3 r10 h11) (cwV 3 hts gX2_ticksToMove_X2_isFreeToMove rfl rfl rfl (by decide +kernel) ⟨Nat.le_of_ble_eq_true rfl, Nat.le_of_ble_eq_true rfl⟩) ⟨fun a U g mk q => ⟨q.1, q.2.1, q.2.2.call⟩, tc_rcv (hW.o) hK rfl, fun U hU hW9 => ⟨rfl, by rw [hU]; exact hW, hKC.warm hW9⟩⟩ rfl rfl hl.1 rfl (lv_room (Nat.le_of_ble_eq_true rfl)) dX2_ticksToMove_28 ⟨Nat.le_of_ble_eq_true rfl, Nat.le_of_ble_eq_true rfl⟩) ?_
      refine lv_if_ne (tgt := 36) hx hb dX2_ticksToMove_31 (by decide) (fun c12 => ?_) (fun c12 => ?_)
      · have hF := tc_if hF c12
        refine lv_aload_n hx hb dX2_ticksToMove_36 rfl (lv_at hl 1 rfl) ?_
        refine lv_iload_n hx hb dX2_ticksToMove_37 rfl (lv_at hl 3 rfl) ?_
        obtain ⟨r13, h14, hF⟩ := tc_bi hF
        refine tc_cr (W.runV (As := [.int a2]) (rest := []) ⟨hx, hb, hml, hown, hts⟩ (mt_X2_heightOf l D cU cO cI e0 A E x a2 r13 h14) (cwV 1 hts gX2_ticksToMove_X2_heightOf rfl rfl rfl (by decide +kernel) ⟨Nat.le_of_ble_eq_true rfl, Nat.le_of_ble_eq_true rfl⟩) ⟨fun a U g mk q => ⟨q.1, q.2.1, q.2.2.call⟩, tc_rcv (hW.o) hK rfl, fun U hU hW9 => ⟨rfl, by rw [hU]; exact hW, hKC.warm hW9⟩⟩ rfl rfl hl.1 rfl (lv_room (Nat.le_of_ble_eq_true rfl)) dX2_ticksToMove_38 ⟨Nat.le_of_ble_eq_true rfl, Nat.le_of_ble_eq_true rfl⟩) ?_
        refine lv_istore (lv' := [(5, .int r13), (4, .ref (E (6 + j4))), (0, .ref (E 0)), (1, .ref (E (46 + a1))), (2, .int a2), (3, .int a3)]) hx hb dX2_ticksToMove_41 hl (by decide) rfl (fun ls hl => ?_)
        refine lv_aload_n hx hb dX2_ticksToMove_43 rfl (lv_at hl 2 rfl) ?_
        refine lv_iload_n hx hb dX2_ticksToMove_44 rfl (lv_at hl 5 rfl) ?_
        obtain ⟨r15, h16, hF⟩ := tc_bi hF
        refine tc_cr (W.runV (As := [.int a3]) (rest := []) ⟨hx, hb, hml, hown, hts⟩ (mt_X2_heightOf l D cU cO cI e0 A E x a3 r15 h16) (cwV 1 hts gX2_ticksToMove_X2_heightOf rfl rfl rfl (by decide +kernel) ⟨Nat.le_of_ble_eq_true rfl, Nat.le_of_ble_eq_true rfl⟩) ⟨fun a U g mk q => ⟨q.1, q.2.1, q.2.2.call⟩, tc_rcv (hW.o) hK rfl, fun U hU hW9 => ⟨rfl, by rw [hU]; exact hW, hKC.warm hW9⟩⟩ rfl rfl hl.1 rfl (lv_room (Nat.le_of_ble_eq_true rfl)) dX2_ticksToMove_45 ⟨Nat.le_of_ble_eq_true rfl, Nat.le_of_ble_eq_true rfl⟩) ?_
        refine lv_iconst (v := 1) hx hb dX2_ticksToMove_48 (by decide) ?_
        refine lv_iadd hx hb dX2_ticksToMove_49 ?_
        refine lv_topi (fun v17 ev17 => ?_)
        have hF := tc_lt hF ev17
        refine lv_istore (lv' := [(6, .int v17), (5, .int r13), (4, .ref (E (6 + j4))), (0, .ref (E 0)), (1, .ref (E (46 + a1))), (2, .int a2), (3, .int a3)]) hx hb dX2_ticksToMove_50 hl (by decide) rfl (fun ls hl => ?_)
        refine lv_aload_n hx hb dX2_ticksToMove_52 rfl (lv_at hl 4 rfl) ?_
        refine tc_get (v := .int (x.1 26 a1)) hx hb hts hinX1 hown hK (hW.c g6) (C := RX1) (T := TX1) (N := 8) rfl 6 (by decide) (hts (.fieldLink RX2 105 "TreadCranes$Crane" "hookHeight" "I") (List.mem_of_getElem? (i := 2) rfl)) (fun _ h9 => h9) rfl dX2_ticksToMove_53 ?_
        refine lv_aload_n hx hb dX2_ticksToMove_56 rfl (lv_at hl 3 rfl) ?_
        refine lv_aload_n hx hb dX2_ticksToMove_57 rfl (lv_at hl 4 rfl) ?_
        refine tc_get (v := .int (x.1 25 a1)) hx hb hts hinX1 hown hK (hW.c g6) (C := RX1) (T := TX1) (N := 8) rfl 5 (by decide) (hts (.fieldLink RX2 108 "TreadCranes$Crane" "hookPlace" "I") (List.mem_of_getElem? (i := 3) rfl)) (fun _ h9 => h9) rfl dX2_ticksToMove_58 ?_
        refine lv_iload_n hx hb dX2_ticksToMove_61 rfl (lv_at hl 5 rfl) ?_
        obtain ⟨r18, h19, hF⟩ := tc_bi hF
        refine tc_cr (W.runV (As := [.int (x.1 25 a1), .int a2]) (rest := [.int (x.1 26 a1)]) ⟨hx, hb, hml, hown, hts⟩ (mt_X2_highestBetween l D cU cO cI e0 A E x (x.1 25 a1) a2 r18 h19) (cwV 2 hts gX2_ticksToMove_X2_highestBetween rfl rfl rfl (by decide +kernel) ⟨Nat.le_of_ble_eq_true rfl, Nat.le_of_ble_eq_true rfl⟩) ⟨fun a U g mk q => ⟨q.1, q.2.1, q.2.2.call⟩, tc_rcv (hW.o) hK rfl, fun U hU hW9 => ⟨rfl, by rw [hU]; exact hW, hKC.warm hW9⟩⟩ rfl rfl hl.1 rfl (lv_room (Nat.le_of_ble_eq_true rfl)) dX2_ticksToMove_62 ⟨Nat.le_of_ble_eq_true rfl, Nat.le_of_ble_eq_true rfl⟩) ?_
        refine va_mmax hx hb (by rw [hml]; exact hl.1.symm) hown (hts (.methodLink RX2 228 Lib.Math.max.name) (List.mem_of_getElem? (i := 4) rfl)) (hts (.static Lib.Math.max.name) (List.mem_of_getElem? (i := 5) rfl)) (hts (.initialized "java/lang/Math") (List.mem_of_getElem? (i := 6) rfl)) (hts (.code Lib.Math.max.name Lib.Math.max.code 2 (some .int)) (List.mem_of_getElem? (i := 7) rfl)) (Nat.le_of_ble_eq_true rfl) (Nat.le_of_ble_eq_true rfl) (Nat.le_of_ble_eq_true rfl) (Nat.le_of_ble_eq_true rfl) dX2_ticksToMove_65 ?_
        refine lv_topi (fun v20 ev20 => ?_)
        have hF := tc_lt hF ev20
        refine lv_istore (lv' := [(7, .int v20), (6, .int v17), (5, .int r13), (4, .ref (E (6 + j4))), (0, .ref (E 0)), (1, .ref (E (46 + a1))), (2, .int a2), (3, .int a3)]) hx hb dX2_ticksToMove_68 hl (by decide) rfl (fun ls hl => ?_)
        refine lv_iload_n hx hb dX2_ticksToMove_70 rfl (lv_at hl 6 rfl) ?_
        refine lv_iload_n hx hb dX2_ticksToMove_71 rfl (lv_at hl 7 rfl) ?_
        refine lv_icmp_ge (tgt := 81) hx hb dX2_ticksToMove_72 (by decide) (fun c21 => ?_) (fun c21 => ?_)
        · have hF := tc_it hF c21
          refine lv_iload_n hx hb dX2_ticksToMove_81 rfl (lv_at hl 6 rfl) ?_
          refine lv_iconst (v := 1) hx hb dX2_ticksToMove_82 (by decide) ?_
          refine lv_isub hx hb dX2_ticksToMove_83 ?_
          refine lv_topi (fun v22 ev22 => ?_)
          have hF := tc_lt hF ev22
          refine lv_istore (lv' := [(8, .int v22), (7, .int v20), (6, .int v17), (5, .int r13), (4, .ref (E (6 + j4))), (0, .ref (E 0)), (1, .ref (E (46 + a1))), (2, .int a2), (3, .int a3)]) hx hb dX2_ticksToMove_84 hl (by decide) rfl (fun ls hl => ?_)
          refine lv_iload hx hb dX2_ticksToMove_86 (lv_at hl 3 rfl) ?_
          refine lv_aload_n hx hb dX2_ticksToMove_88 rfl (lv_at hl 5 rfl) ?_
          refine lv_iload hx hb dX2_ticksToMove_89 (lv_at hl 0 rfl) ?_
          refine lv_iload_n hx hb dX2_ticksToMove_91 rfl (lv_at hl 8 rfl) ?_
          obtain ⟨r23, h24, hF⟩ := tc_bi hF
          refine tc_cr (W.runV (As := [.int v22, .int a3]) (rest := [.int r13]) ⟨hx, hb, hml, hown, hts⟩ (mt_X2_highestBetween l D cU cO cI e0 A E x v22 a3 r23 h24) (cwV 2 hts gX2_ticksToMove_X2_highestBetween rfl rfl rfl (by decide +kernel) ⟨Nat.le_of_ble_eq_true rfl, Nat.le_of_ble_eq_true rfl⟩) ⟨fun a U g mk q => ⟨q.1, q.2.1, q.2.2.call⟩, tc_rcv (hW.o) hK rfl, fun U hU hW9 => ⟨rfl, by rw [hU]; exact hW, hKC.warm hW9⟩⟩ rfl rfl hl.1 rfl (lv_room (Nat.le_of_ble_eq_true rfl)) dX2_ticksToMove_92 ⟨Nat.le_of_ble_eq_true rfl, Nat.le_of_ble_eq_true rfl⟩) ?_
          refine lv_iconst (v := 1) hx hb dX2_ticksToMove_95 (by decide) ?_
          refine lv_iadd hx hb dX2_ticksToMove_96 ?_
          refine va_mmax hx hb (by rw [hml]; exact hl.1.symm) hown (hts (.methodLink RX2 228 Lib.Math.max.name) (List.mem_of_getElem? (i := 4) rfl)) (hts (.static Lib.Math.max.name) (List.mem_of_getElem? (i := 5) rfl)) (hts (.initialized "java/lang/Math") (List.mem_of_getElem? (i := 6) rfl)) (hts (.code Lib.Math.max.name Lib.Math.max.code 2 (some .int)) (List.mem_of_getElem? (i := 7) rfl)) (Nat.le_of_ble_eq_true rfl) (Nat.le_of_ble_eq_true rfl) (Nat.le_of_ble_eq_true rfl) (Nat.le_of_ble_eq_true rfl) dX2_ticksToMove_97 ?_
          refine lv_topi (fun v25 ev25 => ?_)
          have hF := tc_lt hF ev25
          refine lv_istore (lv' := [(9, .int v25), (8, .int v22), (7, .int v20), (6, .int v17), (5, .int r13), (4, .ref (E (6 + j4))), (0, .ref (E 0)), (1, .ref (E (46 + a1))), (2, .int a2), (3, .int a3)]) hx hb dX2_ticksToMove_100 hl (by decide) rfl (fun ls hl => ?_)
          refine lv_aload_n hx hb dX2_ticksToMove_102 rfl (lv_at hl 7 rfl) ?_
          refine lv_iload hx hb dX2_ticksToMove_103 (lv_at hl 0 rfl) ?_
          refine lv_iload hx hb dX2_ticksToMove_105 (lv_at hl 3 rfl) ?_
          refine lv_isub hx hb dX2_ticksToMove_107 ?_
          obtain ⟨r26, h27, hF⟩ := tc_bi hF
          refine tc_cr (W.runV (As := [.int (v25 - v17)]) (rest := []) ⟨hx, hb, hml, hown, hts⟩ (mt_X1_ticksToWind l D cU cO cI e0 A E x a1 (v25 - v17) r26 h27) (cwV 1 hts gX2_ticksToMove_X1_ticksToWind rfl rfl rfl (by decide +kernel) ⟨Nat.le_of_ble_eq_true rfl, Nat.le_of_ble_eq_true rfl⟩) ⟨fun a U g mk q => ⟨q.1, q.2.1, q.2.2.call⟩, tc_rcv (hW.c g6) hK rfl, fun U hU hW9 => ⟨rfl, by rw [hU]; exact hW, hKC.warm hW9⟩⟩ rfl rfl hl.1 rfl (lv_room (Nat.le_of_ble_eq_true rfl)) dX2_ticksToMove_108 ⟨Nat.le_of_ble_eq_true rfl, Nat.le_of_ble_eq_true rfl⟩) ?_
          refine lv_istore (lv' := [(10, .int r26), (9, .int v25), (8, .int v22), (7, .int v20), (6, .int v17), (5, .int r13), (4, .ref (E (6 + j4))), (0, .ref (E 0)), (1, .ref (E (46 + a1))), (2, .int a2), (3, .int a3)]) hx hb dX2_ticksToMove_111 hl (by decide) rfl (fun ls hl => ?_)
          refine lv_aload_n hx hb dX2_ticksToMove_113 rfl (lv_at hl 8 rfl) ?_
          refine lv_aload hx hb dX2_ticksToMove_114 (lv_at hl 6 rfl) ?_
          refine tc_get (v := .int (x.1 11 j4)) hx hb hts hinX0 hown hK (hW.b g5) (C := RX0) (T := TX0) (N := 7) rfl 1 (by decide) (hts (.fieldLink RX2 134 "TreadCranes$Barrel" "weight" "I") (List.mem_of_getElem? (i := 1) rfl)) (fun _ h9 => h9) rfl dX2_ticksToMove_116 ?_
          refine lv_iload hx hb dX2_ticksToMove_119 (lv_at hl 0 rfl) ?_
          obtain ⟨r28, h29, hF⟩ := tc_bi hF
          refine tc_cr (W.runV (As := [.int (x.1 11 j4), .int r26]) (rest := []) ⟨hx, hb, hml, hown, hts⟩ (mt_X1_wornAfterLowering l D cU cO cI e0 A E x a1 (x.1 11 j4) r26 r28 h29) (cwV 2 hts gX2_ticksToMove_X1_wornAfterLowering rfl rfl rfl (by decide +kernel) ⟨Nat.le_of_ble_eq_true rfl, Nat.le_of_ble_eq_true rfl⟩) ⟨fun a U g mk q => ⟨q.1, q.2.1, q.2.2.call⟩, tc_rcv (hW.c g6) hK rfl, fun U hU hW9 => ⟨rfl, by rw [hU]; exact hW, hKC.warm hW9⟩⟩ rfl rfl hl.1 rfl (lv_room (Nat.le_of_ble_eq_true rfl)) dX2_ticksToMove_121 ⟨Nat.le_of_ble_eq_true rfl, Nat.le_of_ble_eq_true rfl⟩) ?_
          refine lv_bipush (v := 99) hx hb dX2_ticksToMove_124 (by decide) ?_
          refine lv_icmp_le (tgt := 131) hx hb dX2_ticksToMove_126 (by decide) (fun c30 => ?_) (fun c30 => ?_)
          · have hF := tc_it hF c30
            refine lv_aload_n hx hb dX2_ticksToMove_131 rfl (lv_at hl 8 rfl) ?_
            refine lv_iload hx hb dX2_ticksToMove_132 (lv_at hl 3 rfl) ?_
            refine lv_aload_n hx hb dX2_ticksToMove_134 rfl (lv_at hl 8 rfl) ?_
            refine tc_get (v := .int (x.1 26 a1)) hx hb hts hinX1 hown hK (hW.c g6) (C := RX1) (T := TX1) (N := 8) rfl 6 (by decide) (hts (.fieldLink RX2 105 "TreadCranes$Crane" "hookHeight" "I") (List.mem_of_getElem? (i := 2) rfl)) (fun _ h9 => h9) rfl dX2_ticksToMove_135 ?_
            refine lv_isub hx hb dX2_ticksToMove_138 ?_
            obtain ⟨r31, h32, hF⟩ := tc_bi hF
            refine tc_cr (W.runV (As := [.int (v20 - (x.1 26 a1))]) (rest := []) ⟨hx, hb, hml, hown, hts⟩ (mt_X1_ticksToWind l D cU cO cI e0 A E x a1 (v20 - (x.1 26 a1)) r31 h32) (cwV 1 hts gX2_ticksToMove_X1_ticksToWind rfl rfl rfl (by decide +kernel) ⟨Nat.le_of_ble_eq_true rfl, Nat.le_of_ble_eq_true rfl⟩) ⟨fun a U g mk q => ⟨q.1, q.2.1, q.2.2.call⟩, tc_rcv (hW.c g6) hK rfl, fun U hU hW9 => ⟨rfl, by rw [hU]; exact hW, hKC.warm hW9⟩⟩ rfl rfl hl.1 rfl (lv_room (Nat.le_of_ble_eq_true rfl)) dX2_ticksToMove_139 ⟨Nat.le_of_ble_eq_true rfl, Nat.le_of_ble_eq_true rfl⟩) ?_
            refine lv_aload_n hx hb dX2_ticksToMove_142 rfl (lv_at hl 8 rfl) ?_
            refine tc_get (v := .int (x.1 25 a1)) hx hb hts hinX1 hown hK (hW.c g6) (C := RX1) (T := TX1) (N := 8) rfl 5 (by decide) (hts (.fieldLink RX2 108 "TreadCranes$Crane" "hookPlace" "I") (List.mem_of_getElem? (i := 3) rfl)) (fun _ h9 => h9) rfl dX2_ticksToMove_143 ?_
            refine lv_iload_n hx hb dX2_ticksToMove_146 rfl (lv_at hl 9 rfl) ?_
            obtain ⟨r33, h34, hF⟩ := tc_bi hF
            refine tc_cr (W.runS (As := [.int (x.1 25 a1), .int a2]) (rest := [.int r31]) ⟨hx, hb, hml, hown, hts⟩ (mt_X2_distance l   (x.1 25 a1) a2 r33 h34) (va_cwS 2 hts gX2_ticksToMove_X2_distance rfl rfl rfl (by decide +kernel) ⟨Nat.le_of_ble_eq_true rfl, Nat.le_of_ble_eq_true rfl⟩) ⟨fun a U g mk q => q, fun U hU hW9 => ⟨rfl, trivial⟩⟩ rfl rfl hl.1 rfl (lv_room (Nat.le_of_ble_eq_true rfl)) dX2_ticksToMove_147 ⟨Nat.le_of_ble_eq_true rfl, Nat.le_of_ble_eq_true rfl⟩) ?_
            refine lv_iadd hx hb dX2_ticksToMove_150 ?_
            refine lv_aload_n hx hb dX2_ticksToMove_151 rfl (lv_at hl 8 rfl) ?_
            refine lv_iload hx hb dX2_ticksToMove_152 (lv_at hl 3 rfl) ?_
            refine lv_iload hx hb dX2_ticksToMove_154 (lv_at hl 5 rfl) ?_
            refine lv_isub hx hb dX2_ticksToMove_156 ?_
            obtain ⟨r35, h36, hF⟩ := tc_bi hF
            refine tc_cr (W.runV (As := [.int (v20 - r13)]) (rest := [.int (r31 + r33)]) ⟨hx, hb, hml, hown, hts⟩ (mt_X1_ticksToWind l D cU cO cI e0 A E x a1 (v20 - r13) r35 h36) (cwV 1 hts gX2_ticksToMove_X1_ticksToWind rfl rfl rfl (by decide +kernel) ⟨Nat.le_of_ble_eq_true rfl, Nat.le_of_ble_eq_true rfl⟩) ⟨fun a U g mk q => ⟨q.1, q.2.1, q.2.2.call⟩, tc_rcv (hW.c g6) hK rfl, fun U hU hW9 => ⟨rfl, by rw [hU]; exact hW, hKC.warm hW9⟩⟩ rfl rfl hl.1 rfl (lv_room (Nat.le_of_ble_eq_true rfl)) dX2_ticksToMove_157 ⟨Nat.le_of_ble_eq_true rfl, Nat.le_of_ble_eq_true rfl⟩) ?_
            refine lv_iadd hx hb dX2_ticksToMove_160 ?_
            refine lv_aload_n hx hb dX2_ticksToMove_161 rfl (lv_at hl 8 rfl) ?_
            refine lv_iload hx hb dX2_ticksToMove_162 (lv_at hl 1 rfl) ?_
            refine lv_iload hx hb dX2_ticksToMove_164 (lv_at hl 5 rfl) ?_
            refine lv_isub hx hb dX2_ticksToMove_166 ?_
            obtain ⟨r37, h38, hF⟩ := tc_bi hF
            refine tc_cr (W.runV (As := [.int (v25 - r13)]) (rest := [.int ((r31 + r33) + r35)]) ⟨hx, hb, hml, hown, hts⟩ (mt_X1_ticksToWind l D cU cO cI e0 A E x a1 (v25 - r13) r37 h38) (cwV 1 hts gX2_ticksToMove_X1_ticksToWind rfl rfl rfl (by decide +kernel) ⟨Nat.le_of_ble_eq_true rfl, Nat.le_of_ble_eq_true rfl⟩) ⟨fun a U g mk q => ⟨q.1, q.2.1, q.2.2.call⟩, tc_rcv (hW.c g6) hK rfl, fun U hU hW9 => ⟨rfl, by rw [hU]; exact hW, hKC.warm hW9⟩⟩ rfl rfl hl.1 rfl (lv_room (Nat.le_of_ble_eq_true rfl)) dX2_ticksToMove_167 ⟨Nat.le_of_ble_eq_true rfl, Nat.le_of_ble_eq_true rfl⟩) ?_
            refine lv_iadd hx hb dX2_ticksToMove_170 ?_
            refine lv_iload_n hx hb dX2_ticksToMove_171 rfl (lv_at hl 9 rfl) ?_
            refine lv_iload_n hx hb dX2_ticksToMove_172 rfl (lv_at hl 10 rfl) ?_
            obtain ⟨r39, h40, hF⟩ := tc_bi hF
            refine tc_cr (W.runS (As := [.int a2, .int a3]) (rest := [.int (((r31 + r33) + r35) + r37)]) ⟨hx, hb, hml, hown, hts⟩ (mt_X2_distance l   a2 a3 r39 h40) (va_cwS 2 hts gX2_ticksToMove_X2_distance rfl rfl rfl (by decide +kernel) ⟨Nat.le_of_ble_eq_true rfl, Nat.le_of_ble_eq_true rfl⟩) ⟨fun a U g mk q => q, fun U hU hW9 => ⟨rfl, trivial⟩⟩ rfl rfl hl.1 rfl (lv_room (Nat.le_of_ble_eq_true rfl)) dX2_ticksToMove_173 ⟨Nat.le_of_ble_eq_true rfl, Nat.le_of_ble_eq_true rfl⟩) ?_
            refine lv_iadd hx hb dX2_ticksToMove_176 ?_
            refine lv_iload hx hb dX2_ticksToMove_177 (lv_at hl 0 rfl) ?_
            refine lv_iadd hx hb dX2_ticksToMove_179 ?_
            have h91 := Option.some.inj hF
            exact W.iret hx hb hr (fun t ht hW9 => ⟨by rw [← h91], ht⟩) (fun q h => absurd h List.not_mem_nil) dX2_ticksToMove_180
          · have hF := tc_if hF c30
            refine lv_iconst (v := (-1)) hx hb dX2_ticksToMove_129 (by decide) ?_
            have h91 := Option.some.inj hF
            exact W.iret hx hb hr (fun t ht hW9 => ⟨by rw [← h91], ht⟩) (fun q h => absurd h List.not_mem_nil) dX2_ticksToMove_130
        · have hF := tc_if hF c21
          refine lv_iload_n hx hb dX2_ticksToMove_75 rfl (lv_at hl 6 rfl) ?_
          refine lv_iconst (v := 1) hx hb dX2_ticksToMove_76 (by decide) ?_
          refine lv_iadd hx hb dX2_ticksToMove_77 ?_
          refine lv_goto (tgt := 84) hx hb dX2_ticksToMove_78 (by decide) ?_
          refine lv_topi (fun v41 ev41 => ?_)
          have hF := tc_lt hF ev41
          refine lv_istore (lv' := [(8, .int v41), (7, .int v20), (6, .int v17), (5, .int r13), (4, .ref (E (6 + j4))), (0, .ref (E 0)), (1, .ref (E (46 + a1))), (2, .int a2), (3, .int a3)]) hx hb dX2_ticksToMove_84 hl (by decide) rfl (fun ls hl => ?_)
          refine lv_iload hx hb dX2_ticksToMove_86 (lv_at hl 3 rfl) ?_
          refine lv_aload_n hx hb dX2_ticksToMove_88 rfl (lv_at hl 5 rfl) ?_
          refine lv_iload hx hb dX2_ticksToMove_89 (lv_at hl 0 rfl) ?_
          refine lv_iload_n hx hb dX2_ticksToMove_91 rfl (lv_at hl 8 rfl) ?_
          obtain ⟨r42, h43, hF⟩ := tc_bi hF
          refine tc_cr (W.runV (As := [.int v41, .int a3]) (rest := [.int r13]) ⟨hx, hb, hml, hown, hts⟩ (mt_X2_highestBetween l D cU cO cI e0 A E x v41 a3 r42 h43) (cwV 2 hts gX2_ticksToMove_X2_highestBetween rfl rfl rfl (by decide +kernel) ⟨Nat.le_of_ble_eq_true rfl, Nat.le_of_ble_eq_true rfl⟩) ⟨fun a U g mk q => ⟨q.1, q.2.1, q.2.2.call⟩, tc_rcv (hW.o) hK rfl, fun U hU hW9 => ⟨rfl, by rw [hU]; exact hW, hKC.warm hW9⟩⟩ rfl rfl hl.1 rfl (lv_room (Nat.le_of_ble_eq_true rfl)) dX2_ticksToMove_92 ⟨Nat.le_of_ble_eq_true rfl, Nat.le_of_ble_eq_true rfl⟩) ?_
          refine lv_iconst (v := 1) hx hb dX2_ticksToMove_95 (by decide) ?_
          refine lv_iadd hx hb dX2_ticksToMove_96 ?_
          refine va_mmax hx hb (by rw [hml]; exact hl.1.symm) hown (hts (.methodLink RX2 228 Lib.Math.max.name) (List.mem_of_getElem? (i := 4) rfl)) (hts (.static Lib.Math.max.name) (List.mem_of_getElem? (i := 5) rfl)) (hts (.initialized "java/lang/Math") (List.mem_of_getElem? (i := 6) rfl)) (hts (.code Lib.Math.max.name Lib.Math.max.code 2 (some .int)) (List.mem_of_getElem? (i := 7) rfl)) (Nat.le_of_ble_eq_true rfl) (Nat.le_of_ble_eq_true rfl) (Nat.le_of_ble_eq_true rfl) (Nat.le_of_ble_eq_true rfl) dX2_ticksToMove_97 ?_
          refine lv_topi (fun v44 ev44 => ?_)
          have hF := tc_lt hF ev44
          refine lv_istore (lv' := [(9, .int v44), (8, .int v41), (7, .int v20), (6, .int v17), (5, .int r13), (4, .ref (E (6 + j4))), (0, .ref (E 0)), (1, .ref (E (46 + a1))), (2, .int a2), (3, .int a3)]) hx hb dX2_ticksToMove_100 hl (by decide) rfl (fun ls hl => ?_)
          refine lv_aload_n hx hb dX2_ticksToMove_102 rfl (lv_at hl 7 rfl) ?_
          refine lv_iload hx hb dX2_ticksToMove_103 (lv_at hl 0 rfl) ?_
          refine lv_iload hx hb dX2_ticksToMove_105 (lv_at hl 3 rfl) ?_
          refine lv_isub hx hb dX2_ticksToMove_107 ?_
          obtain ⟨r45, h46, hF⟩ := tc_bi hF
          refine tc_cr (W.runV (As := [.int (v44 - v17)]) (rest := []) ⟨hx, hb, hml, hown, hts⟩ (mt_X1_ticksToWind l D cU cO cI e0 A E x a1 (v44 - v17) r45 h46) (cwV 1 hts gX2_ticksToMove_X1_ticksToWind rfl rfl rfl (by decide +kernel) ⟨Nat.le_of_ble_eq_true rfl, Nat.le_of_ble_eq_true rfl⟩) ⟨fun a U g mk q => ⟨q.1, q.2.1, q.2.2.call⟩, tc_rcv (hW.c g6) hK rfl, fun U hU hW9 => ⟨rfl, by rw [hU]; exact hW, hKC.warm hW9⟩⟩ rfl rfl hl.1 rfl (lv_room (Nat.le_of_ble_eq_true rfl)) dX2_ticksToMove_108 ⟨Nat.le_of_ble_eq_true rfl, Nat.le_of_ble_eq_true rfl⟩) ?_
          refine lv_istore (lv' := [(10, .int r45), (9, .int v44), (8, .int v41), (7, .int v20), (6, .int v17), (5, .int r13), (4, .ref (E (6 + j4))), (0, .ref (E 0)), (1, .ref (E (46 + a1))), (2, .int a2), (3, .int a3)]) hx hb dX2_ticksToMove_111 hl (by decide) rfl (fun ls hl => ?_)
          refine lv_aload_n hx hb dX2_ticksToMove_113 rfl (lv_at hl 8 rfl) ?_
          refine lv_aload hx hb dX2_ticksToMove_114 (lv_at hl 6 rfl) ?_
          refine tc_get (v := .int (x.1 11 j4)) hx hb hts hinX0 hown hK (hW.b g5) (C := RX0) (T := TX0) (N := 7) rfl 1 (by decide) (hts (.fieldLink RX2 134 "TreadCranes$Barrel" "weight" "I") (List.mem_of_getElem? (i := 1) rfl)) (fun _ h9 => h9) rfl dX2_ticksToMove_116 ?_
          refine lv_iload hx hb dX2_ticksToMove_119 (lv_at hl 0 rfl) ?_
          obtain ⟨r47, h48, hF⟩ := tc_bi hF
          refine tc_cr (W.runV (As := [.int (x.1 11 j4), .int r45]) (rest := []) ⟨hx, hb, hml, hown, hts⟩ (mt_X1_wornAfterLowering l D cU cO cI e0 A E x a1 (x.1 11 j4) r45 r47 h48) (cwV 2 hts gX2_ticksToMove_X1_wornAfterLowering rfl rfl rfl (by decide +kernel) ⟨Nat.le_of_ble_eq_true rfl, Nat.le_of_ble_eq_true rfl⟩) ⟨fun a U g mk q => ⟨q.1, q.2.1, q.2.2.call⟩, tc_rcv (hW.c g6) hK rfl, fun U hU hW9 => ⟨rfl, by rw [hU]; exact hW, hKC.warm hW9⟩⟩ rfl rfl hl.1 rfl (lv_room (Nat.le_of_ble_eq_true rfl)) dX2_ticksToMove_121 ⟨Nat.le_of_ble_eq_true rfl, Nat.le_of_ble_eq_true rfl⟩) ?_
          refine lv_bipush (v := 99) hx hb dX2_ticksToMove_124 (by decide) ?_
          refine lv_icmp_le (tgt := 131) hx hb dX2_ticksToMove_126 (by decide) (fun c49 => ?_) (fun c49 => ?_)
          · have hF := tc_it hF c49
            refine lv_aload_n hx hb dX2_ticksToMove_131 rfl (lv_at hl 8 rfl) ?_
            refine lv_iload hx hb dX2_ticksToMove_132 (lv_at hl 3 rfl) ?_
            refine lv_aload_n hx hb dX2_ticksToMove_134 rfl (lv_at hl 8 rfl) ?_
            refine tc_get (v := .int (x.1 26 a1)) hx hb hts hinX1 hown hK (hW.c g6) (C := RX1) (T := TX1) (N := 8) rfl 6 (by decide) (hts (.fieldLink RX2 105 "TreadCranes$Crane" "hookHeight" "I") (List.mem_of_getElem? (i := 2) rfl)) (fun _ h9 => h9) rfl dX2_ticksToMove_135 ?_
            refine lv_isub hx hb dX2_ticksToMove_138 ?_
            obtain ⟨r50, h51, hF⟩ := tc_bi hF
            refine tc_cr (W.runV (As := [.int (v20 - (x.1 26 a1))]) (rest := []) ⟨hx, hb, hml, hown, hts⟩ (mt_X1_ticksToWind l D cU cO cI e0 A E x a1 (v20 - (x.1 26 a1)) r50 h51) (cwV 1 hts gX2_ticksToMove_X1_ticksToWind rfl rfl rfl (by decide +kernel) ⟨Nat.le_of_ble_eq_true rfl, Nat.le_of_ble_eq_true rfl⟩) ⟨fun a U g mk q => ⟨q.1, q.2.1, q.2.2.call⟩, tc_rcv (hW.c g6) hK rfl, fun U hU hW9 => ⟨rfl, by rw [hU]; exact hW, hKC.warm hW9⟩⟩ rfl rfl hl.1 rfl (lv_room (Nat.le_of_ble_eq_true rfl)) dX2_ticksToMove_139 ⟨Nat.le_of_ble_eq_true rfl, Nat.le_of_ble_eq_true rfl⟩) ?_
            refine lv_aload_n hx hb dX2_ticksToMove_142 rfl (lv_at hl 8 rfl) ?_
            refine tc_get (v := .int (x.1 25 a1)) hx hb hts hinX1 hown hK (hW.c g6) (C := RX1) (T := TX1) (N := 8) rfl 5 (by decide) (hts (.fieldLink RX2 108 "TreadCranes$Crane" "hookPlace" "I") (List.mem_of_getElem? (i := 3) rfl)) (fun _ h9 => h9) rfl dX2_ticksToMove_143 ?_
            refine lv_iload_n hx hb dX2_ticksToMove_146 rfl (lv_at hl 9 rfl) ?_
            obtain ⟨r52, h53, hF⟩ := tc_bi hF
            refine tc_cr (W.runS (As := [.int (x.1 25 a1), .int a2]) (rest := [.int r50]) ⟨hx, hb, hml, hown, hts⟩ (mt_X2_distance l   (x.1 25 a1) a2 r52 h53) (va_cwS 2 hts gX2_ticksToMove_X2_distance rfl rfl rfl (by decide +kernel) ⟨Nat.le_of_ble_eq_true rfl, Nat.le_of_ble_eq_true rfl⟩) ⟨fun a U g mk q => q, fun U hU hW9 => ⟨rfl, trivial⟩⟩ rfl rfl hl.1 rfl (lv_room (Nat.le_of_ble_eq_true rfl)) dX2_ticksToMove_147 ⟨Nat.le_of_ble_eq_true rfl, Nat.le_of_ble_eq_true rfl⟩) ?_
            refine lv_iadd hx hb dX2_ticksToMove_150 ?_
            refine lv_aload_n hx hb dX2_ticksToMove_151 rfl (lv_at hl 8 rfl) ?_
            refine lv_iload hx hb dX2_ticksToMove_152 (lv_at hl 3 rfl) ?_
            refine lv_iload hx hb dX2_ticksToMove_154 (lv_at hl 5 rfl) ?_
            refine lv_isub hx hb dX2_ticksToMove_156 ?_
            obtain ⟨r54, h55, hF⟩ := tc_bi hF
            refine tc_cr (W.runV (As := [.int (v20 - r13)]) (rest := [.int (r50 + r52)]) ⟨hx, hb, hml, hown, hts⟩ (mt_X1_ticksToWind l D cU cO cI e0 A E x a1 (v20 - r13) r54 h55) (cwV 1 hts gX2_ticksToMove_X1_ticksToWind rfl rfl rfl (by decide +kernel) ⟨Nat.le_of_ble_eq_true rfl, Nat.le_of_ble_eq_true rfl⟩) ⟨fun a U g mk q => ⟨q.1, q.2.1, q.2.2.call⟩, tc_rcv (hW.c g6) hK rfl, fun U hU hW9 => ⟨rfl, by rw [hU]; exact hW, hKC.warm hW9⟩⟩ rfl rfl hl.1 rfl (lv_room (Nat.le_of_ble_eq_true rfl)) dX2_ticksToMove_157 ⟨Nat.le_of_ble_eq_true rfl, Nat.le_of_ble_eq_true rfl⟩) ?_
            refine lv_iadd hx hb dX2_ticksToMove_160 ?_
            refine lv_aload_n hx hb dX2_ticksToMove_161 rfl (lv_at hl 8 rfl) ?_
            refine lv_iload hx hb dX2_ticksToMove_162 (lv_at hl 1 rfl) ?_
            refine lv_iload hx hb dX2_ticksToMove_164 (lv_at hl 5 rfl) ?_
            refine lv_isub hx hb dX2_ticksToMove_166 ?_
            obtain ⟨r56, h57, hF⟩ := tc_bi hF
            refine tc_cr (W.runV (As := [.int (v44 - r13)]) (rest := [.int ((r50 + r52) + r54)]) ⟨hx, hb, hml, hown, hts⟩ (mt_X1_ticksToWind l D cU cO cI e0 A E x a1 (v44 - r13) r56 h57) (cwV 1 hts gX2_ticksToMove_X1_ticksToWind rfl rfl rfl (by decide +kernel) ⟨Nat.le_of_ble_eq_true rfl, Nat.le_of_ble_eq_true rfl⟩) ⟨fun a U g mk q => ⟨q.1, q.2.1, q.2.2.call⟩, tc_rcv (hW.c g6) hK rfl, fun U hU hW9 => ⟨rfl, by rw [hU]; exact hW, hKC.warm hW9⟩⟩ rfl rfl hl.1 rfl (lv_room (Nat.le_of_ble_eq_true rfl)) dX2_ticksToMove_167 ⟨Nat.le_of_ble_eq_true rfl, Nat.le_of_ble_eq_true rfl⟩) ?_
            refine lv_iadd hx hb dX2_ticksToMove_170 ?_
            refine lv_iload_n hx hb dX2_ticksToMove_171 rfl (lv_at hl 9 rfl) ?_
            refine lv_iload_n hx hb dX2_ticksToMove_172 rfl (lv_at hl 10 rfl) ?_
            obtain ⟨r58, h59, hF⟩ := tc_bi hF
            refine tc_cr (W.runS (As := [.int a2, .int a3]) (rest := [.int (((r50 + r52) + r54) + r56)]) ⟨hx, hb, hml, hown, hts⟩ (mt_X2_distance l   a2 a3 r58 h59) (va_cwS 2 hts gX2_ticksToMove_X2_distance rfl rfl rfl (by decide +kernel) ⟨Nat.le_of_ble_eq_true rfl, Nat.le_of_ble_eq_true rfl⟩) ⟨fun a U g mk q => q, fun U hU hW9 => ⟨rfl, trivial⟩⟩ rfl rfl hl.1 rfl (lv_room (Nat.le_of_ble_eq_true rfl)) dX2_ticksToMove_173 ⟨Nat.le_of_ble_eq_true rfl, Nat.le_of_ble_eq_true rfl⟩) ?_
            refine lv_iadd hx hb dX2_ticksToMove_176 ?_
            refine lv_iload hx hb dX2_ticksToMove_177 (lv_at hl 0 rfl) ?_
            refine lv_iadd hx hb dX2_ticksToMove_179 ?_
            have h91 := Option.some.inj hF
            exact W.iret hx hb hr (fun t ht hW9 => ⟨by rw [← h91], ht⟩) (fun q h => absurd h List.not_mem_nil) dX2_ticksToMove_180
          · have hF := tc_if hF c49
            refine lv_iconst (v := (-1)) hx hb dX2_ticksToMove_129 (by decide) ?_
            have h91 := Option.some.inj hF
            exact W.iret hx hb hr (fun t ht hW9 => ⟨by rw [← h91], ht⟩) (fun q h => absurd h List.not_mem_nil) dX2_ticksToMove_130
      · have hF := tc_it hF c12
        refine lv_iconst (v := (-1)) hx hb dX2_ticksToMove_34 (by decide) ?_
        have h91 := Option.some.inj hF
        exact W.iret hx hb hr (fun t ht hW9 => ⟨by rw [← h91], ht⟩) (fun q h => absurd h List.not_mem_nil) dX2_ticksToMove_35
