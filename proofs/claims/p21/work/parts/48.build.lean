/-! The law's build (written by wip/p21/run4.py). -/
noncomputable def lp_L_build_11 : Nat → (Nat → Int32) → Nat → (tc_X → tc_Z → Option (Int32 × tc_X × tc_Z)) → Int32 → tc_X → tc_Z → Option (Int32 × tc_X × tc_Z)
  | 0, _, _, _, _, _, _ => none
  | n_11 + 1, xs, L, kc8, w9, x10, z11 => (if 30 ≤ w9 then kc8 x10 z11 else Option.bind (f_L_cell xs L (w9 - w9 / (16 : Int32) * (16 : Int32))) (fun r15 => tc_let ((r15 >>> (((w9 / (16 : Int32)) * (3 : Int32)) &&& 31)) + ((71 : Int32) * w9)) (fun v17 => tc_jn (fun (w18 : Int32) => tc_wif x10 (tc_b3 (f_L_act x10 z11 w18) (fun r23 x24 z25 => (if r23 = 0 then none else tc_let (w9 + 1) (fun v32 => lp_L_build_11 n_11 xs L kc8 v32 x24 z25))))) (fun kc21 => (if 12 ≤ w9 then kc21 v17 else Option.bind (f_L_below v17 10000) (fun r34 => tc_jn (fun (w36 : Int32) => tc_let ((r34 * (14 : Int32)) + w36) (fun v40 => kc21 v40)) (fun kc39 => (if (w9 - w9 / (4 : Int32) * (4 : Int32)) = 3 then kc39 3 else kc39 (w9 - w9 / (3 : Int32) * (3 : Int32))))))))))
noncomputable def f_L_build (xs : Nat → Int32) (L : Nat) (x : tc_X) : Option (Int32 × tc_X × tc_Z) := tc_let tc_z0 (fun z => tc_jn (fun (x4 : tc_X) (z5 : tc_Z) => some (1, x4, z5)) (fun kc8 => lp_L_build_11 31 xs L kc8 0 x z))
set_option maxHeartbeats 16000000 in
set_option maxRecDepth 100000 in
theorem mt_L_build (l : Launch) (hst : l.stackTraces = false) (D : va_G) (cU cO cI cII cZ : ClassId) (e0 : Nat) (A : Nat → Prop) (E : Nat → Nat) (b : Nat) (xs : Nat → Int32) (L : Nat) (x : tc_X) (hbA : ¬ A b) (x' : tc_X) (z' : tc_Z) (hF : f_L_build xs L x = some (1, x', z')) : Met l yL_build wsL_build ({ frames := 9, cells := 207, slots := 5053, locals := 213 } : Room) (va_Pc [.ref (E 0), .ref b, .int 30] (fun U => tc_WC D cU cO e0 A E x U.heap ∧ tc_KX D cU cO cI e0 A U ∧ tc_KS D cI cII cZ U ∧ va_X b L xs U U.heap ∧ va_Nw (.methodLinkNest RL 99 yX3_init RL) U)) (tc_Qe (fun v H9 => ∃ E9 F9 : Nat → Nat, E9 0 = E 0 ∧ v = .ref (F9 0) ∧ tc_WL D cU cO cI cII cZ e0 A E9 F9 x' z' H9) A) 207 5053 A := by
  refine Met.ofW (cc := cL_build) (maxL := 6) (ret := (some (.object "TreadCranesLaw$Sim"))) (by decide) rfl ?_
  intro p e s m args below meth c s₁ B hml hv
  obtain ⟨rfl, hWC, hKX, hKF, hX, hNest⟩ := hv
  have hx := B.exec
  have hb := B.bytes
  have hr := B.returns
  have hts := atoms_spec (ws := wsL_build) B.pre
  have hown : s.vm.findClass RL = some m.cls := findClass_of_methodNamed B.named
  have hlocks := B.notSynchronized
  have hK := hKX.1.1
  have hKS := hKF.1
  have hA0 := hKX.2.1
  have hAn := hKX.2.1
  have hAe : ¬ A e0 := hWC.2.2.2.2.2.2.2.2.1
  have heA := hAe
  have hbl : b < s.heap.size := by
    obtain ⟨scr, h1, -⟩ := id hX
    exact (Array.getElem?_eq_some_iff.mp h1).1
  have hS : va_S A s.heap s.heap [] := va_S.rf
  have hinX3 : ∀ w ∈ wsX30, w ∈ wsL_build := fun w9 h9 => List.mem_cons_of_mem _ (List.mem_append_left _ (List.mem_append_left _ (List.mem_append_left _ (List.mem_append_left _ (List.mem_append_left _ (List.mem_append_left _ (List.mem_append_left _ (List.mem_append_right _ h9))))))))
  have hl := lv_entry ([.ref (E 0), .ref b, .int 30]) (n := 6) (Nat.le_of_ble_eq_true rfl)
  rw [lg_entry_eq]
  generalize (lg_sl ([.ref (E 0), .ref b, .int 30]) ++ List.replicate (6 - (lg_sl ([.ref (E 0), .ref b, .int 30])).length) Slot.unset).toArray = ls at hl ⊢
  have hl : lv_has ls 6 [(0, .ref (E 0)), (1, .ref b), (2, .int 30)] := hl
  refine tc_hideQ (R9 := ({ frames := 9, cells := 207, slots := 5053, locals := 213 } : Room)) rfl (fun QQ eQQ => ?_)
  refine tc_newC (ci := 4) (fs := [.int 0, .int 0, .null, .null, .null, .null]) hx hb hts hinX3 tyX3 tyX3_ok hown (hts (.classLink RL 10 RX3) (List.mem_of_getElem? (i := 1) rfl)) (hts (.instantiable RX3 6) (List.mem_of_getElem? (i := 2) rfl)) (hts (.initialized RX3) (List.mem_of_getElem? (i := 3) rfl)) hK hS hA0 rfl (fun j hj => by rcases (show j = 0 ∨ j = 1 ∨ j = 2 ∨ j = 3 ∨ j = 4 ∨ j = 5 by omega) with rfl | rfl | rfl | rfl | rfl | rfl <;> rfl) (by show _ ≤ (207 : Nat); omega) (by show _ ≤ (5053 : Nat); omega) dL_build_0 (fun q H hq9 hA_q e_q z1 o1 hS => ?_)
  have hnq := hWC.ne hq9
  have hWC := hWC.grown o1
  obtain ⟨n9, en9⟩ : ∃ n9, n9 = H.size := ⟨_, rfl⟩
  refine lv_dup hx hb dL_build_3 rfl ?_
  refine tc_cwv (va_runIN (As := []) (rest := [.ref q]) ⟨hx, hb, hml, hown, hts⟩ (mt_X3_init l D cU cO cI cII cZ (fun z9 => z9 = q ∨ n9 ≤ z9) q (Or.inl rfl)) ⟨va_cnB 0 hts gL_build_X3_init_n99 rfl rfl rfl hNest (hts (.initialized RX3) (List.mem_of_getElem? (i := 3) rfl)) (by decide +kernel) ⟨Nat.le_of_ble_eq_true rfl, Nat.le_of_ble_eq_true rfl⟩, rfl, hts (.instanceMethod yX3_init) (List.mem_of_getElem? (i := 4) rfl)⟩ ⟨fun a U g mk q => ⟨q.1, q.2.1, va_K.moved (Vm.Alike.refl U.vm) q.2.2.1, q.2.2.2.1.moved (Vm.Alike.refl U.vm), q.2.2.2.2⟩, fun U hU hW9 => ⟨rfl, by rw [hU]; exact e_q, va_K.moved hW9.alike hK, hKF.moved hW9.alike, by rw [hU, en9]; exact fun z9 h9 => Or.inr h9⟩⟩ rfl rfl hl.1 rfl (lv_room (Nat.le_of_ble_eq_true rfl)) dL_build_4 ⟨(by show _ ≤ (207 : Nat); omega), (by show _ ≤ (5053 : Nat); omega)⟩) hS (fun z9 _ h9 => h9.elim (fun h8 => by rw [h8]; exact hA_q) (fun h8 => hA0 _ (Nat.le_trans hS.1 (by rw [← en9]; exact h8)))) (fun z9 h9 => h9.elim (fun h8 => by rw [h8]; exact hA_q) (fun h8 => hA0 _ (Nat.le_trans hS.1 (by rw [← en9]; exact h8)))) (fun H1 locs hB z2 o2 hS1 => ?_)
  obtain ⟨F, hF0, hWS⟩ := hB
  have hW := tc_simNew hWC hnq (fun j hj => by rw [en9]; exact hWC.lt hj) hA_q (fun z9 h9 => hA0 _ (Nat.le_trans hS.1 (by rw [← en9]; exact h9))) hAe hWS o2
  have hS := hS1
  subst hF0
  refine lv_astore_n (lv' := [(3, .ref (F 0)), (0, .ref (E 0)), (1, .ref b), (2, .int 30)]) hx hb dL_build_7 rfl hl (by decide) rfl (fun ls hl => ?_)
  have hEF : E 0 = E 0 ∧ F 0 = F 0 := ⟨rfl, rfl⟩
  obtain ⟨z, ez⟩ : ∃ z9 : tc_Z, z9 = tc_z0 := ⟨_, rfl⟩
  have hF := tc_lt hF ez
  rw [← ez] at hW
  refine lv_iconst (v := 0) hx hb dL_build_8 (by decide) ?_
  refine lv_istore (lv' := [(4, .int 0), (3, .ref (F 0)), (0, .ref (E 0)), (1, .ref b), (2, .int 30)]) hx hb dL_build_9 hl (by decide) rfl (fun ls hl => ?_)
  obtain ⟨kc8, ekc8, hF⟩ := tc_jx hF
  have Jkc8 : ∀ (x4 : tc_X) (z5 : tc_Z) (E6 F7 : Nat → Nat) (H : Heap) (locs : List Loc) (ls : Array Slot), kc8 x4 z5 = some (1, x', z') → lv_has ls 6 [(3, .ref (F7 0))] → tc_WL D cU cO cI cII cZ e0 A E6 F7 x4 z5 H → E6 0 = E 0 ∧ F7 0 = F 0 → va_S A s.heap H locs → W p l e ({ frames := 9, cells := 207, slots := 5053, locals := 213 } : Room) s m (([.ref (E 0), .ref b, .int 30] : List Value).toArray) below meth c H locs (207) (5053) QQ (F0 m 97 ls []) := by
    intro x4 z5 E6 F7 H locs ls hF hl hW hEF hS
    rw [ekc8] at hF
    dsimp only at hF
    refine lv_aload_n hx hb dL_build_97 rfl (lv_at hl 0 rfl) ?_
    obtain ⟨h91, h92, h93⟩ := tc_pr3 (Option.some.inj hF)
    rw [eQQ]
    refine W.widen (k := 207) (n := 5053) (by omega) (by omega) ?_
    exact W.aret hx hb hr (Or.inl ⟨_, rfl⟩) (Or.inr ⟨_, rfl⟩) (fun t ht hW9 => ⟨⟨.ref (F7 0), rfl, by rw [← h92, ← h93, ht]; exact ⟨E6, F7, hEF.1, rfl, hW⟩⟩, tc_F hS ht⟩) hS.2.2 dL_build_98
  have hL_11 : ∀ (n_11 : Nat) (hn_11 : n_11 ≤ 31) (w9 : Int32) (x10 : tc_X) (z11 : tc_Z) (E12 F13 : Nat → Nat) (H : Heap) (locs : List Loc) (ls : Array Slot), lp_L_build_11 n_11 xs L kc8 w9 x10 z11 = some (1, x', z') → lv_has ls 6 [(4, .int w9), (3, .ref (F13 0)), (2, .int 30), (1, .ref b), (0, .ref (E12 0))] → tc_WL D cU cO cI cII cZ e0 A E12 F13 x10 z11 H → E12 0 = E 0 ∧ F13 0 = F 0 → va_S A s.heap H locs → W p l e ({ frames := 9, cells := 207, slots := 5053, locals := 213 } : Room) s m (([.ref (E 0), .ref b, .int 30] : List Value).toArray) below meth c H locs ((21) + (31 - n_11) * 6 + 0) ((62) + (31 - n_11) * 161 + 0) QQ (F0 m 11 ls []) := by
    intro n_11
    induction n_11 with
    | zero => intro _; intro w9 x10 z11 E12 F13 H locs ls hF hl hW hEF hS; rw [lp_L_build_11] at hF; cases hF
    | succ n_11 ih_11 =>
      intro hn_11
      intro w9 x10 z11 E12 F13 H locs ls hF hl hW hEF hS
      rw [lp_L_build_11] at hF
      refine lv_iload hx hb dL_build_11 (lv_at hl 0 rfl) ?_
      refine lv_iload_n hx hb dL_build_13 rfl (lv_at hl 2 rfl) ?_
      refine lv_icmp_ge (tgt := 97) hx hb dL_build_14 (by decide) (fun c14 => ?_) (fun c14 => ?_)
      · have hF := tc_it hF c14
        refine W.widen (k := 207) (n := 5053) (by omega) (by omega) ?_
        exact Jkc8 x10 z11 E12 F13 _ _ _ hF (lv_sub hl [1] rfl) hW hEF hS
      · have hF := tc_if hF c14
        refine lv_aload_n hx hb dL_build_17 rfl (lv_at hl 3 rfl) ?_
        refine lv_iload hx hb dL_build_18 (lv_at hl 0 rfl) ?_
        refine lv_bipush (v := 16) hx hb dL_build_20 (by decide) ?_
        refine lv_irem hx hb dL_build_22 (by decide) ?_
        obtain ⟨r15, h16, hF⟩ := tc_bi hF
        refine tc_cr (W.runS (As := [.ref b, .int (w9 - w9 / (16 : Int32) * (16 : Int32))]) (rest := []) ⟨hx, hb, hml, hown, hts⟩ (mt_L_cell l b xs L (w9 - w9 / (16 : Int32) * (16 : Int32)) r15 h16) (va_cwS 2 hts gL_build_L_cell rfl rfl rfl (by decide +kernel) ⟨Nat.le_of_ble_eq_true rfl, Nat.le_of_ble_eq_true rfl⟩) ⟨fun a U g mk q => ⟨q.1, q.2⟩, fun U hU hW9 => ⟨rfl, by show va_X b L xs U U.heap; rw [hU]; exact (hX.kept (hS.2.1 b hbl hbA)).moved hW9.alike⟩⟩ rfl rfl hl.1 rfl (lv_room (Nat.le_of_ble_eq_true rfl)) dL_build_23 ⟨(by show _ ≤ (207 : Nat); omega), (by show _ ≤ (5053 : Nat); omega)⟩) ?_
        refine lv_iload hx hb dL_build_26 (lv_at hl 0 rfl) ?_
        refine lv_bipush (v := 16) hx hb dL_build_28 (by decide) ?_
        refine lv_idiv hx hb dL_build_30 (by decide) ?_
        refine lv_iconst (v := 3) hx hb dL_build_31 (by decide) ?_
        refine lv_imul hx hb dL_build_32 ?_
        refine lv_ishr hx hb dL_build_33 ?_
        refine lv_bipush (v := 71) hx hb dL_build_34 (by decide) ?_
        refine lv_iload hx hb dL_build_36 (lv_at hl 0 rfl) ?_
        refine lv_imul hx hb dL_build_38 ?_
        refine lv_iadd hx hb dL_build_39 ?_
        refine lv_topi (fun v17 ev17 => ?_)
        have hF := tc_lt hF ev17
        refine lv_istore (lv' := [(5, .int v17), (4, .int w9), (3, .ref (F13 0)), (2, .int 30), (1, .ref b), (0, .ref (E12 0))]) hx hb dL_build_40 hl (by decide) rfl (fun ls hl => ?_)
        refine lv_iload hx hb dL_build_42 (lv_at hl 1 rfl) ?_
        refine lv_bipush (v := 12) hx hb dL_build_44 (by decide) ?_
        obtain ⟨kc21, ekc21, hF⟩ := tc_jx hF
        have Jkc21 : ∀ (w18 : Int32) (E19 F20 : Nat → Nat) (H : Heap) (locs : List Loc) (ls : Array Slot), kc21 w18 = some (1, x', z') → lv_has ls 6 [(5, .int w18), (4, .int w9), (3, .ref (F20 0)), (2, .int 30), (1, .ref b), (0, .ref (E19 0))] → tc_WL D cU cO cI cII cZ e0 A E19 F20 x10 z11 H → E19 0 = E 0 ∧ F20 0 = F 0 → va_S A s.heap H locs → W p l e ({ frames := 9, cells := 207, slots := 5053, locals := 213 } : Room) s m (([.ref (E 0), .ref b, .int 30] : List Value).toArray) below meth c H locs ((21) + (31 - (n_11 + 1)) * 6 + 0) ((62) + (31 - (n_11 + 1)) * 161 + 0) QQ (F0 m 79 ls []) := by
          intro w18 E19 F20 H locs ls hF hl hW hEF hS
          rw [ekc21] at hF
          dsimp only at hF
          refine lv_aload_n hx hb dL_build_79 rfl (lv_at hl 5 rfl) ?_
          refine lv_aload_n hx hb dL_build_80 rfl (lv_at hl 2 rfl) ?_
          refine lv_iload hx hb dL_build_81 (lv_at hl 0 rfl) ?_
          obtain ⟨h22, hF⟩ := tc_wix hF
          obtain ⟨r23, x24, z25, h26, hF⟩ := tc_bi3 hF
          refine tc_cw (vx_runSW (As := [.ref (E19 0), .ref (F20 0), .int w18]) (rest := []) ⟨hx, hb, hml, hown, hts⟩ (mt_L_act l hst D cU cO cI cII cZ e0 A E19 F20 x10 z11 w18 h22 r23 x24 z25 h26) (vx_cwSW 3 hts gL_build_L_act rfl rfl rfl (by decide +kernel) ⟨Nat.le_of_ble_eq_true rfl, Nat.le_of_ble_eq_true rfl⟩) ⟨fun a U g mk q => ⟨q.1, q.2.1, q.2.2.1.call, q.2.2.2.moved (Vm.Alike.refl U.vm)⟩, fun U hU hW9 => ⟨rfl, by rw [hU]; exact hW, (hKX.go hS hU hW9).narrow (fun z9 h9 => h9) (by rw [hU]; exact (fun z9 h9 => by exact hAn z9 (Nat.le_trans hS.1 h9))), hKF.moved hW9.alike⟩⟩ rfl rfl hl.1 rfl (lv_room (Nat.le_of_ble_eq_true rfl)) dL_build_83 ⟨(by show _ ≤ (207 : Nat); omega), (by show _ ≤ (5053 : Nat); omega)⟩) hS (fun z9 _ h9 => h9) (fun z9 h9 => h9) (fun H locs hB z1 o1 hS => ?_)
          obtain ⟨E27, F28, h29, h30, hW⟩ := hB
          have hl : lv_has ls 6 [(5, .int w18), (4, .int w9), (3, .ref (F28 0)), (2, .int 30), (1, .ref b), (0, .ref (E27 0))] := by rw [h29, h30]; exact hl
          have hEF := And.intro (h29.trans hEF.1) (h30.trans hEF.2)
          refine lv_if_ne (tgt := 91) hx hb dL_build_86 (by decide) (fun c31 => ?_) (fun c31 => ?_)
          · have hF := tc_if hF c31
            obtain ⟨v32, ev32⟩ : ∃ z9 : Int32, z9 = w9 + 1 := ⟨_, rfl⟩
            have hF := tc_lt hF ev32
            refine lv_iinc (v := v32) (lv' := [(4, .int v32), (5, .int w18), (3, .ref (F28 0)), (2, .int 30), (1, .ref b), (0, .ref (E27 0))]) hx hb dL_build_91 hl (k := 1) rfl (by rw [ev32]; rfl) (by decide) rfl (fun ls hl => ?_)
            refine lv_goto (tgt := 11) hx hb dL_build_94 (by decide) ?_
            refine W.widen (k := (21) + (31 - n_11) * 6 + 0) (n := (62) + (31 - n_11) * 161 + 0) (by omega) (by omega) ?_
            exact ih_11 (Nat.le_of_succ_le hn_11) v32 x24 z25 E27 F28 _ _ _ hF (lv_sub hl [0, 2, 3, 4, 5] rfl) hW hEF hS
          · have hF := tc_it hF c31
            cases hF
        refine lv_icmp_ge (tgt := 79) hx hb dL_build_46 (by decide) (fun c33 => ?_) (fun c33 => ?_)
        · have hF := tc_it hF c33
          exact Jkc21 v17 E12 F13 _ _ _ hF (lv_sub hl [0, 1, 2, 3, 4, 5] rfl) hW hEF hS
        · have hF := tc_if hF c33
          refine lv_iload hx hb dL_build_49 (lv_at hl 0 rfl) ?_
          refine lv_sipush (v := 10000) hx hb dL_build_51 (by decide) ?_
          obtain ⟨r34, h35, hF⟩ := tc_bi hF
          refine tc_cr (W.runS (As := [.int v17, .int 10000]) (rest := []) ⟨hx, hb, hml, hown, hts⟩ (mt_L_below l v17 10000 r34 h35) (va_cwS 2 hts gL_build_L_below rfl rfl rfl (by decide +kernel) ⟨Nat.le_of_ble_eq_true rfl, Nat.le_of_ble_eq_true rfl⟩) ⟨fun a U g mk q => q, fun U hU hW9 => ⟨rfl, trivial⟩⟩ rfl rfl hl.1 rfl (lv_room (Nat.le_of_ble_eq_true rfl)) dL_build_54 ⟨(by show _ ≤ (207 : Nat); omega), (by show _ ≤ (5053 : Nat); omega)⟩) ?_
          refine lv_bipush (v := 14) hx hb dL_build_57 (by decide) ?_
          refine lv_imul hx hb dL_build_59 ?_
          refine lv_iload hx hb dL_build_60 (lv_at hl 1 rfl) ?_
          refine lv_iconst (v := 4) hx hb dL_build_62 (by decide) ?_
          refine lv_irem hx hb dL_build_63 (by decide) ?_
          refine lv_iconst (v := 3) hx hb dL_build_64 (by decide) ?_
          obtain ⟨kc39, ekc39, hF⟩ := tc_jx hF
          have Jkc39 : ∀ (w36 : Int32) (E37 F38 : Nat → Nat) (H : Heap) (locs : List Loc) (ls : Array Slot), kc39 w36 = some (1, x', z') → lv_has ls 6 [(4, .int w9), (3, .ref (F38 0)), (2, .int 30), (1, .ref b), (0, .ref (E37 0))] → tc_WL D cU cO cI cII cZ e0 A E37 F38 x10 z11 H → E37 0 = E 0 ∧ F38 0 = F 0 → va_S A s.heap H locs → W p l e ({ frames := 9, cells := 207, slots := 5053, locals := 213 } : Room) s m (([.ref (E 0), .ref b, .int 30] : List Value).toArray) below meth c H locs ((21) + (31 - (n_11 + 1)) * 6 + 0) ((62) + (31 - (n_11 + 1)) * 161 + 0) QQ (F0 m 76 ls [.int w36, .int (r34 * (14 : Int32))]) := by
            intro w36 E37 F38 H locs ls hF hl hW hEF hS
            rw [ekc39] at hF
            dsimp only at hF
            refine lv_iadd hx hb dL_build_76 ?_
            refine lv_topi (fun v40 ev40 => ?_)
            have hF := tc_lt hF ev40
            refine lv_istore (lv' := [(5, .int v40), (4, .int w9), (3, .ref (F38 0)), (2, .int 30), (1, .ref b), (0, .ref (E37 0))]) hx hb dL_build_77 hl (by decide) rfl (fun ls hl => ?_)
            exact Jkc21 v40 E37 F38 _ _ _ hF (lv_sub hl [0, 1, 2, 3, 4, 5] rfl) hW hEF hS
          refine lv_icmp_ne (tgt := 72) hx hb dL_build_65 (by decide) (fun c41 => ?_) (fun c41 => ?_)
          · have hF := tc_if hF c41
            refine lv_iload hx hb dL_build_72 (lv_at hl 1 rfl) ?_
            refine lv_iconst (v := 3) hx hb dL_build_74 (by decide) ?_
            refine lv_irem hx hb dL_build_75 (by decide) ?_
            exact Jkc39 (w9 - w9 / (3 : Int32) * (3 : Int32)) E12 F13 _ _ _ hF (lv_sub hl [1, 2, 3, 4, 5] rfl) hW hEF hS
          · have hF := tc_it hF c41
            refine lv_iconst (v := 3) hx hb dL_build_68 (by decide) ?_
            refine lv_goto (tgt := 76) hx hb dL_build_69 (by decide) ?_
            exact Jkc39 3 E12 F13 _ _ _ hF (lv_sub hl [1, 2, 3, 4, 5] rfl) hW hEF hS
  refine W.widen (k := (21) + (31 - 31) * 6 + 0) (n := (62) + (31 - 31) * 161 + 0) (by omega) (by omega) ?_
  exact hL_11 31 (Nat.le_refl _) 0 x z E F _ _ _ hF (lv_sub hl [0, 1, 4, 3, 2] rfl) hW hEF hS
