def lp_X2_digest_150 : Nat → tc_X → Int32 → Int64 → Int32 → (Int64 → Int32 → Option (Int64)) → Option (Int64)
  | 0, _, _, _, _, _ => none
  | n_150 + 1, x, w11, w13, w14, kc => (if 9 ≤ w14 then kc w13 w14 else (if ¬ w11 < 0 ∧ w11.toNatClampNeg < tc_nc x then tc_let w11.toNatClampNeg (fun b18 => Option.bind (f_X2_craneAnswer x b18 w14) (fun r20 => tc_let ((w13 * 31) + r20.toInt64) (fun v22 => tc_let (w14 + 1) (fun v23 => lp_X2_digest_150 n_150 x w11 v22 v23 kc)))) else none))
def lp_X2_digest_136 : Nat → tc_X → Int64 → Int32 → Option (Int64)
  | 0, _, _, _ => none
  | n_136 + 1, x, w10, w11 => (if (nI (tc_nc x)) ≤ w11 then some w10 else lp_X2_digest_150 100 x w11 w10 0 (fun w13 w14 => tc_let (w11 + 1) (fun v16 => lp_X2_digest_136 n_136 x w13 v16)))
def lp_X2_digest_91 : Nat → tc_X → Int32 → Int64 → Int32 → (Int64 → Int32 → Option (Int64)) → Option (Int64)
  | 0, _, _, _, _, _ => none
  | n_91 + 1, x, w8, w24, w25, kc => (if 5 ≤ w25 then kc w24 w25 else (if ¬ w8 < 0 ∧ w8.toNatClampNeg < tc_nb x then tc_let w8.toNatClampNeg (fun b29 => Option.bind (f_X2_barrelAnswer x b29 w25) (fun r31 => tc_let ((w24 * 31) + r31.toInt64) (fun v33 => tc_let (w25 + 1) (fun v34 => lp_X2_digest_91 n_91 x w8 v33 v34 kc)))) else none))
def lp_X2_digest_77 : Nat → tc_X → Int64 → Int32 → Option (Int64)
  | 0, _, _, _ => none
  | n_77 + 1, x, w7, w8 => (if (nI (tc_nb x)) ≤ w8 then lp_X2_digest_136 100 x w7 0 else lp_X2_digest_91 100 x w8 w7 0 (fun w24 w25 => tc_let (w8 + 1) (fun v27 => lp_X2_digest_77 n_77 x w24 v27)))
def lp_X2_digest_42 : Nat → tc_X → Int32 → Int64 → Int32 → (Int64 → Int32 → Option (Int64)) → Option (Int64)
  | 0, _, _, _, _, _ => none
  | n_42 + 1, x, w5, w35, w36, kc => (if 4 ≤ w36 then kc w35 w36 else Option.bind (f_X2_placeAnswer x w5 w36) (fun r39 => tc_let ((w35 * 31) + r39.toInt64) (fun v41 => tc_let (w36 + 1) (fun v42 => lp_X2_digest_42 n_42 x w5 v41 v42 kc))))
def lp_X2_digest_33 : Nat → tc_X → Int64 → Int32 → Option (Int64)
  | 0, _, _, _ => none
  | n_33 + 1, x, w4, w5 => (if 16 ≤ w5 then lp_X2_digest_77 100 x w4 0 else lp_X2_digest_42 100 x w5 w4 0 (fun w35 w36 => tc_let (w5 + 1) (fun v38 => lp_X2_digest_33 n_33 x w35 v38)))
def lp_X2_digest_6 : Nat → tc_X → Int64 → Int32 → Option (Int64)
  | 0, _, _, _ => none
  | n_6 + 1, x, w1, w2 => (if 7 ≤ w2 then lp_X2_digest_33 100 x w1 0 else Option.bind (f_X2_countAnswer x w2) (fun r43 => tc_let ((w1 * 31) + r43.toInt64) (fun v45 => tc_let (w2 + 1) (fun v46 => lp_X2_digest_6 n_6 x v45 v46))))
def f_X2_digest (x : tc_X)  : Option (Int64) := lp_X2_digest_6 100 x 1151 0
set_option maxHeartbeats 4000000 in
set_option maxRecDepth 100000 in
theorem mt_X2_digest (l : Launch) (D : va_G) (cU cO cI : ClassId) (e0 : Nat) (A : Nat → Prop) (E : Nat → Nat) (x : tc_X) (r : Int64) (hF : f_X2_digest x = some r) : Met l yX2_digest wsX2_digest ({ frames := 6, cells := 0, slots := 0, locals := 130 } : Room) (va_Pc [.ref (E 0)] (fun U => tc_WC D cU cO e0 A E x U.heap ∧ tc_KC D cU cO cI U)) (k2_QcV (.long r)) 0 0 (fun _ => False) := by
  refine Met.ofW (cc := cX2_digest) (maxL := 5) (ret := (some .long)) (by decide) rfl ?_
  intro p e s m args below meth c s₁ B hml hv
  obtain ⟨rfl, hW, hKC⟩ := hv
  have hx := B.exec
  have hb := B.bytes
  have hr := B.returns
  have hts := atoms_spec (ws := wsX2_digest) B.pre
  have hown : s.vm.findClass RX2 = some m.cls := findClass_of_methodNamed B.named
  have hlocks := B.notSynchronized
  have hK := hKC.1
  have hinX2 : ∀ w ∈ wsX20, w ∈ wsX2_digest := fun w9 h9 => List.mem_cons_of_mem _ (List.mem_append_left _ (List.mem_append_left _ (List.mem_append_left _ (List.mem_append_right _ h9))))
  have hl := lv_entry ([.ref (E 0)]) (n := 5) (Nat.le_of_ble_eq_true rfl)
  rw [lg_entry_eq]
  generalize (lg_sl ([.ref (E 0)]) ++ List.replicate (5 - (lg_sl ([.ref (E 0)])).length) Slot.unset).toArray = ls at hl ⊢
  have hl : lv_has ls 5 [(0, .ref (E 0))] := hl
  refine lv_ldc2 (v := 1151) hx hb hown (hts (.constantLong RX2 200 (1151)) (List.mem_of_getElem? (i := 1) rfl)) dX2_digest_0 ?_
  refine lv_lstore_n (lv' := [(1, .long 1151), (0, .ref (E 0))]) hx hb dX2_digest_3 rfl hl (by decide) rfl (fun ls hl => ?_)
  refine lv_iconst (v := 0) hx hb dX2_digest_4 (by decide) ?_
  refine lv_istore_n (lv' := [(3, .int 0), (1, .long 1151), (0, .ref (E 0))]) hx hb dX2_digest_5 rfl hl (by decide) rfl (fun ls hl => ?_)
  refine tc_lp2 (fun n w1 w2 => lp_X2_digest_6 n x w1 w2) (fun w1 w2 => [(0, .ref (E 0)), (1, .long w1), (3, .int w2)]) 100 1151 0 ?_ ?_ hF (lv_sub hl [2, 1, 0] rfl)
  · intro n_6 w1 w2 ih_6 hF ls hl
    have hF : lp_X2_digest_6 (n_6 + 1) x w1 w2 = some r := hF
    rw [lp_X2_digest_6] at hF
    refine lv_iload_n hx hb dX2_digest_6 rfl (lv_at hl 2 rfl) ?_
    refine lv_bipush (v := 7) hx hb dX2_digest_7 (by decide) ?_
    refine lv_icmp_ge (tgt := 31) hx hb dX2_digest_9 (by decide) (fun c3 => ?_) (fun c3 => ?_)
    · have hF := tc_it hF c3
      refine lv_iconst (v := 0) hx hb dX2_digest_31 (by decide) ?_
      refine lv_istore_n (lv' := [(3, .int 0), (0, .ref (E 0)), (1, .long w1)]) hx hb dX2_digest_32 rfl hl (by decide) rfl (fun ls hl => ?_)
      refine tc_lp2 (fun n w4 w5 => lp_X2_digest_33 n x w4 w5) (fun w4 w5 => [(0, .ref (E 0)), (1, .long w4), (3, .int w5)]) 100 w1 0 ?_ ?_ hF (lv_sub hl [1, 2, 0] rfl)
      · intro n_33 w4 w5 ih_33 hF ls hl
        have hF : lp_X2_digest_33 (n_33 + 1) x w4 w5 = some r := hF
        rw [lp_X2_digest_33] at hF
        refine lv_iload_n hx hb dX2_digest_33 rfl (lv_at hl 2 rfl) ?_
        refine lv_bipush (v := 16) hx hb dX2_digest_34 (by decide) ?_
        refine lv_icmp_ge (tgt := 75) hx hb dX2_digest_36 (by decide) (fun c6 => ?_) (fun c6 => ?_)
        · have hF := tc_it hF c6
          refine lv_iconst (v := 0) hx hb dX2_digest_75 (by decide) ?_
          refine lv_istore_n (lv' := [(3, .int 0), (0, .ref (E 0)), (1, .long w4)]) hx hb dX2_digest_76 rfl hl (by decide) rfl (fun ls hl => ?_)
          refine tc_lp2 (fun n w7 w8 => lp_X2_digest_77 n x w7 w8) (fun w7 w8 => [(0, .ref (E 0)), (1, .long w7), (3, .int w8)]) 100 w4 0 ?_ ?_ hF (lv_sub hl [1, 2, 0] rfl)
          · intro n_77 w7 w8 ih_77 hF ls hl
            have hF : lp_X2_digest_77 (n_77 + 1) x w7 w8 = some r := hF
            rw [lp_X2_digest_77] at hF
            refine lv_iload_n hx hb dX2_digest_77 rfl (lv_at hl 2 rfl) ?_
            refine lv_aload_n hx hb dX2_digest_78 rfl (lv_at hl 0 rfl) ?_
            refine tc_get (v := .ref (E 2)) hx hb hts hinX2 hown hK (hW.o) (C := RX2) (T := TX2) (N := 4) rfl 1 (by decide) (hts (.fieldLink RX2 18 "TreadCranes" "barrels" "Ljava/util/ArrayList;") (List.mem_of_getElem? (i := 3) rfl)) (fun _ h9 => h9) rfl dX2_digest_79 ?_
            obtain ⟨mo, ha1, -⟩ := hW.2.2.1
            refine tc_cr (W.runV (As := []) (rest := [.int w8]) ⟨hx, hb, hml, hown, hts⟩ (mt_lsize l D (E 2) mo (E 4) (nI (tc_nb x))) (cwV 0 hts gX2_digest_Jx4a65c_size_8abf5 rfl rfl rfl (by decide +kernel) ⟨Nat.le_of_ble_eq_true rfl, Nat.le_of_ble_eq_true rfl⟩) ⟨fun a U g mk q => ⟨q.1, q.2.1, va_K.moved (Vm.Alike.refl U.vm) q.2.2⟩, tc_rcv ha1 hK rfl, fun U hU hW9 => ⟨rfl, by rw [hU]; exact ha1, va_K.moved hW9.alike (hK.sub [] rfl)⟩⟩ rfl rfl hl.1 rfl (lv_room (Nat.le_of_ble_eq_true rfl)) dX2_digest_82 ⟨Nat.le_of_ble_eq_true rfl, Nat.le_of_ble_eq_true rfl⟩) ?_
            refine lv_icmp_ge (tgt := 134) hx hb dX2_digest_85 (by decide) (fun c9 => ?_) (fun c9 => ?_)
            · have hF := tc_it hF c9
              refine lv_iconst (v := 0) hx hb dX2_digest_134 (by decide) ?_
              refine lv_istore_n (lv' := [(3, .int 0), (0, .ref (E 0)), (1, .long w7)]) hx hb dX2_digest_135 rfl hl (by decide) rfl (fun ls hl => ?_)
              refine tc_lp2 (fun n w10 w11 => lp_X2_digest_136 n x w10 w11) (fun w10 w11 => [(0, .ref (E 0)), (1, .long w10), (3, .int w11)]) 100 w7 0 ?_ ?_ hF (lv_sub hl [1, 2, 0] rfl)
              · intro n_136 w10 w11 ih_136 hF ls hl
                have hF : lp_X2_digest_136 (n_136 + 1) x w10 w11 = some r := hF
                rw [lp_X2_digest_136] at hF
                refine lv_iload_n hx hb dX2_digest_136 rfl (lv_at hl 2 rfl) ?_
                refine lv_aload_n hx hb dX2_digest_137 rfl (lv_at hl 0 rfl) ?_
                refine tc_get (v := .ref (E 3)) hx hb hts hinX2 hown hK (hW.o) (C := RX2) (T := TX2) (N := 4) rfl 2 (by decide) (hts (.fieldLink RX2 22 "TreadCranes" "cranes" "Ljava/util/ArrayList;") (List.mem_of_getElem? (i := 5) rfl)) (fun _ h9 => h9) rfl dX2_digest_138 ?_
                obtain ⟨mo, ha1, -⟩ := hW.2.2.2.1
                refine tc_cr (W.runV (As := []) (rest := [.int w11]) ⟨hx, hb, hml, hown, hts⟩ (mt_lsize l D (E 3) mo (E 5) (nI (tc_nc x))) (cwV 0 hts gX2_digest_Jx4a65c_size_8abf5 rfl rfl rfl (by decide +kernel) ⟨Nat.le_of_ble_eq_true rfl, Nat.le_of_ble_eq_true rfl⟩) ⟨fun a U g mk q => ⟨q.1, q.2.1, va_K.moved (Vm.Alike.refl U.vm) q.2.2⟩, tc_rcv ha1 hK rfl, fun U hU hW9 => ⟨rfl, by rw [hU]; exact ha1, va_K.moved hW9.alike (hK.sub [] rfl)⟩⟩ rfl rfl hl.1 rfl (lv_room (Nat.le_of_ble_eq_true rfl)) dX2_digest_141 ⟨Nat.le_of_ble_eq_true rfl, Nat.le_of_ble_eq_true rfl⟩) ?_
                refine lv_icmp_ge (tgt := 193) hx hb dX2_digest_144 (by decide) (fun c12 => ?_) (fun c12 => ?_)
                · have hF := tc_it hF c12
                  refine lv_lload_n hx hb dX2_digest_193 rfl (lv_at hl 1 rfl) ?_
                  have h91 := Option.some.inj hF
                  exact W.lret hx hb hr (fun t ht hW9 => ⟨by rw [← h91], ht⟩) (fun q h => absurd h List.not_mem_nil) dX2_digest_194
                · have hF := tc_if hF c12
                  refine lv_iconst (v := 0) hx hb dX2_digest_147 (by decide) ?_
                  refine lv_istore (lv' := [(4, .int 0), (0, .ref (E 0)), (1, .long w10), (3, .int w11)]) hx hb dX2_digest_148 hl (by decide) rfl (fun ls hl => ?_)
                  refine tc_lp2 (fun n w13 w14 => lp_X2_digest_150 n x w11 w13 w14 (fun w13 w14 => tc_let (w11 + 1) (fun v16 => lp_X2_digest_136 n_136 x w13 v16))) (fun w13 w14 => [(0, .ref (E 0)), (1, .long w13), (3, .int w11), (4, .int w14)]) 100 w10 0 ?_ ?_ hF (lv_sub hl [1, 2, 3, 0] rfl)
                  · intro n_150 w13 w14 ih_150 hF ls hl
                    have hF : lp_X2_digest_150 (n_150 + 1) x w11 w13 w14 (fun w13 w14 => tc_let (w11 + 1) (fun v16 => lp_X2_digest_136 n_136 x w13 v16)) = some r := hF
                    rw [lp_X2_digest_150] at hF
                    refine lv_iload hx hb dX2_digest_150 (lv_at hl 3 rfl) ?_
                    refine lv_bipush (v := 9) hx hb dX2_digest_152 (by decide) ?_
                    refine lv_icmp_ge (tgt := 187) hx hb dX2_digest_154 (by decide) (fun c15 => ?_) (fun c15 => ?_)
                    · have hF := tc_it hF c15
                      try dsimp only at hF
                      obtain ⟨v16, ev16⟩ : ∃ z : Int32, z = w11 + 1 := ⟨_, rfl⟩
                      have hF := tc_lt hF ev16
                      refine lv_iinc (v := v16) (lv' := [(3, .int v16), (0, .ref (E 0)), (1, .long w13), (4, .int w14)]) hx hb dX2_digest_187 hl (k := 2) rfl (by rw [ev16]; rfl) (by decide) rfl (fun ls hl => ?_)
                      refine lv_goto (tgt := 136) hx hb dX2_digest_190 (by decide) ?_
                      exact ih_136 w13 v16 hF _ (lv_sub hl [1, 2, 0] rfl)
                    · have hF := tc_if hF c15
                      refine lv_lload_n hx hb dX2_digest_157 rfl (lv_at hl 1 rfl) ?_
                      refine lv_ldc2 (v := 31) hx hb hown (hts (.constantLong RX2 202 (31)) (List.mem_of_getElem? (i := 2) rfl)) dX2_digest_158 ?_
                      refine lv_lmul hx hb dX2_digest_161 ?_
                      refine lv_aload_n hx hb dX2_digest_162 rfl (lv_at hl 0 rfl) ?_
                      refine tc_get (v := .ref (E 3)) hx hb hts hinX2 hown hK (hW.o) (C := RX2) (T := TX2) (N := 4) rfl 2 (by decide) (hts (.fieldLink RX2 22 "TreadCranes" "cranes" "Ljava/util/ArrayList;") (List.mem_of_getElem? (i := 5) rfl)) (fun _ h9 => h9) rfl dX2_digest_163 ?_
                      refine lv_iload_n hx hb dX2_digest_166 rfl (lv_at hl 2 rfl) ?_
                      obtain ⟨g17, hF⟩ := tc_ob hF
                      obtain ⟨b18, eb18⟩ : ∃ z : Nat, z = w11.toNatClampNeg := ⟨_, rfl⟩
                      have hF := tc_lt hF eb18
                      have g19 : b18 < tc_nc x := by rw [eb18]; exact g17.2
                      obtain ⟨mo, cap, fl, ha1, ha2, ha3, ha4, ha5⟩ := tc_Li.full hW.2.2.2.1 (Nat.lt_of_le_of_lt (Nat.zero_le _) g17.2)
                      refine tc_cr (W.runV (As := [.int w11]) (rest := [.long (w13 * 31)]) ⟨hx, hb, hml, hown, hts⟩ (mt_lget l D cO (E 3) mo (E 5) (tc_nc x) cap fl w11 (E (46 + b18)) g17 ha3 ha4 (by rw [eb18]; exact ha5 _ g17.2)) (cwV 1 hts gX2_digest_Jx4a65c_get_915e3 rfl rfl rfl (by decide +kernel) ⟨Nat.le_of_ble_eq_true rfl, Nat.le_of_ble_eq_true rfl⟩) ⟨fun a U g mk q => ⟨q.1, q.2.1, q.2.2.1, va_K.moved (Vm.Alike.refl U.vm) q.2.2.2⟩, tc_rcv ha1 hK rfl, fun U hU hW9 => ⟨rfl, by rw [hU]; exact ha1, by rw [hU]; exact ha2, va_K.moved hW9.alike (hK.sub [1] rfl)⟩⟩ rfl rfl hl.1 rfl (lv_room (Nat.le_of_ble_eq_true rfl)) dX2_digest_167 ⟨Nat.le_of_ble_eq_true rfl, Nat.le_of_ble_eq_true rfl⟩) ?_
                      refine va_castS hx hb hown (hts (.classLink RX2 81 "TreadCranes$Crane") (List.mem_of_getElem? (i := 6) rfl)) ((hK.1 2 _ rfl).2) (tc_rcv (hW.c g19) hK rfl) dX2_digest_170 ?_
                      refine lv_iload hx hb dX2_digest_173 (lv_at hl 3 rfl) ?_
                      obtain ⟨r20, h21, hF⟩ := tc_bi hF
                      refine tc_cr (W.runS (As := [.ref (E (46 + b18)), .int w14]) (rest := [.long (w13 * 31)]) ⟨hx, hb, hml, hown, hts⟩ (mt_X2_craneAnswer l D cU cO cI e0 A E x b18 w14 r20 h21) (va_cwS 2 hts gX2_digest_X2_craneAnswer rfl rfl rfl (by decide +kernel) ⟨Nat.le_of_ble_eq_true rfl, Nat.le_of_ble_eq_true rfl⟩) ⟨fun a U g mk q => ⟨q.1, q.2.1, q.2.2.call⟩, fun U hU hW9 => ⟨rfl, by rw [hU]; exact hW, hKC.warm hW9⟩⟩ rfl rfl hl.1 rfl (lv_room (Nat.le_of_ble_eq_true rfl)) dX2_digest_175 ⟨Nat.le_of_ble_eq_true rfl, Nat.le_of_ble_eq_true rfl⟩) ?_
                      refine lv_i2l hx hb dX2_digest_178 rfl ?_
                      refine lv_ladd hx hb dX2_digest_179 ?_
                      refine lv_topl (fun v22 ev22 => ?_)
                      have hF := tc_lt hF ev22
                      refine lv_lstore_n (lv' := [(1, .long v22), (0, .ref (E 0)), (3, .int w11), (4, .int w14)]) hx hb dX2_digest_180 rfl hl (by decide) rfl (fun ls hl => ?_)
                      obtain ⟨v23, ev23⟩ : ∃ z : Int32, z = w14 + 1 := ⟨_, rfl⟩
                      have hF := tc_lt hF ev23
                      refine lv_iinc (v := v23) (lv' := [(4, .int v23), (1, .long v22), (0, .ref (E 0)), (3, .int w11)]) hx hb dX2_digest_181 hl (k := 3) rfl (by rw [ev23]; rfl) (by decide) rfl (fun ls hl => ?_)
                      refine lv_goto (tgt := 150) hx hb dX2_digest_184 (by decide) ?_
                      exact ih_150 v22 v23 hF _ (lv_sub hl [2, 1, 3, 0] rfl)
                  · intro w13 w14 h9
                    have h9 : lp_X2_digest_150 0 x w11 w13 w14 (fun w13 w14 => tc_let (w11 + 1) (fun v16 => lp_X2_digest_136 n_136 x w13 v16)) = some r := h9
                    rw [lp_X2_digest_150] at h9
                    cases h9
              · intro w10 w11 h9
                have h9 : lp_X2_digest_136 0 x w10 w11 = some r := h9
                rw [lp_X2_digest_136] at h9
                cases h9
            · have hF := tc_if hF c9
              refine lv_iconst (v := 0) hx hb dX2_digest_88 (by decide) ?_
              refine lv_istore (lv' := [(4, .int 0), (0, .ref (E 0)), (1, .long w7), (3, .int w8)]) hx hb dX2_digest_89 hl (by decide) rfl (fun ls hl => ?_)
              refine tc_lp2 (fun n w24 w25 => lp_X2_digest_91 n x w8 w24 w25 (fun w24 w25 => tc_let (w8 + 1) (fun v27 => lp_X2_digest_77 n_77 x w24 v27))) (fun w24 w25 => [(0, .ref (E 0)), (1, .long w24), (3, .int w8), (4, .int w25)]) 100 w7 0 ?_ ?_ hF (lv_sub hl [1, 2, 3, 0] rfl)
              · intro n_91 w24 w25 ih_91 hF ls hl
                have hF : lp_X2_digest_91 (n_91 + 1) x w8 w24 w25 (fun w24 w25 => tc_let (w8 + 1) (fun v27 => lp_X2_digest_77 n_77 x w24 v27)) = some r := hF
                rw [lp_X2_digest_91] at hF
                refine lv_iload hx hb dX2_digest_91 (lv_at hl 3 rfl) ?_
                refine lv_iconst (v := 5) hx hb dX2_digest_93 (by decide) ?_
                refine lv_icmp_ge (tgt := 128) hx hb dX2_digest_94 (by decide) (fun c26 => ?_) (fun c26 => ?_)
                · have hF := tc_it hF c26
                  try dsimp only at hF
                  obtain ⟨v27, ev27⟩ : ∃ z : Int32, z = w8 + 1 := ⟨_, rfl⟩
                  have hF := tc_lt hF ev27
                  refine lv_iinc (v := v27) (lv' := [(3, .int v27), (0, .ref (E 0)), (1, .long w24), (4, .int w25)]) hx hb dX2_digest_128 hl (k := 2) rfl (by rw [ev27]; rfl) (by decide) rfl (fun ls hl => ?_)
                  refine lv_goto (tgt := 77) hx hb dX2_digest_131 (by decide) ?_
                  exact ih_77 w24 v27 hF _ (lv_sub hl [1, 2, 0] rfl)
                · have hF := tc_if hF c26
                  refine lv_lload_n hx hb dX2_digest_97 rfl (lv_at hl 1 rfl) ?_
                  refine lv_ldc2 (v := 31) hx hb hown (hts (.constantLong RX2 202 (31)) (List.mem_of_getElem? (i := 2) rfl)) dX2_digest_98 ?_
                  refine lv_lmul hx hb dX2_digest_101 ?_
                  refine lv_aload_n hx hb dX2_digest_102 rfl (lv_at hl 0 rfl) ?_
                  refine lv_aload_n hx hb dX2_digest_103 rfl (lv_at hl 0 rfl) ?_
                  refine tc_get (v := .ref (E 2)) hx hb hts hinX2 hown hK (hW.o) (C := RX2) (T := TX2) (N := 4) rfl 1 (by decide) (hts (.fieldLink RX2 18 "TreadCranes" "barrels" "Ljava/util/ArrayList;") (List.mem_of_getElem? (i := 3) rfl)) (fun _ h9 => h9) rfl dX2_digest_104 ?_
                  refine lv_iload_n hx hb dX2_digest_107 rfl (lv_at hl 2 rfl) ?_
                  obtain ⟨g28, hF⟩ := tc_ob hF
                  obtain ⟨b29, eb29⟩ : ∃ z : Nat, z = w8.toNatClampNeg := ⟨_, rfl⟩
                  have hF := tc_lt hF eb29
                  have g30 : b29 < tc_nb x := by rw [eb29]; exact g28.2
                  obtain ⟨mo, cap, fl, ha1, ha2, ha3, ha4, ha5⟩ := tc_Li.full hW.2.2.1 (Nat.lt_of_le_of_lt (Nat.zero_le _) g28.2)
                  refine tc_cr (W.runV (As := [.int w8]) (rest := [.ref (E 0), .long (w24 * 31)]) ⟨hx, hb, hml, hown, hts⟩ (mt_lget l D cO (E 2) mo (E 4) (tc_nb x) cap fl w8 (E (6 + b29)) g28 ha3 ha4 (by rw [eb29]; exact ha5 _ g28.2)) (cwV 1 hts gX2_digest_Jx4a65c_get_915e3 rfl rfl rfl (by decide +kernel) ⟨Nat.le_of_ble_eq_true rfl, Nat.le_of_ble_eq_true rfl⟩) ⟨fun a U g mk q => ⟨q.1, q.2.1, q.2.2.1, va_K.moved (Vm.Alike.refl U.vm) q.2.2.2⟩, tc_rcv ha1 hK rfl, fun U hU hW9 => ⟨rfl, by rw [hU]; exact ha1, by rw [hU]; exact ha2, va_K.moved hW9.alike (hK.sub [1] rfl)⟩⟩ rfl rfl hl.1 rfl (lv_room (Nat.le_of_ble_eq_true rfl)) dX2_digest_108 ⟨Nat.le_of_ble_eq_true rfl, Nat.le_of_ble_eq_true rfl⟩) ?_
                  refine va_castS hx hb hown (hts (.classLink RX2 9 "TreadCranes$Barrel") (List.mem_of_getElem? (i := 4) rfl)) ((hK.1 1 _ rfl).2) (tc_rcv (hW.b g30) hK rfl) dX2_digest_111 ?_
                  refine lv_iload hx hb dX2_digest_114 (lv_at hl 3 rfl) ?_
                  obtain ⟨r31, h32, hF⟩ := tc_bi hF
                  refine tc_cr (W.runV (As := [.ref (E (6 + b29)), .int w25]) (rest := [.long (w24 * 31)]) ⟨hx, hb, hml, hown, hts⟩ (mt_X2_barrelAnswer l D cU cO cI e0 A E x b29 w25 r31 h32) (cwV 2 hts gX2_digest_X2_barrelAnswer rfl rfl rfl (by decide +kernel) ⟨Nat.le_of_ble_eq_true rfl, Nat.le_of_ble_eq_true rfl⟩) ⟨fun a U g mk q => ⟨q.1, q.2.1, q.2.2.call⟩, tc_rcv (hW.o) hK rfl, fun U hU hW9 => ⟨rfl, by rw [hU]; exact hW, hKC.warm hW9⟩⟩ rfl rfl hl.1 rfl (lv_room (Nat.le_of_ble_eq_true rfl)) dX2_digest_116 ⟨Nat.le_of_ble_eq_true rfl, Nat.le_of_ble_eq_true rfl⟩) ?_
                  refine lv_i2l hx hb dX2_digest_119 rfl ?_
                  refine lv_ladd hx hb dX2_digest_120 ?_
                  refine lv_topl (fun v33 ev33 => ?_)
                  have hF := tc_lt hF ev33
                  refine lv_lstore_n (lv' := [(1, .long v33), (0, .ref (E 0)), (3, .int w8), (4, .int w25)]) hx hb dX2_digest_121 rfl hl (by decide) rfl (fun ls hl => ?_)
                  obtain ⟨v34, ev34⟩ : ∃ z : Int32, z = w25 + 1 := ⟨_, rfl⟩
                  have hF := tc_lt hF ev34
                  refine lv_iinc (v := v34) (lv' := [(4, .int v34), (1, .long v33), (0, .ref (E 0)), (3, .int w8)]) hx hb dX2_digest_122 hl (k := 3) rfl (by rw [ev34]; rfl) (by decide) rfl (fun ls hl => ?_)
                  refine lv_goto (tgt := 91) hx hb dX2_digest_125 (by decide) ?_
                  exact ih_91 v33 v34 hF _ (lv_sub hl [2, 1, 3, 0] rfl)
              · intro w24 w25 h9
                have h9 : lp_X2_digest_91 0 x w8 w24 w25 (fun w24 w25 => tc_let (w8 + 1) (fun v27 => lp_X2_digest_77 n_77 x w24 v27)) = some r := h9
                rw [lp_X2_digest_91] at h9
                cases h9
          · intro w7 w8 h9
            have h9 : lp_X2_digest_77 0 x w7 w8 = some r := h9
            rw [lp_X2_digest_77] at h9
            cases h9
        · have hF := tc_if hF c6
          refine lv_iconst (v := 0) hx hb dX2_digest_39 (by decide) ?_
          refine lv_istore (lv' := [(4, .int 0), (0, .ref (E 0)), (1, .long w4), (3, .int w5)]) hx hb dX2_digest_40 hl (by decide) rfl (fun ls hl => ?_)
          refine tc_lp2 (fun n w35 w36 => lp_X2_digest_42 n x w5 w35 w36 (fun w35 w36 => tc_let (w5 + 1) (fun v38 => lp_X2_digest_33 n_33 x w35 v38))) (fun w35 w36 => [(0, .ref (E 0)), (1, .long w35), (3, .int w5), (4, .int w36)]) 100 w4 0 ?_ ?_ hF (lv_sub hl [1, 2, 3, 0] rfl)
          · intro n_42 w35 w36 ih_42 hF ls hl
            have hF : lp_X2_digest_42 (n_42 + 1) x w5 w35 w36 (fun w35 w36 => tc_let (w5 + 1) (fun v38 => lp_X2_digest_33 n_33 x w35 v38)) = some r := hF
            rw [lp_X2_digest_42] at hF
            refine lv_iload hx hb dX2_digest_42 (lv_at hl 3 rfl) ?_
            refine lv_iconst (v := 4) hx hb dX2_digest_44 (by decide) ?_
            refine lv_icmp_ge (tgt := 69) hx hb dX2_digest_45 (by decide) (fun c37 => ?_) (fun c37 => ?_)
            · have hF := tc_it hF c37
              try dsimp only at hF
              obtain ⟨v38, ev38⟩ : ∃ z : Int32, z = w5 + 1 := ⟨_, rfl⟩
              have hF := tc_lt hF ev38
              refine lv_iinc (v := v38) (lv' := [(3, .int v38), (0, .ref (E 0)), (1, .long w35), (4, .int w36)]) hx hb dX2_digest_69 hl (k := 2) rfl (by rw [ev38]; rfl) (by decide) rfl (fun ls hl => ?_)
              refine lv_goto (tgt := 33) hx hb dX2_digest_72 (by decide) ?_
              exact ih_33 w35 v38 hF _ (lv_sub hl [1, 2, 0] rfl)
            · have hF := tc_if hF c37
              refine lv_lload_n hx hb dX2_digest_48 rfl (lv_at hl 1 rfl) ?_
              refine lv_ldc2 (v := 31) hx hb hown (hts (.constantLong RX2 202 (31)) (List.mem_of_getElem? (i := 2) rfl)) dX2_digest_49 ?_
              refine lv_lmul hx hb dX2_digest_52 ?_
              refine lv_aload_n hx hb dX2_digest_53 rfl (lv_at hl 0 rfl) ?_
              refine lv_iload_n hx hb dX2_digest_54 rfl (lv_at hl 2 rfl) ?_
              refine lv_iload hx hb dX2_digest_55 (lv_at hl 3 rfl) ?_
              obtain ⟨r39, h40, hF⟩ := tc_bi hF
              refine tc_cr (W.runV (As := [.int w5, .int w36]) (rest := [.long (w35 * 31)]) ⟨hx, hb, hml, hown, hts⟩ (mt_X2_placeAnswer l D cU cO cI e0 A E x w5 w36 r39 h40) (cwV 2 hts gX2_digest_X2_placeAnswer rfl rfl rfl (by decide +kernel) ⟨Nat.le_of_ble_eq_true rfl, Nat.le_of_ble_eq_true rfl⟩) ⟨fun a U g mk q => ⟨q.1, q.2.1, q.2.2.call⟩, tc_rcv (hW.o) hK rfl, fun U hU hW9 => ⟨rfl, by rw [hU]; exact hW, hKC.warm hW9⟩⟩ rfl rfl hl.1 rfl (lv_room (Nat.le_of_ble_eq_true rfl)) dX2_digest_57 ⟨Nat.le_of_ble_eq_true rfl, Nat.le_of_ble_eq_true rfl⟩) ?_
              refine lv_i2l hx hb dX2_digest_60 rfl ?_
              refine lv_ladd hx hb dX2_digest_61 ?_
              refine lv_topl (fun v41 ev41 => ?_)
              have hF := tc_lt hF ev41
              refine lv_lstore_n (lv' := [(1, .long v41), (0, .ref (E 0)), (3, .int w5), (4, .int w36)]) hx hb dX2_digest_62 rfl hl (by decide) rfl (fun ls hl => ?_)
              obtain ⟨v42, ev42⟩ : ∃ z : Int32, z = w36 + 1 := ⟨_, rfl⟩
              have hF := tc_lt hF ev42
              refine lv_iinc (v := v42) (lv' := [(4, .int v42), (1, .long v41), (0, .ref (E 0)), (3, .int w5)]) hx hb dX2_digest_63 hl (k := 3) rfl (by rw [ev42]; rfl) (by decide) rfl (fun ls hl => ?_)
              refine lv_goto (tgt := 42) hx hb dX2_digest_66 (by decide) ?_
              exact ih_42 v41 v42 hF _ (lv_sub hl [2, 1, 3, 0] rfl)
          · intro w35 w36 h9
            have h9 : lp_X2_digest_42 0 x w5 w35 w36 (fun w35 w36 => tc_let (w5 + 1) (fun v38 => lp_X2_digest_33 n_33 x w35 v38)) = some r := h9
            rw [lp_X2_digest_42] at h9
            cases h9
      · intro w4 w5 h9
        have h9 : lp_X2_digest_33 0 x w4 w5 = some r := h9
        rw [lp_X2_digest_33] at h9
        cases h9
    · have hF := tc_if hF c3
      refine lv_lload_n hx hb dX2_digest_12 rfl (lv_at hl 1 rfl) ?_
      refine lv_ldc2 (v := 31) hx hb hown (hts (.constantLong RX2 202 (31)) (List.mem_of_getElem? (i := 2) rfl)) dX2_digest_13 ?_
      refine lv_lmul hx hb dX2_digest_16 ?_
      refine lv_aload_n hx hb dX2_digest_17 rfl (lv_at hl 0 rfl) ?_
      refine lv_iload_n hx hb dX2_digest_18 rfl (lv_at hl 2 rfl) ?_
      obtain ⟨r43, h44, hF⟩ := tc_bi hF
      refine tc_cr (W.runV (As := [.int w2]) (rest := [.long (w1 * 31)]) ⟨hx, hb, hml, hown, hts⟩ (mt_X2_countAnswer l D cU cO cI e0 A E x w2 r43 h44) (cwV 1 hts gX2_digest_X2_countAnswer rfl rfl rfl (by decide +kernel) ⟨Nat.le_of_ble_eq_true rfl, Nat.le_of_ble_eq_true rfl⟩) ⟨fun a U g mk q => ⟨q.1, q.2.1, q.2.2.call⟩, tc_rcv (hW.o) hK rfl, fun U hU hW9 => ⟨rfl, by rw [hU]; exact hW, hKC.warm hW9⟩⟩ rfl rfl hl.1 rfl (lv_room (Nat.le_of_ble_eq_true rfl)) dX2_digest_19 ⟨Nat.le_of_ble_eq_true rfl, Nat.le_of_ble_eq_true rfl⟩) ?_
      refine lv_i2l hx hb dX2_digest_22 rfl ?_
      refine lv_ladd hx hb dX2_digest_23 ?_
      refine lv_topl (fun v45 ev45 => ?_)
      have hF := tc_lt hF ev45
      refine lv_lstore_n (lv' := [(1, .long v45), (0, .ref (E 0)), (3, .int w2)]) hx hb dX2_digest_24 rfl hl (by decide) rfl (fun ls hl => ?_)
      obtain ⟨v46, ev46⟩ : ∃ z : Int32, z = w2 + 1 := ⟨_, rfl⟩
      have hF := tc_lt hF ev46
      refine lv_iinc (v := v46) (lv' := [(3, .int v46), (1, .long v45), (0, .ref (E 0))]) hx hb dX2_digest_25 hl (k := 2) rfl (by rw [ev46]; rfl) (by decide) rfl (fun ls hl => ?_)
      refine lv_goto (tgt := 6) hx hb dX2_digest_28 (by decide) ?_
      exact ih_6 v45 v46 hF _ (lv_sub hl [2, 1, 0] rfl)
  · intro w1 w2 h9
    have h9 : lp_X2_digest_6 0 x w1 w2 = some r := h9
    rw [lp_X2_digest_6] at h9
    cases h9
