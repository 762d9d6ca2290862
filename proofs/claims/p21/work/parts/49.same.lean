/-! The law's isSame (written by wip/p21/run5.py). -/
def lp_S_isSame_658 : Nat → tc_X → (Nat → Int32) → Option (Int32) → Int32 → Option (Int32)
  | 0, _, _, _, _ => none
  | n_658 + 1, x, u32, kc36, w39 => (if 7 ≤ w39 then kc36  else Option.bind (tc_rd (f_X2_count x w39)) (fun r43 => (if ¬ w39 < 0 ∧ w39.toNatClampNeg < 7 then (if r43 = (u32 w39.toNatClampNeg) then tc_let (w39 + 1) (fun v47 => lp_S_isSame_658 n_658 x u32 kc36 v47) else none) else none)))
def lp_S_isSame_520 : Nat → tc_X → tc_Z → Option (Int32) → Int32 → Option (Int32)
  | 0, _, _, _, _ => none
  | n_520 + 1, x, z, kc22, w48 => (if (nI (tc_zl z 2)) ≤ w48 then kc22  else Option.bind (tc_rd (f_X2_barrel x w48 4)) (fun r52 => (if ¬ w48 < 0 ∧ w48.toNatClampNeg < 40 then tc_jn (fun (w55 : Int32) => (if r52 = w55 then tc_jn (tc_let (w48 + 1) (fun v63 => lp_S_isSame_520 n_520 x z kc22 v63)) (fun kc62 => (if (tc_zf z 4 w48.toNatClampNeg) = 0 then kc62  else Option.bind (tc_rd (f_X2_barrel x w48 1)) (fun r65 => (if r65 = (-1) then Option.bind (tc_rd (f_X2_barrel x w48 2)) (fun r68 => (if r68 = 0 then Option.bind (tc_rd (f_X2_barrel x w48 3)) (fun r71 => (if r71 = (-1) then kc62  else none)) else none)) else none)))) else none)) (fun kc58 => (if (tc_zf z 4 w48.toNatClampNeg) = 0 then kc58 0 else kc58 1)) else none)))
def lp_S_isSame_478 : Nat → tc_X → tc_Z → Int32 → (Int32 → Int32 → Option (Int32)) → Int32 → Int32 → (Nat → Int32) → Int32 → Option (Int32)
  | 0, _, _, _, _, _, _, _, _ => none
  | n_478 + 1, x, z, w75, kc96, v99, v101, u109, w110 => (if 5 ≤ w110 then kc96 v101 v99 else Option.bind (tc_rd (f_X2_barrel x (tc_zf z (21 + w75.toNatClampNeg) 7) w110)) (fun r114 => (if ¬ w110 < 0 ∧ w110.toNatClampNeg < 5 then (if r114 = (u109 w110.toNatClampNeg) then tc_let (w110 + 1) (fun v118 => lp_S_isSame_478 n_478 x z w75 kc96 v99 v101 u109 v118) else none) else none)))
def lp_S_isSame_361 : Nat → tc_X → tc_Z → Int32 → Option (Int32) → Int32 → Option (Int32)
  | 0, _, _, _, _, _ => none
  | n_361 + 1, x, z, w75, kc85, w119 => (if 8 ≤ w119 then kc85  else Option.bind (tc_rd (f_X2_crane x w75 w119)) (fun r123 => (if ¬ w119 < 0 ∧ w119.toNatClampNeg < tc_zl z (21 + w75.toNatClampNeg) then (if r123 = (tc_zf z (21 + w75.toNatClampNeg) w119.toNatClampNeg) then tc_let (w119 + 1) (fun v127 => lp_S_isSame_361 n_361 x z w75 kc85 v127) else none) else none)))
def lp_S_isSame_339 : Nat → tc_X → tc_Z → (Int32 → Int32 → Option (Int32)) → Int32 → Int32 → Int32 → Option (Int32)
  | 0, _, _, _, _, _, _ => none
  | n_339 + 1, x, z, kc18, w75, w76, w77 => (if (nI (tc_zn z)) ≤ w75 then kc18 w76 w77 else (if ¬ w75 < 0 ∧ w75.toNatClampNeg < tc_zn z then tc_jn (Option.bind (tc_rd (f_X2_crane x w75 8)) (fun r86 => Option.bind (f_S_strong (tc_zl z (21 + w75.toNatClampNeg)) (tc_zf z (21 + w75.toNatClampNeg)) ) (fun r88 => (if r86 = r88 then (if 7 < tc_zl z (21 + w75.toNatClampNeg) then tc_jn (fun (w92 : Int32) (w93 : Int32) => tc_let (w75 + 1) (fun v97 => lp_S_isSame_339 n_339 x z kc18 v97 w92 w93)) (fun kc96 => (if 0 ≤ (tc_zf z (21 + w75.toNatClampNeg) 7) then tc_let (w77 + 1) (fun v99 => (if ¬ (tc_zf z (21 + w75.toNatClampNeg) 7) < 0 ∧ (tc_zf z (21 + w75.toNatClampNeg) 7).toNatClampNeg < tc_zl z 2 then tc_let (w76 + (tc_zf z 2 (tc_zf z (21 + w75.toNatClampNeg) 7).toNatClampNeg)) (fun v101 => tc_let (fun _ : Nat => (0 : Int32)) (fun u103 => tc_let (upd u103 0 (tc_zf z 2 (tc_zf z (21 + w75.toNatClampNeg) 7).toNatClampNeg)) (fun u105 => tc_let (upd u105 1 (-1)) (fun u106 => tc_let (upd u106 2 0) (fun u107 => tc_let (upd u107 3 w75) (fun u108 => tc_let (upd u108 4 0) (fun u109 => lp_S_isSame_478 6 x z w75 kc96 v99 v101 u109 0))))))) else none)) else kc96 w76 w77)) else none) else none)))) (fun kc85 => lp_S_isSame_361 9 x z w75 kc85 0) else none))
def lp_S_isSame_300 : Nat → tc_X → Int32 → (Nat → Int32) → Option (Int32) → Int32 → Option (Int32)
  | 0, _, _, _, _, _ => none
  | n_300 + 1, x, w128, u162, kc166, w168 => (if 4 ≤ w168 then kc166  else Option.bind (tc_rd (f_X2_place x w128 w168)) (fun r172 => (if ¬ w168 < 0 ∧ w168.toNatClampNeg < 4 then (if r172 = (u162 w168.toNatClampNeg) then tc_let (w168 + 1) (fun v176 => lp_S_isSame_300 n_300 x w128 u162 kc166 v176) else none) else none)))
def lp_S_isSame_163 : Nat → tc_Z → Int32 → Int32 → (Int32 → Option (Int32)) → Int32 → Int32 → Option (Int32)
  | 0, _, _, _, _, _, _ => none
  | n_163 + 1, z, w128, v141, kc147, w179, w180 => (if v141 ≤ w179 then kc147 w180 else (if ¬ w179 < 0 ∧ w179.toNatClampNeg < tc_zn z then (if 5 < tc_zl z (21 + w179.toNatClampNeg) then tc_jn (fun (w186 : Int32) => tc_let (w180 + w186) (fun v190 => tc_let (w179 + 1) (fun v191 => lp_S_isSame_163 n_163 z w128 v141 kc147 v191 v190))) (fun kc189 => (if (tc_zf z (21 + w179.toNatClampNeg) 5) = w128 then kc189 1 else kc189 0)) else none) else none))
def lp_S_isSame_113 : Nat → tc_X → Int32 → (Nat → Int32) → Option (Int32) → Int32 → Option (Int32)
  | 0, _, _, _, _, _ => none
  | n_113 + 1, x, v200, u210, kc214, w216 => (if 5 ≤ w216 then kc214  else Option.bind (tc_rd (f_X2_barrel x v200 w216)) (fun r220 => (if ¬ w216 < 0 ∧ w216.toNatClampNeg < 5 then (if r220 = (u210 w216.toNatClampNeg) then tc_let (w216 + 1) (fun v224 => lp_S_isSame_113 n_113 x v200 u210 kc214 v224) else none) else none)))
def lp_S_isSame_29 : Nat → tc_X → tc_Z → Int32 → (Int32 → Option (Int32)) → Int32 → Int32 → Option (Int32)
  | 0, _, _, _, _, _, _ => none
  | n_29 + 1, x, z, w128, kc140, w193, w194 => (if ¬ w128 < 0 ∧ w128.toNatClampNeg < 16 then (if (nI (tc_zl z (5 + w128.toNatClampNeg))) ≤ w193 then kc140 w194 else (if ¬ w193 < 0 ∧ w193.toNatClampNeg < tc_zl z (5 + w128.toNatClampNeg) then tc_let (tc_zf z (5 + w128.toNatClampNeg) w193.toNatClampNeg) (fun v200 => (if ¬ v200 < 0 ∧ v200.toNatClampNeg < tc_zl z 2 then tc_let (w194 + (tc_zf z 2 v200.toNatClampNeg)) (fun v202 => tc_let (fun _ : Nat => (0 : Int32)) (fun u204 => tc_let (upd u204 0 (tc_zf z 2 v200.toNatClampNeg)) (fun u206 => tc_let (upd u206 1 w128) (fun u207 => tc_let (upd u207 2 (((nI (tc_zl z (5 + w128.toNatClampNeg))) - (1 : Int32)) - w193)) (fun u208 => tc_let (upd u208 3 (-1)) (fun u209 => tc_let (upd u209 4 0) (fun u210 => tc_jn (tc_let (w193 + 1) (fun v215 => lp_S_isSame_29 n_29 x z w128 kc140 v215 v202)) (fun kc214 => lp_S_isSame_113 6 x v200 u210 kc214 0)))))))) else none)) else none)) else none)
def lp_S_isSame_13 : Nat → tc_X → tc_Z → (Int32 → Int32 → Int32 → Option (Int32)) → Int32 → Int32 → Int32 → Int32 → Option (Int32)
  | 0, _, _, _, _, _, _, _ => none
  | n_13 + 1, x, z, kc10, w128, w129, w130, w131 => (if 16 ≤ w128 then kc10 w129 w130 w131 else tc_jn (fun (w137 : Int32) => tc_let (nI (tc_zn z)) (fun v141 => tc_jn (fun (w144 : Int32) => (if ¬ w128 < 0 ∧ w128.toNatClampNeg < 16 then tc_let (w131 + (nI (tc_zl z (5 + w128.toNatClampNeg)))) (fun v149 => tc_let (w129 + w137) (fun v150 => tc_let (tc_max w130 (nI (tc_zl z (5 + w128.toNatClampNeg)))) (fun v151 => tc_let (fun _ : Nat => (0 : Int32)) (fun u153 => tc_let (upd u153 0 (nI (tc_zl z (5 + w128.toNatClampNeg)))) (fun u155 => tc_jn (fun (w156 : Int32) => tc_let (upd u155 1 w156) (fun u160 => tc_let (upd u160 2 w137) (fun u161 => tc_let (upd u161 3 w144) (fun u162 => tc_jn (tc_let (w128 + 1) (fun v167 => lp_S_isSame_13 n_13 x z kc10 v167 v150 v151 v149)) (fun kc166 => lp_S_isSame_300 5 x w128 u162 kc166 0))))) (fun kc159 => (if (nI (tc_zl z (5 + w128.toNatClampNeg))) = 0 then kc159 (-1) else (if ¬ ((nI (tc_zl z (5 + w128.toNatClampNeg))) - (1 : Int32)) < 0 ∧ ((nI (tc_zl z (5 + w128.toNatClampNeg))) - (1 : Int32)).toNatClampNeg < tc_zl z (5 + w128.toNatClampNeg) then kc159 (tc_zf z (5 + w128.toNatClampNeg) ((nI (tc_zl z (5 + w128.toNatClampNeg))) - (1 : Int32)).toNatClampNeg) else none)))))))) else none)) (fun kc147 => lp_S_isSame_163 6 z w128 v141 kc147 0 0))) (fun kc140 => lp_S_isSame_29 9 x z w128 kc140 0 0))
def f_S_isSame (x : tc_X) (z : tc_Z) : Option Int32 := tc_jn (fun (w5 : Int32) (w6 : Int32) (w7 : Int32) => tc_jn (fun (w14 : Int32) (w15 : Int32) => tc_jn (tc_let (fun _ : Nat => (0 : Int32)) (fun u24 => tc_let (upd u24 0 (z.1 0)) (fun u26 => tc_let (upd u26 1 (nI (tc_zl z 2))) (fun u27 => tc_let (upd u27 2 w7) (fun u28 => tc_let (upd u28 3 w15) (fun u29 => tc_let (upd u29 4 (z.1 1)) (fun u30 => tc_let (upd u30 5 (nI (tc_zn z))) (fun u31 => tc_let (upd u31 6 w6) (fun u32 => tc_jn (Option.bind (f_X2_mean x) (fun v37 => (if isNaN64 v37 = false ∧ Op.cmpValue (FP.dcmp v37 v37) .l = 0 ∧ v37 = (if w7 + w15 = 0 then FP.dconst0 else FP.ddiv (FP.i2d w14) (FP.i2d (w7 + w15))) then some 1 else none))) (fun kc36 => lp_S_isSame_658 8 x u32 kc36 0)))))))))) (fun kc22 => lp_S_isSame_520 41 x z kc22 0)) (fun kc18 => lp_S_isSame_339 6 x z kc18 0 w5 0)) (fun kc10 => lp_S_isSame_13 17 x z kc10 0 0 0 0)
set_option maxHeartbeats 16000000 in
set_option maxRecDepth 100000 in
theorem mt_X3_isSame (l : Launch) (hst : l.stackTraces = false) (D : va_G) (cU cO cI cII cZ : ClassId) (e0 : Nat) (A : Nat → Prop) (E F : Nat → Nat) (x : tc_X) (z : tc_Z) (hF : f_S_isSame x z = some 1) : MetD lw_cs l yX3_isSame wsX3_isSame ({ frames := 8, cells := 1593, slots := 9366, locals := 151 } : Room) (va_Pc [.ref (F 0), .ref (E 0)] (fun U => tc_WL D cU cO cI cII cZ e0 A E F x z U.heap ∧ tc_KX D cU cO cI e0 A U ∧ tc_KS D cI cII cZ U)) (tc_Qw (some (.int 1)) (fun _ => True) A) 1593 9366 A := by
  refine MetD.ofW (cc := cX3_isSame) (maxL := 13) (ret := (some .boolean)) (by decide) rfl ?_
  intro p e s m args below meth c s₁ B hml hv hd0
  change W p l e _ s m _ below meth c s.heap [] 0 0 _ _
  obtain ⟨rfl, hW, hKX, hKF⟩ := hv
  have hx := B.exec
  have hb := B.bytes
  have hr := B.returns
  have hts := atoms_spec (ws := wsX3_isSame) B.pre
  have hown : s.vm.findClass RX3 = some m.cls := findClass_of_methodNamed B.named
  have hlocks := B.notSynchronized
  have hK := hKX.1.1
  have hKS := hKF.1
  have hA0 := hKX.2.1
  have hAn := hKX.2.1
  have hAe := hW.2.2
  have heA := hW.2.2
  have hEF : E 0 = E 0 ∧ F 0 = F 0 := ⟨rfl, rfl⟩
  have hS : va_S A s.heap s.heap [] := va_S.rf
  have hinX3 : ∀ w ∈ wsX30, w ∈ wsX3_isSame := fun w9 h9 => List.mem_cons_of_mem _ (List.mem_append_left _ (List.mem_append_left _ (List.mem_append_left _ (List.mem_append_left _ (List.mem_append_left _ (List.mem_append_right _ h9))))))
  have hl := lv_entry ([.ref (F 0), .ref (E 0)]) (n := 13) (Nat.le_of_ble_eq_true rfl)
  rw [lg_entry_eq]
  generalize (lg_sl ([.ref (F 0), .ref (E 0)]) ++ List.replicate (13 - (lg_sl ([.ref (F 0), .ref (E 0)])).length) Slot.unset).toArray = ls at hl ⊢
  have hl : lv_has ls 13 [(0, .ref (F 0)), (1, .ref (E 0))] := hl
  refine tc_hideQ (R9 := ({ frames := 8, cells := 1593, slots := 9366, locals := 151 } : Room)) rfl (fun QQ eQQ => ?_)
  refine lv_iconst (v := 0) hx hb dX3_isSame_0 (by decide) ?_
  refine lv_istore_n (lv' := [(2, .int 0), (0, .ref (F 0)), (1, .ref (E 0))]) hx hb dX3_isSame_1 rfl hl (by decide) rfl (fun ls hl => ?_)
  refine lv_iconst (v := 0) hx hb dX3_isSame_2 (by decide) ?_
  refine lv_istore_n (lv' := [(3, .int 0), (2, .int 0), (0, .ref (F 0)), (1, .ref (E 0))]) hx hb dX3_isSame_3 rfl hl (by decide) rfl (fun ls hl => ?_)
  refine lv_iconst (v := 0) hx hb dX3_isSame_4 (by decide) ?_
  refine lv_istore (lv' := [(4, .int 0), (3, .int 0), (2, .int 0), (0, .ref (F 0)), (1, .ref (E 0))]) hx hb dX3_isSame_5 hl (by decide) rfl (fun ls hl => ?_)
  refine lv_iconst (v := 0) hx hb dX3_isSame_7 (by decide) ?_
  refine lv_istore (lv' := [(5, .int 0), (4, .int 0), (3, .int 0), (2, .int 0), (0, .ref (F 0)), (1, .ref (E 0))]) hx hb dX3_isSame_8 hl (by decide) rfl (fun ls hl => ?_)
  refine lv_iconst (v := 0) hx hb dX3_isSame_10 (by decide) ?_
  refine lv_istore (lv' := [(6, .int 0), (5, .int 0), (4, .int 0), (3, .int 0), (2, .int 0), (0, .ref (F 0)), (1, .ref (E 0))]) hx hb dX3_isSame_11 hl (by decide) rfl (fun ls hl => ?_)
  obtain ⟨kc10, ekc10, hF⟩ := tc_jx hF
  have Jkc10 : ∀ (w5 : Int32) (w6 : Int32) (w7 : Int32) (E8 F9 : Nat → Nat) (H : Heap) (locs : List Loc) (ls : Array Slot), kc10 w5 w6 w7 = some 1 → lv_has ls 13 [(5, .int w5), (4, .int w6), (3, .int 0), (2, .int w7), (1, .ref (E8 0)), (0, .ref (F9 0))] → tc_WL D cU cO cI cII cZ e0 A E8 F9 x z H → E8 0 = E 0 ∧ F9 0 = F 0 → va_S A s.heap H locs → W p l e ({ frames := 8, cells := 1593, slots := 9366, locals := 151 } : Room) s m (([.ref (F 0), .ref (E 0)] : List Value).toArray) below meth c H locs (1258) (7361) QQ (F0 m 336 ls []) := by
    intro w5 w6 w7 E8 F9 H locs ls hF hl hW hEF hS
    rw [ekc10] at hF
    dsimp only at hF
    refine lv_iconst (v := 0) hx hb dX3_isSame_336 (by decide) ?_
    refine lv_istore (lv' := [(6, .int 0), (5, .int w5), (4, .int w6), (3, .int 0), (2, .int w7), (1, .ref (E8 0)), (0, .ref (F9 0))]) hx hb dX3_isSame_337 hl (by decide) rfl (fun ls hl => ?_)
    obtain ⟨kc18, ekc18, hF⟩ := tc_jx hF
    have Jkc18 : ∀ (w14 : Int32) (w15 : Int32) (E16 F17 : Nat → Nat) (H : Heap) (locs : List Loc) (ls : Array Slot), kc18 w14 w15 = some 1 → lv_has ls 13 [(5, .int w14), (4, .int w6), (3, .int w15), (2, .int w7), (1, .ref (E16 0)), (0, .ref (F17 0))] → tc_WL D cU cO cI cII cZ e0 A E16 F17 x z H → E16 0 = E 0 ∧ F17 0 = F 0 → va_S A s.heap H locs → W p l e ({ frames := 8, cells := 1593, slots := 9366, locals := 151 } : Room) s m (([.ref (F 0), .ref (E 0)] : List Value).toArray) below meth c H locs (1420) (8327) QQ (F0 m 517 ls []) := by
      intro w14 w15 E16 F17 H locs ls hF hl hW hEF hS
      rw [ekc18] at hF
      dsimp only at hF
      refine lv_iconst (v := 0) hx hb dX3_isSame_517 (by decide) ?_
      refine lv_istore (lv' := [(6, .int 0), (5, .int w14), (4, .int w6), (3, .int w15), (2, .int w7), (1, .ref (E16 0)), (0, .ref (F17 0))]) hx hb dX3_isSame_518 hl (by decide) rfl (fun ls hl => ?_)
      obtain ⟨kc22, ekc22, hF⟩ := tc_jx hF
      have Jkc22 : ∀  (E20 F21 : Nat → Nat) (H : Heap) (locs : List Loc) (ls : Array Slot), kc22  = some 1 → lv_has ls 13 [(5, .int w14), (4, .int w6), (3, .int w15), (2, .int w7), (1, .ref (E20 0)), (0, .ref (F21 0))] → tc_WL D cU cO cI cII cZ e0 A E20 F21 x z H → E20 0 = E 0 ∧ F21 0 = F 0 → va_S A s.heap H locs → W p l e ({ frames := 8, cells := 1593, slots := 9366, locals := 151 } : Room) s m (([.ref (F 0), .ref (E 0)] : List Value).toArray) below meth c H locs (1584) (9311) QQ (F0 m 605 ls []) := by
        intro  E20 F21 H locs ls hF hl hW hEF hS
        rw [ekc22] at hF
        refine lv_bipush (v := 7) hx hb dX3_isSame_605 (by decide) ?_
        refine tc_newI (n := 7) (N := 7) hx hb (hts (.arrayClass .int) (List.mem_of_getElem? (i := 3) rfl)) hS hK hA0 (by decide) (by decide) (Nat.le_of_ble_eq_true rfl) (by show _ ≤ (1593 : Nat); omega) (by show _ ≤ (9366 : Nat); omega) dX3_isSame_607 2 rfl (fun q23 H hq_q23 ho_q23 et_q23 z1 o1 hS => ?_)
        obtain ⟨u24, eu24⟩ : ∃ z9 : Nat → Int32, z9 = fun _ : Nat => (0 : Int32) := ⟨_, rfl⟩
        have hF := tc_lt hF eu24
        rw [← eu24] at et_q23
        have hnc_q23 := hW.neE hq_q23
        have hnf_q23 := hW.neF hq_q23
        have hW := hW.grown o1
        obtain ⟨A25, eA25⟩ : ∃ A9 : Nat → Prop, A9 = fun z9 => A z9 ∧ z9 ≠ q23 := ⟨_, rfl⟩
        have hA25A : ∀ z9, A25 z9 → A z9 := fun z9 h9 => by rw [eA25] at h9; exact h9.1
        have hW := hW.reA (A' := A25) (fun j hj => by rw [eA25]; exact ⟨(hW.1.own hj).1, hnc_q23 j hj⟩) (fun i hi => by rw [eA25]; exact ⟨hW.2.1.own hi, hnf_q23 i hi⟩) (fun h9 => hW.2.2 (by rw [eA25] at h9; exact h9.1))
        have heA25 := hW.2.2
        have hx_q23 : ¬ A25 q23 := fun h9 => by rw [eA25] at h9; exact h9.2 rfl
        refine lv_dup hx hb dX3_isSame_609 rfl ?_
        refine lv_iconst (v := 0) hx hb dX3_isSame_610 (by decide) ?_
        refine lv_aload_n hx hb dX3_isSame_611 rfl (lv_at hl 5 rfl) ?_
        refine tc_get (v := .int (z.1 0)) hx hb hts hinX3 hown hK (hW.2.1.o) (C := RX3) (T := TX3) (N := 6) rfl 0 (by decide) (hts (.fieldLink RX3 80 "TreadCranesLaw$Sim" "ticks" "I") (List.mem_of_getElem? (i := 10) rfl)) (fun _ h9 => h9) rfl dX3_isSame_612 ?_
        refine tc_iast2 (j := 0) (by decide) hx hb hK et_q23 hS ho_q23 2 rfl ⟨by decide, by decide⟩ dX3_isSame_615 (fun H locs e1 z1 o1 hS => ?_)
        have hW := hW.tmp hx_q23 o1
        have et_q23 := e1
        obtain ⟨u26, eu26⟩ : ∃ z9 : Nat → Int32, z9 = upd u24 0 (z.1 0) := ⟨_, rfl⟩
        have hF := tc_lt hF eu26
        rw [← eu26] at et_q23
        refine lv_dup hx hb dX3_isSame_616 rfl ?_
        refine lv_iconst (v := 1) hx hb dX3_isSame_617 (by decide) ?_
        refine lv_aload_n hx hb dX3_isSame_618 rfl (lv_at hl 5 rfl) ?_
        refine tc_get (v := .ref (F21 2)) hx hb hts hinX3 hown hK (hW.2.1.o) (C := RX3) (T := TX3) (N := 6) rfl 3 (by decide) (hts (.fieldLink RX3 14 "TreadCranesLaw$Sim" "weights" "[I") (List.mem_of_getElem? (i := 2) rfl)) (fun _ h9 => h9) rfl dX3_isSame_619 ?_
        refine tc_alen (v := nI (tc_zl z 2)) hx hb hK (hW.2.1.r tc_isrW) 2 rfl rfl dX3_isSame_622 ?_
        refine tc_iast2 (j := 1) (by decide) hx hb hK et_q23 hS ho_q23 2 rfl ⟨by decide, by decide⟩ dX3_isSame_623 (fun H locs e1 z1 o1 hS => ?_)
        have hW := hW.tmp hx_q23 o1
        have et_q23 := e1
        obtain ⟨u27, eu27⟩ : ∃ z9 : Nat → Int32, z9 = upd u26 1 (nI (tc_zl z 2)) := ⟨_, rfl⟩
        have hF := tc_lt hF eu27
        rw [← eu27] at et_q23
        refine lv_dup hx hb dX3_isSame_624 rfl ?_
        refine lv_iconst (v := 2) hx hb dX3_isSame_625 (by decide) ?_
        refine lv_iload_n hx hb dX3_isSame_626 rfl (lv_at hl 3 rfl) ?_
        refine tc_iast2 (j := 2) (by decide) hx hb hK et_q23 hS ho_q23 2 rfl ⟨by decide, by decide⟩ dX3_isSame_627 (fun H locs e1 z1 o1 hS => ?_)
        have hW := hW.tmp hx_q23 o1
        have et_q23 := e1
        obtain ⟨u28, eu28⟩ : ∃ z9 : Nat → Int32, z9 = upd u27 2 w7 := ⟨_, rfl⟩
        have hF := tc_lt hF eu28
        rw [← eu28] at et_q23
        refine lv_dup hx hb dX3_isSame_628 rfl ?_
        refine lv_iconst (v := 3) hx hb dX3_isSame_629 (by decide) ?_
        refine lv_iload_n hx hb dX3_isSame_630 rfl (lv_at hl 2 rfl) ?_
        refine tc_iast2 (j := 3) (by decide) hx hb hK et_q23 hS ho_q23 2 rfl ⟨by decide, by decide⟩ dX3_isSame_631 (fun H locs e1 z1 o1 hS => ?_)
        have hW := hW.tmp hx_q23 o1
        have et_q23 := e1
        obtain ⟨u29, eu29⟩ : ∃ z9 : Nat → Int32, z9 = upd u28 3 w15 := ⟨_, rfl⟩
        have hF := tc_lt hF eu29
        rw [← eu29] at et_q23
        refine lv_dup hx hb dX3_isSame_632 rfl ?_
        refine lv_iconst (v := 4) hx hb dX3_isSame_633 (by decide) ?_
        refine lv_aload_n hx hb dX3_isSame_634 rfl (lv_at hl 5 rfl) ?_
        refine tc_get (v := .int (z.1 1)) hx hb hts hinX3 hown hK (hW.2.1.o) (C := RX3) (T := TX3) (N := 6) rfl 1 (by decide) (hts (.fieldLink RX3 84 "TreadCranesLaw$Sim" "broken" "I") (List.mem_of_getElem? (i := 11) rfl)) (fun _ h9 => h9) rfl dX3_isSame_635 ?_
        refine tc_iast2 (j := 4) (by decide) hx hb hK et_q23 hS ho_q23 2 rfl ⟨by decide, by decide⟩ dX3_isSame_638 (fun H locs e1 z1 o1 hS => ?_)
        have hW := hW.tmp hx_q23 o1
        have et_q23 := e1
        obtain ⟨u30, eu30⟩ : ∃ z9 : Nat → Int32, z9 = upd u29 4 (z.1 1) := ⟨_, rfl⟩
        have hF := tc_lt hF eu30
        rw [← eu30] at et_q23
        refine lv_dup hx hb dX3_isSame_639 rfl ?_
        refine lv_iconst (v := 5) hx hb dX3_isSame_640 (by decide) ?_
        refine lv_aload_n hx hb dX3_isSame_641 rfl (lv_at hl 5 rfl) ?_
        refine tc_get (v := .ref (F21 3)) hx hb hts hinX3 hown hK (hW.2.1.o) (C := RX3) (T := TX3) (N := 6) rfl 4 (by decide) (hts (.fieldLink RX3 19 "TreadCranesLaw$Sim" "cranes" "[[I") (List.mem_of_getElem? (i := 4) rfl)) (fun _ h9 => h9) rfl dX3_isSame_642 ?_
        refine tc_alen (v := nI (tc_zn z)) hx hb hKS hW.2.1.c 0 rfl rfl dX3_isSame_645 ?_
        refine tc_iast2 (j := 5) (by decide) hx hb hK et_q23 hS ho_q23 2 rfl ⟨by decide, by decide⟩ dX3_isSame_646 (fun H locs e1 z1 o1 hS => ?_)
        have hW := hW.tmp hx_q23 o1
        have et_q23 := e1
        obtain ⟨u31, eu31⟩ : ∃ z9 : Nat → Int32, z9 = upd u30 5 (nI (tc_zn z)) := ⟨_, rfl⟩
        have hF := tc_lt hF eu31
        rw [← eu31] at et_q23
        refine lv_dup hx hb dX3_isSame_647 rfl ?_
        refine lv_bipush (v := 6) hx hb dX3_isSame_648 (by decide) ?_
        refine lv_iload hx hb dX3_isSame_650 (lv_at hl 1 rfl) ?_
        refine tc_iast2 (j := 6) (by decide) hx hb hK et_q23 hS ho_q23 2 rfl ⟨by decide, by decide⟩ dX3_isSame_652 (fun H locs e1 z1 o1 hS => ?_)
        have hW := hW.tmp hx_q23 o1
        have et_q23 := e1
        obtain ⟨u32, eu32⟩ : ∃ z9 : Nat → Int32, z9 = upd u31 6 w6 := ⟨_, rfl⟩
        have hF := tc_lt hF eu32
        rw [← eu32] at et_q23
        refine lv_astore (lv' := [(6, .ref q23), (5, .int w14), (4, .int w6), (3, .int w15), (2, .int w7), (1, .ref (E20 0)), (0, .ref (F21 0))]) hx hb dX3_isSame_653 hl (by decide) rfl (fun ls hl => ?_)
        refine lv_iconst (v := 0) hx hb dX3_isSame_655 (by decide) ?_
        refine lv_istore (lv' := [(7, .int 0), (6, .ref q23), (5, .int w14), (4, .int w6), (3, .int w15), (2, .int w7), (1, .ref (E20 0)), (0, .ref (F21 0))]) hx hb dX3_isSame_656 hl (by decide) rfl (fun ls hl => ?_)
        obtain ⟨kc36, ekc36, hF⟩ := tc_jx hF
        have Jkc36 : ∀  (E34 F35 : Nat → Nat) (H : Heap) (locs : List Loc) (ls : Array Slot), kc36  = some 1 → lv_has ls 13 [(5, .int w14), (3, .int w15), (2, .int w7), (1, .ref (E34 0))] → tc_WL D cU cO cI cII cZ e0 A25 E34 F35 x z H → E34 0 = E 0 ∧ F35 0 = F 0 → va_at D vwCl (q23, .inl (cI, 7, .inl u32)) H → va_S A s.heap H locs → W p l e ({ frames := 8, cells := 1593, slots := 9366, locals := 151 } : Room) s m (([.ref (F 0), .ref (E 0)] : List Value).toArray) below meth c H locs (1593) (9366) QQ (F0 m 687 ls []) := by
          intro  E34 F35 H locs ls hF hl hW hEF et_q23 hS
          rw [ekc36] at hF
          obtain ⟨v37, h38, hF⟩ := tc_bi hF
          obtain ⟨hc9, hF⟩ := tc_ob hF
          have hal9 : ∀ r9 : UInt64, alike64 r9 v37 = true → r9 = v37 := fun r9 h9 => by
            simp only [alike64, Bool.or_eq_true, decide_eq_true_eq, Bool.and_eq_true] at h9
            rcases h9 with h9 | h9
            · exact h9
            · rw [hc9.1] at h9; exact absurd h9.2 (by decide)
          refine lv_aload_n hx hb dX3_isSame_687 rfl (lv_at hl 3 rfl) ?_
          refine tc_cdD hd0 (va_runV_D (As := []) (rest := []) ⟨hx, hb, hml, hown, hts⟩ (mt_X2_mean l D cU cO cI e0 (tc_A1 A25 F35 z) E34 x v37 h38) (cwV 0 hts gX3_isSame_X2_mean rfl rfl rfl (by decide +kernel) ⟨Nat.le_of_ble_eq_true rfl, Nat.le_of_ble_eq_true rfl⟩) ⟨fun a U g mk q => ⟨q.1, q.2.1, q.2.2.call⟩, tc_rcv hW.1.o hK rfl, fun U hU hW9 => ⟨rfl, by rw [hU]; exact hW.1, hKX.1.warm hW9⟩⟩ rfl rfl hl.1 rfl (lv_room (Nat.le_of_ble_eq_true rfl)) dX3_isSame_688 ⟨(by show _ ≤ (1593 : Nat); omega), (by show _ ≤ (9366 : Nat); omega)⟩) hS (fun _ _ h => h.elim) (fun _ h => h.elim) (fun r1 H locs hr1 _ z1 o1 hS d1 hd1 => ?_)
          have hr1 := hal9 r1 hr1
          subst hr1
          refine lv_iload_n hx hb dX3_isSame_691 rfl (lv_at hl 2 rfl) ?_
          refine lv_iload_n hx hb dX3_isSame_692 rfl (lv_at hl 1 rfl) ?_
          refine lv_iadd hx hb dX3_isSame_693 ?_
          have key : ∀ (r2 : UInt64) (d2 : Drawn), s.drawn.sameBut d2 lw_cs → r2 = r1 → W p l e ({ frames := 8, cells := 1593, slots := 9366, locals := 151 } : Room) (s.setDrawn d2) m (([.ref (F 0), .ref (E 0)] : List Value).toArray) below meth c H locs (1593) (9366) QQ (F0 m 709 ls [.double r2, .double r1]) := by
            intro r2 d2 hd2 h9
            subst h9
            refine lv_dcmp hx hb dX3_isSame_709 ?_
            refine lv_if_ne (tgt := 717) hx hb dX3_isSame_710 (by decide) (fun h9 => absurd hc9.2.1 h9) (fun _ => ?_)
            refine lv_iconst (v := 1) hx hb dX3_isSame_713 (by decide) ?_
            refine lv_goto (tgt := 718) hx hb dX3_isSame_714 (by decide) ?_
            rw [eQQ]
            refine W.endD hd2 ?_
            exact W.zret hx hb hr rfl (fun t ht hW9 => ⟨⟨rfl, trivial⟩, tc_F hS ht⟩) hS.2.2 dX3_isSame_718
          have hts := dr_words hts d1
          refine lv_if_ne (tgt := 701) hx hb dX3_isSame_694 (by decide) (fun c9 => ?_) (fun c9 => ?_)
          · refine lv_iload hx hb dX3_isSame_701 (lv_at hl 0 rfl) ?_
            refine lv_i2d hx hb dX3_isSame_703 ?_
            refine lv_iload_n hx hb dX3_isSame_704 rfl (lv_at hl 2 rfl) ?_
            refine lv_iload_n hx hb dX3_isSame_705 rfl (lv_at hl 1 rfl) ?_
            refine lv_iadd hx hb dX3_isSame_706 ?_
            refine lv_i2d hx hb dX3_isSame_707 ?_
            refine lv_ddiv_any (s := s) (d0 := d1) hd1 lw_bits hx hb dX3_isSame_708 (fun r2 d2 hal hd2 => ?_)
            refine W.widen (k := 1593) (n := 9366) (by omega) (by omega) ?_
            exact key r2 d2 hd2 (hal9 r2 (by have h8 := hc9.2.2; rw [if_neg c9] at h8; rw [h8]; exact hal))
          · refine lv_dconst0 hx hb dX3_isSame_697 ?_
            refine lv_goto (tgt := 709) hx hb dX3_isSame_698 (by decide) ?_
            refine W.widen (k := 1593) (n := 9366) (by omega) (by omega) ?_
            exact key _ d1 hd1 (by have h8 := hc9.2.2; rw [if_pos c9] at h8; exact h8.symm)
        have hL_658 : ∀ (n_658 : Nat) (hn_658 : n_658 ≤ 8) (w39 : Int32) (E40 F41 : Nat → Nat) (H : Heap) (locs : List Loc) (ls : Array Slot), lp_S_isSame_658 n_658 x u32 kc36 w39 = some 1 → lv_has ls 13 [(7, .int w39), (6, .ref q23), (5, .int w14), (3, .int w15), (2, .int w7), (1, .ref (E40 0))] → tc_WL D cU cO cI cII cZ e0 A25 E40 F41 x z H → E40 0 = E 0 ∧ F41 0 = F 0 → va_at D vwCl (q23, .inl (cI, 7, .inl u32)) H → va_S A s.heap H locs → W p l e ({ frames := 8, cells := 1593, slots := 9366, locals := 151 } : Room) s m (([.ref (F 0), .ref (E 0)] : List Value).toArray) below meth c H locs ((1585) + (8 - n_658) * 1 + 0) ((9318) + (8 - n_658) * 6 + 0) QQ (F0 m 658 ls []) := by
          intro n_658
          induction n_658 with
          | zero => intro _; intro w39 E40 F41 H locs ls hF hl hW hEF et_q23 hS; rw [lp_S_isSame_658] at hF; cases hF
          | succ n_658 ih_658 =>
            intro hn_658
            intro w39 E40 F41 H locs ls hF hl hW hEF et_q23 hS
            rw [lp_S_isSame_658] at hF
            refine lv_iload hx hb dX3_isSame_658 (lv_at hl 0 rfl) ?_
            refine lv_bipush (v := 7) hx hb dX3_isSame_660 (by decide) ?_
            refine lv_icmp_ge (tgt := 687) hx hb dX3_isSame_662 (by decide) (fun c42 => ?_) (fun c42 => ?_)
            · have hF := tc_it hF c42
              refine W.widen (k := 1593) (n := 9366) (by omega) (by omega) ?_
              exact Jkc36  E40 F41 _ _ _ hF (lv_sub hl [2, 3, 4, 5] rfl) hW hEF et_q23 hS
            · have hF := tc_if hF c42
              refine lv_aload_n hx hb dX3_isSame_665 rfl (lv_at hl 5 rfl) ?_
              refine lv_iload hx hb dX3_isSame_666 (lv_at hl 0 rfl) ?_
              obtain ⟨r43, h44, hF⟩ := tc_bi hF
              have h44 := tc_rdx h44
              refine tc_cx (vx_runV (As := [.int w39]) (rest := []) ⟨hx, hb, hml, hown, hts⟩ (mt_X2_count l hst D cU cO cI e0 (tc_A1 A25 F41 z) E40 x w39 0 r43 h44) (cwV 1 hts gX3_isSame_X2_count rfl rfl rfl (by decide +kernel) ⟨Nat.le_of_ble_eq_true rfl, Nat.le_of_ble_eq_true rfl⟩) ⟨fun a U g mk q => ⟨q.1, q.2.1, q.2.2.call⟩, tc_rcv hW.1.o hK rfl, fun U hU hW9 => ⟨rfl, by rw [hU]; exact hW.1, ((hKX.go hS hU hW9).narrow (fun z9 h9 => hA25A _ (h9.1)) (by rw [hU]; exact hW.newA (fun z9 h9 => by rw [eA25]; exact ⟨hAn z9 (Nat.le_trans hS.1 h9), (fun h8 => absurd et_q23.lt (Nat.not_lt.mpr (by rw [← h8]; exact h9)))⟩)))⟩⟩ rfl rfl hl.1 rfl (lv_room (Nat.le_of_ble_eq_true rfl)) dX3_isSame_668 ⟨(by show _ ≤ (1593 : Nat); omega), (by show _ ≤ (9366 : Nat); omega)⟩) hS (fun z9 _ h9 => hA25A _ (h9.1)) (fun z9 h9 => hA25A _ (h9.1)) (fun z9 _ h9 => hA25A _ (h9.1)) (fun ce q9 H locs c9 _ _ _ _ _ _ _ => absurd rfl c9) (fun H locs _ hB z1 o1 hS => ?_)
              have et_q23 := et_q23.kept (o1 _ et_q23.lt (fun h9 => hx_q23 h9.1))
              have hW := hW.afterC hB o1
              refine lv_aload hx hb dX3_isSame_671 (lv_at hl 1 rfl) ?_
              refine lv_iload hx hb dX3_isSame_673 (lv_at hl 0 rfl) ?_
              obtain ⟨g45, hF⟩ := tc_ob hF
              refine tc_iald2 (j := w39.toNatClampNeg) (rfl) hx hb hK et_q23 2 rfl g45 dX3_isSame_675 ?_
              refine lv_icmp_eq (tgt := 681) hx hb dX3_isSame_676 (by decide) (fun c46 => ?_) (fun c46 => ?_)
              · have hF := tc_it hF c46
                obtain ⟨v47, ev47⟩ : ∃ z9 : Int32, z9 = w39 + 1 := ⟨_, rfl⟩
                have hF := tc_lt hF ev47
                refine lv_iinc (v := v47) (lv' := [(7, .int v47), (6, .ref q23), (5, .int w14), (3, .int w15), (2, .int w7), (1, .ref (E40 0))]) hx hb dX3_isSame_681 hl (k := 0) rfl (by rw [ev47]; rfl) (by decide) rfl (fun ls hl => ?_)
                refine lv_goto (tgt := 658) hx hb dX3_isSame_684 (by decide) ?_
                refine W.widen (k := (1585) + (8 - n_658) * 1 + 0) (n := (9318) + (8 - n_658) * 6 + 0) (by omega) (by omega) ?_
                exact ih_658 (Nat.le_of_succ_le hn_658) v47 E40 F41 _ _ _ hF (lv_sub hl [0, 1, 2, 3, 4, 5] rfl) hW hEF et_q23 hS
              · have hF := tc_if hF c46
                cases hF
        refine W.widen (k := (1585) + (8 - 8) * 1 + 0) (n := (9318) + (8 - 8) * 6 + 0) (by omega) (by omega) ?_
        exact hL_658 8 (Nat.le_refl _) 0 E20 F21 _ _ _ hF (lv_sub hl [0, 1, 2, 4, 5, 6] rfl) hW hEF et_q23 hS
      have hL_520 : ∀ (n_520 : Nat) (hn_520 : n_520 ≤ 41) (w48 : Int32) (E49 F50 : Nat → Nat) (H : Heap) (locs : List Loc) (ls : Array Slot), lp_S_isSame_520 n_520 x z kc22 w48 = some 1 → lv_has ls 13 [(6, .int w48), (5, .int w14), (4, .int w6), (3, .int w15), (2, .int w7), (1, .ref (E49 0)), (0, .ref (F50 0))] → tc_WL D cU cO cI cII cZ e0 A E49 F50 x z H → E49 0 = E 0 ∧ F50 0 = F 0 → va_S A s.heap H locs → W p l e ({ frames := 8, cells := 1593, slots := 9366, locals := 151 } : Room) s m (([.ref (F 0), .ref (E 0)] : List Value).toArray) below meth c H locs ((1420) + (41 - n_520) * 4 + 0) ((8327) + (41 - n_520) * 24 + 0) QQ (F0 m 520 ls []) := by
        intro n_520
        induction n_520 with
        | zero => intro _; intro w48 E49 F50 H locs ls hF hl hW hEF hS; rw [lp_S_isSame_520] at hF; cases hF
        | succ n_520 ih_520 =>
          intro hn_520
          intro w48 E49 F50 H locs ls hF hl hW hEF hS
          rw [lp_S_isSame_520] at hF
          refine lv_iload hx hb dX3_isSame_520 (lv_at hl 0 rfl) ?_
          refine lv_aload_n hx hb dX3_isSame_522 rfl (lv_at hl 6 rfl) ?_
          refine tc_get (v := .ref (F50 2)) hx hb hts hinX3 hown hK (hW.2.1.o) (C := RX3) (T := TX3) (N := 6) rfl 3 (by decide) (hts (.fieldLink RX3 14 "TreadCranesLaw$Sim" "weights" "[I") (List.mem_of_getElem? (i := 2) rfl)) (fun _ h9 => h9) rfl dX3_isSame_523 ?_
          refine tc_alen (v := nI (tc_zl z 2)) hx hb hK (hW.2.1.r tc_isrW) 2 rfl rfl dX3_isSame_526 ?_
          refine lv_icmp_ge (tgt := 605) hx hb dX3_isSame_527 (by decide) (fun c51 => ?_) (fun c51 => ?_)
          · have hF := tc_it hF c51
            refine W.widen (k := 1584) (n := 9311) (by omega) (by omega) ?_
            exact Jkc22  E49 F50 _ _ _ hF (lv_sub hl [1, 2, 3, 4, 5, 6] rfl) hW hEF hS
          · have hF := tc_if hF c51
            refine lv_aload_n hx hb dX3_isSame_530 rfl (lv_at hl 5 rfl) ?_
            refine lv_iload hx hb dX3_isSame_531 (lv_at hl 0 rfl) ?_
            refine lv_iconst (v := 4) hx hb dX3_isSame_533 (by decide) ?_
            obtain ⟨r52, h53, hF⟩ := tc_bi hF
            have h53 := tc_rdx h53
            refine tc_cx (vx_runV (As := [.int w48, .int 4]) (rest := []) ⟨hx, hb, hml, hown, hts⟩ (mt_X2_barrel l hst D cU cO cI e0 (tc_A1 A F50 z) E49 x w48 4 0 r52 h53) (cwV 2 hts gX3_isSame_X2_barrel rfl rfl rfl (by decide +kernel) ⟨Nat.le_of_ble_eq_true rfl, Nat.le_of_ble_eq_true rfl⟩) ⟨fun a U g mk q => ⟨q.1, q.2.1, q.2.2.call⟩, tc_rcv hW.1.o hK rfl, fun U hU hW9 => ⟨rfl, by rw [hU]; exact hW.1, ((hKX.go hS hU hW9).narrow (fun z9 h9 => h9.1) (by rw [hU]; exact hW.newA (fun z9 h9 => by exact hAn z9 (Nat.le_trans hS.1 h9))))⟩⟩ rfl rfl hl.1 rfl (lv_room (Nat.le_of_ble_eq_true rfl)) dX3_isSame_534 ⟨(by show _ ≤ (1593 : Nat); omega), (by show _ ≤ (9366 : Nat); omega)⟩) hS (fun z9 _ h9 => h9.1) (fun z9 h9 => h9.1) (fun z9 _ h9 => h9.1) (fun ce q9 H locs c9 _ _ _ _ _ _ _ => absurd rfl c9) (fun H locs _ hB z1 o1 hS => ?_)
            have hW := hW.afterC hB o1
            refine lv_aload_n hx hb dX3_isSame_537 rfl (lv_at hl 6 rfl) ?_
            refine tc_get (v := .ref (F50 4)) hx hb hts hinX3 hown hK (hW.2.1.o) (C := RX3) (T := TX3) (N := 6) rfl 5 (by decide) (hts (.fieldLink RX3 22 "TreadCranesLaw$Sim" "isBroken" "[Z") (List.mem_of_getElem? (i := 9) rfl)) (fun _ h9 => h9) rfl dX3_isSame_538 ?_
            refine lv_iload hx hb dX3_isSame_541 (lv_at hl 0 rfl) ?_
            obtain ⟨g54, hF⟩ := tc_ob hF
            refine tc_zald2 (j := w48.toNatClampNeg) (rfl) hx hb hKS hW.2.1.b 1 rfl g54 dX3_isSame_543 ?_
            obtain ⟨kc58, ekc58, hF⟩ := tc_jx hF
            have Jkc58 : ∀ (w55 : Int32) (E56 F57 : Nat → Nat) (H : Heap) (locs : List Loc) (ls : Array Slot), kc58 w55 = some 1 → lv_has ls 13 [(6, .int w48), (5, .int w14), (4, .int w6), (3, .int w15), (2, .int w7), (1, .ref (E56 0)), (0, .ref (F57 0))] → tc_WL D cU cO cI cII cZ e0 A E56 F57 x z H → E56 0 = E 0 ∧ F57 0 = F 0 → va_S A s.heap H locs → W p l e ({ frames := 8, cells := 1593, slots := 9366, locals := 151 } : Room) s m (([.ref (F 0), .ref (E 0)] : List Value).toArray) below meth c H locs ((1420) + (41 - (n_520 + 1)) * 4 + 1) ((8327) + (41 - (n_520 + 1)) * 24 + 6) QQ (F0 m 552 ls [.int w55, .int r52]) := by
              intro w55 E56 F57 H locs ls hF hl hW hEF hS
              rw [ekc58] at hF
              dsimp only at hF
              refine lv_icmp_ne (tgt := 597) hx hb dX3_isSame_552 (by decide) (fun c59 => ?_) (fun c59 => ?_)
              · have hF := tc_if hF c59
                cases hF
              · have hF := tc_it hF c59
                refine lv_aload_n hx hb dX3_isSame_555 rfl (lv_at hl 6 rfl) ?_
                refine tc_get (v := .ref (F57 4)) hx hb hts hinX3 hown hK (hW.2.1.o) (C := RX3) (T := TX3) (N := 6) rfl 5 (by decide) (hts (.fieldLink RX3 22 "TreadCranesLaw$Sim" "isBroken" "[Z") (List.mem_of_getElem? (i := 9) rfl)) (fun _ h9 => h9) rfl dX3_isSame_556 ?_
                refine lv_iload hx hb dX3_isSame_559 (lv_at hl 0 rfl) ?_
                refine tc_zald2 (j := w48.toNatClampNeg) (rfl) hx hb hKS hW.2.1.b 1 rfl g54 dX3_isSame_561 ?_
                obtain ⟨kc62, ekc62, hF⟩ := tc_jx hF
                have Jkc62 : ∀  (E60 F61 : Nat → Nat) (H : Heap) (locs : List Loc) (ls : Array Slot), kc62  = some 1 → lv_has ls 13 [(6, .int w48), (5, .int w14), (4, .int w6), (3, .int w15), (2, .int w7), (1, .ref (E60 0)), (0, .ref (F61 0))] → tc_WL D cU cO cI cII cZ e0 A E60 F61 x z H → E60 0 = E 0 ∧ F61 0 = F 0 → va_S A s.heap H locs → W p l e ({ frames := 8, cells := 1593, slots := 9366, locals := 151 } : Room) s m (([.ref (F 0), .ref (E 0)] : List Value).toArray) below meth c H locs ((1420) + (41 - (n_520 + 1)) * 4 + 4) ((8327) + (41 - (n_520 + 1)) * 24 + 24) QQ (F0 m 599 ls []) := by
                  intro  E60 F61 H locs ls hF hl hW hEF hS
                  rw [ekc62] at hF
                  obtain ⟨v63, ev63⟩ : ∃ z9 : Int32, z9 = w48 + 1 := ⟨_, rfl⟩
                  have hF := tc_lt hF ev63
                  refine lv_iinc (v := v63) (lv' := [(6, .int v63), (5, .int w14), (4, .int w6), (3, .int w15), (2, .int w7), (1, .ref (E60 0)), (0, .ref (F61 0))]) hx hb dX3_isSame_599 hl (k := 0) rfl (by rw [ev63]; rfl) (by decide) rfl (fun ls hl => ?_)
                  refine lv_goto (tgt := 520) hx hb dX3_isSame_602 (by decide) ?_
                  refine W.widen (k := (1420) + (41 - n_520) * 4 + 0) (n := (8327) + (41 - n_520) * 24 + 0) (by omega) (by omega) ?_
                  exact ih_520 (Nat.le_of_succ_le hn_520) v63 E60 F61 _ _ _ hF (lv_sub hl [0, 1, 2, 3, 4, 5, 6] rfl) hW hEF hS
                refine lv_if_eq (tgt := 599) hx hb dX3_isSame_562 (by decide) (fun c64 => ?_) (fun c64 => ?_)
                · have hF := tc_it hF c64
                  refine W.widen (k := (1420) + (41 - (n_520 + 1)) * 4 + 4) (n := (8327) + (41 - (n_520 + 1)) * 24 + 24) (by omega) (by omega) ?_
                  exact Jkc62  E56 F57 _ _ _ hF (lv_sub hl [0, 1, 2, 3, 4, 5, 6] rfl) hW hEF hS
                · have hF := tc_if hF c64
                  refine lv_aload_n hx hb dX3_isSame_565 rfl (lv_at hl 5 rfl) ?_
                  refine lv_iload hx hb dX3_isSame_566 (lv_at hl 0 rfl) ?_
                  refine lv_iconst (v := 1) hx hb dX3_isSame_568 (by decide) ?_
                  obtain ⟨r65, h66, hF⟩ := tc_bi hF
                  have h66 := tc_rdx h66
                  refine tc_cx (vx_runV (As := [.int w48, .int 1]) (rest := []) ⟨hx, hb, hml, hown, hts⟩ (mt_X2_barrel l hst D cU cO cI e0 (tc_A1 A F57 z) E56 x w48 1 0 r65 h66) (cwV 2 hts gX3_isSame_X2_barrel rfl rfl rfl (by decide +kernel) ⟨Nat.le_of_ble_eq_true rfl, Nat.le_of_ble_eq_true rfl⟩) ⟨fun a U g mk q => ⟨q.1, q.2.1, q.2.2.call⟩, tc_rcv hW.1.o hK rfl, fun U hU hW9 => ⟨rfl, by rw [hU]; exact hW.1, ((hKX.go hS hU hW9).narrow (fun z9 h9 => h9.1) (by rw [hU]; exact hW.newA (fun z9 h9 => by exact hAn z9 (Nat.le_trans hS.1 h9))))⟩⟩ rfl rfl hl.1 rfl (lv_room (Nat.le_of_ble_eq_true rfl)) dX3_isSame_569 ⟨(by show _ ≤ (1593 : Nat); omega), (by show _ ≤ (9366 : Nat); omega)⟩) hS (fun z9 _ h9 => h9.1) (fun z9 h9 => h9.1) (fun z9 _ h9 => h9.1) (fun ce q9 H locs c9 _ _ _ _ _ _ _ => absurd rfl c9) (fun H locs _ hB z1 o1 hS => ?_)
                  have hW := hW.afterC hB o1
                  refine lv_iconst (v := (-1)) hx hb dX3_isSame_572 (by decide) ?_
                  refine lv_icmp_ne (tgt := 597) hx hb dX3_isSame_573 (by decide) (fun c67 => ?_) (fun c67 => ?_)
                  · have hF := tc_if hF c67
                    cases hF
                  · have hF := tc_it hF c67
                    refine lv_aload_n hx hb dX3_isSame_576 rfl (lv_at hl 5 rfl) ?_
                    refine lv_iload hx hb dX3_isSame_577 (lv_at hl 0 rfl) ?_
                    refine lv_iconst (v := 2) hx hb dX3_isSame_579 (by decide) ?_
                    obtain ⟨r68, h69, hF⟩ := tc_bi hF
                    have h69 := tc_rdx h69
                    refine tc_cx (vx_runV (As := [.int w48, .int 2]) (rest := []) ⟨hx, hb, hml, hown, hts⟩ (mt_X2_barrel l hst D cU cO cI e0 (tc_A1 A F57 z) E56 x w48 2 0 r68 h69) (cwV 2 hts gX3_isSame_X2_barrel rfl rfl rfl (by decide +kernel) ⟨Nat.le_of_ble_eq_true rfl, Nat.le_of_ble_eq_true rfl⟩) ⟨fun a U g mk q => ⟨q.1, q.2.1, q.2.2.call⟩, tc_rcv hW.1.o hK rfl, fun U hU hW9 => ⟨rfl, by rw [hU]; exact hW.1, ((hKX.go hS hU hW9).narrow (fun z9 h9 => h9.1) (by rw [hU]; exact hW.newA (fun z9 h9 => by exact hAn z9 (Nat.le_trans hS.1 h9))))⟩⟩ rfl rfl hl.1 rfl (lv_room (Nat.le_of_ble_eq_true rfl)) dX3_isSame_580 ⟨(by show _ ≤ (1593 : Nat); omega), (by show _ ≤ (9366 : Nat); omega)⟩) hS (fun z9 _ h9 => h9.1) (fun z9 h9 => h9.1) (fun z9 _ h9 => h9.1) (fun ce q9 H locs c9 _ _ _ _ _ _ _ => absurd rfl c9) (fun H locs _ hB z1 o1 hS => ?_)
                    have hW := hW.afterC hB o1
                    refine lv_if_ne (tgt := 597) hx hb dX3_isSame_583 (by decide) (fun c70 => ?_) (fun c70 => ?_)
                    · have hF := tc_if hF c70
                      cases hF
                    · have hF := tc_it hF c70
                      refine lv_aload_n hx hb dX3_isSame_586 rfl (lv_at hl 5 rfl) ?_
                      refine lv_iload hx hb dX3_isSame_587 (lv_at hl 0 rfl) ?_
                      refine lv_iconst (v := 3) hx hb dX3_isSame_589 (by decide) ?_
                      obtain ⟨r71, h72, hF⟩ := tc_bi hF
                      have h72 := tc_rdx h72
                      refine tc_cx (vx_runV (As := [.int w48, .int 3]) (rest := []) ⟨hx, hb, hml, hown, hts⟩ (mt_X2_barrel l hst D cU cO cI e0 (tc_A1 A F57 z) E56 x w48 3 0 r71 h72) (cwV 2 hts gX3_isSame_X2_barrel rfl rfl rfl (by decide +kernel) ⟨Nat.le_of_ble_eq_true rfl, Nat.le_of_ble_eq_true rfl⟩) ⟨fun a U g mk q => ⟨q.1, q.2.1, q.2.2.call⟩, tc_rcv hW.1.o hK rfl, fun U hU hW9 => ⟨rfl, by rw [hU]; exact hW.1, ((hKX.go hS hU hW9).narrow (fun z9 h9 => h9.1) (by rw [hU]; exact hW.newA (fun z9 h9 => by exact hAn z9 (Nat.le_trans hS.1 h9))))⟩⟩ rfl rfl hl.1 rfl (lv_room (Nat.le_of_ble_eq_true rfl)) dX3_isSame_590 ⟨(by show _ ≤ (1593 : Nat); omega), (by show _ ≤ (9366 : Nat); omega)⟩) hS (fun z9 _ h9 => h9.1) (fun z9 h9 => h9.1) (fun z9 _ h9 => h9.1) (fun ce q9 H locs c9 _ _ _ _ _ _ _ => absurd rfl c9) (fun H locs _ hB z1 o1 hS => ?_)
                      have hW := hW.afterC hB o1
                      refine lv_iconst (v := (-1)) hx hb dX3_isSame_593 (by decide) ?_
                      refine lv_icmp_eq (tgt := 599) hx hb dX3_isSame_594 (by decide) (fun c73 => ?_) (fun c73 => ?_)
                      · have hF := tc_it hF c73
                        exact Jkc62  E56 F57 _ _ _ hF (lv_sub hl [0, 1, 2, 3, 4, 5, 6] rfl) hW hEF hS
                      · have hF := tc_if hF c73
                        cases hF
            refine lv_if_eq (tgt := 551) hx hb dX3_isSame_544 (by decide) (fun c74 => ?_) (fun c74 => ?_)
            · have hF := tc_it hF c74
              refine lv_iconst (v := 0) hx hb dX3_isSame_551 (by decide) ?_
              exact Jkc58 0 E49 F50 _ _ _ hF (lv_sub hl [0, 1, 2, 3, 4, 5, 6] rfl) hW hEF hS
            · have hF := tc_if hF c74
              refine lv_iconst (v := 1) hx hb dX3_isSame_547 (by decide) ?_
              refine lv_goto (tgt := 552) hx hb dX3_isSame_548 (by decide) ?_
              exact Jkc58 1 E49 F50 _ _ _ hF (lv_sub hl [0, 1, 2, 3, 4, 5, 6] rfl) hW hEF hS
      refine W.widen (k := (1420) + (41 - 41) * 4 + 0) (n := (8327) + (41 - 41) * 24 + 0) (by omega) (by omega) ?_
      exact hL_520 41 (Nat.le_refl _) 0 E16 F17 _ _ _ hF (lv_sub hl [0, 1, 2, 3, 4, 5, 6] rfl) hW hEF hS
    have hL_339 : ∀ (n_339 : Nat) (hn_339 : n_339 ≤ 6) (w75 : Int32) (w76 : Int32) (w77 : Int32) (E78 F79 : Nat → Nat) (H : Heap) (locs : List Loc) (ls : Array Slot), lp_S_isSame_339 n_339 x z kc18 w75 w76 w77 = some 1 → lv_has ls 13 [(6, .int w75), (5, .int w76), (4, .int w6), (3, .int w77), (2, .int w7), (1, .ref (E78 0)), (0, .ref (F79 0))] → tc_WL D cU cO cI cII cZ e0 A E78 F79 x z H → E78 0 = E 0 ∧ F79 0 = F 0 → va_S A s.heap H locs → W p l e ({ frames := 8, cells := 1593, slots := 9366, locals := 151 } : Room) s m (([.ref (F 0), .ref (E 0)] : List Value).toArray) below meth c H locs ((1258) + (6 - n_339) * 27 + 0) ((7361) + (6 - n_339) * 161 + 0) QQ (F0 m 339 ls []) := by
      intro n_339
      induction n_339 with
      | zero => intro _; intro w75 w76 w77 E78 F79 H locs ls hF hl hW hEF hS; rw [lp_S_isSame_339] at hF; cases hF
      | succ n_339 ih_339 =>
        intro hn_339
        intro w75 w76 w77 E78 F79 H locs ls hF hl hW hEF hS
        rw [lp_S_isSame_339] at hF
        refine lv_iload hx hb dX3_isSame_339 (lv_at hl 0 rfl) ?_
        refine lv_aload_n hx hb dX3_isSame_341 rfl (lv_at hl 6 rfl) ?_
        refine tc_get (v := .ref (F79 3)) hx hb hts hinX3 hown hK (hW.2.1.o) (C := RX3) (T := TX3) (N := 6) rfl 4 (by decide) (hts (.fieldLink RX3 19 "TreadCranesLaw$Sim" "cranes" "[[I") (List.mem_of_getElem? (i := 4) rfl)) (fun _ h9 => h9) rfl dX3_isSame_342 ?_
        refine tc_alen (v := nI (tc_zn z)) hx hb hKS hW.2.1.c 0 rfl rfl dX3_isSame_345 ?_
        refine lv_icmp_ge (tgt := 517) hx hb dX3_isSame_346 (by decide) (fun c80 => ?_) (fun c80 => ?_)
        · have hF := tc_it hF c80
          refine W.widen (k := 1420) (n := 8327) (by omega) (by omega) ?_
          exact Jkc18 w76 w77 E78 F79 _ _ _ hF (lv_sub hl [1, 2, 3, 4, 5, 6] rfl) hW hEF hS
        · have hF := tc_if hF c80
          refine lv_aload_n hx hb dX3_isSame_349 rfl (lv_at hl 6 rfl) ?_
          refine tc_get (v := .ref (F79 3)) hx hb hts hinX3 hown hK (hW.2.1.o) (C := RX3) (T := TX3) (N := 6) rfl 4 (by decide) (hts (.fieldLink RX3 19 "TreadCranesLaw$Sim" "cranes" "[[I") (List.mem_of_getElem? (i := 4) rfl)) (fun _ h9 => h9) rfl dX3_isSame_350 ?_
          refine lv_iload hx hb dX3_isSame_353 (lv_at hl 0 rfl) ?_
          obtain ⟨g81, hF⟩ := tc_ob hF
          refine tc_aaldA2 (q := F79 (21 + w75.toNatClampNeg)) (j := w75.toNatClampNeg) (rfl) hx hb hKS hW.2.1.c 0 rfl g81 dX3_isSame_355 rfl ?_
          refine lv_astore (lv' := [(7, .ref (F79 (21 + w75.toNatClampNeg))), (6, .int w75), (5, .int w76), (4, .int w6), (3, .int w77), (2, .int w7), (1, .ref (E78 0)), (0, .ref (F79 0))]) hx hb dX3_isSame_356 hl (by decide) rfl (fun ls hl => ?_)
          refine lv_iconst (v := 0) hx hb dX3_isSame_358 (by decide) ?_
          refine lv_istore (lv' := [(8, .int 0), (7, .ref (F79 (21 + w75.toNatClampNeg))), (6, .int w75), (5, .int w76), (4, .int w6), (3, .int w77), (2, .int w7), (1, .ref (E78 0)), (0, .ref (F79 0))]) hx hb dX3_isSame_359 hl (by decide) rfl (fun ls hl => ?_)
          obtain ⟨kc85, ekc85, hF⟩ := tc_jx hF
          have Jkc85 : ∀  (E83 F84 : Nat → Nat) (H : Heap) (locs : List Loc) (ls : Array Slot), kc85  = some 1 → lv_has ls 13 [(7, .ref (F84 (21 + w75.toNatClampNeg))), (6, .int w75), (5, .int w76), (4, .int w6), (3, .int w77), (2, .int w7), (1, .ref (E83 0)), (0, .ref (F84 0))] → tc_WL D cU cO cI cII cZ e0 A E83 F84 x z H → E83 0 = E 0 ∧ F84 0 = F 0 → va_S A s.heap H locs → W p l e ({ frames := 8, cells := 1593, slots := 9366, locals := 151 } : Room) s m (([.ref (F 0), .ref (E 0)] : List Value).toArray) below meth c H locs ((1258) + (6 - (n_339 + 1)) * 27 + 18) ((7361) + (6 - (n_339 + 1)) * 161 + 108) QQ (F0 m 392 ls []) := by
            intro  E83 F84 H locs ls hF hl hW hEF hS
            rw [ekc85] at hF
            refine lv_aload_n hx hb dX3_isSame_392 rfl (lv_at hl 6 rfl) ?_
            refine lv_iload hx hb dX3_isSame_393 (lv_at hl 1 rfl) ?_
            refine lv_bipush (v := 8) hx hb dX3_isSame_395 (by decide) ?_
            obtain ⟨r86, h87, hF⟩ := tc_bi hF
            have h87 := tc_rdx h87
            refine tc_cx (vx_runV (As := [.int w75, .int 8]) (rest := []) ⟨hx, hb, hml, hown, hts⟩ (mt_X2_crane l hst D cU cO cI e0 (tc_A1 A F84 z) E83 x w75 8 0 r86 h87) (cwV 2 hts gX3_isSame_X2_crane rfl rfl rfl (by decide +kernel) ⟨Nat.le_of_ble_eq_true rfl, Nat.le_of_ble_eq_true rfl⟩) ⟨fun a U g mk q => ⟨q.1, q.2.1, q.2.2.call⟩, tc_rcv hW.1.o hK rfl, fun U hU hW9 => ⟨rfl, by rw [hU]; exact hW.1, ((hKX.go hS hU hW9).narrow (fun z9 h9 => h9.1) (by rw [hU]; exact hW.newA (fun z9 h9 => by exact hAn z9 (Nat.le_trans hS.1 h9))))⟩⟩ rfl rfl hl.1 rfl (lv_room (Nat.le_of_ble_eq_true rfl)) dX3_isSame_397 ⟨(by show _ ≤ (1593 : Nat); omega), (by show _ ≤ (9366 : Nat); omega)⟩) hS (fun z9 _ h9 => h9.1) (fun z9 h9 => h9.1) (fun z9 _ h9 => h9.1) (fun ce q9 H locs c9 _ _ _ _ _ _ _ => absurd rfl c9) (fun H locs _ hB z1 o1 hS => ?_)
            have hW := hW.afterC hB o1
            refine lv_aload_n hx hb dX3_isSame_400 rfl (lv_at hl 7 rfl) ?_
            refine lv_aload hx hb dX3_isSame_401 (lv_at hl 0 rfl) ?_
            obtain ⟨r88, h89, hF⟩ := tc_bi hF
            refine tc_cr (W.runV (As := [.ref (F84 (21 + w75.toNatClampNeg))]) (rest := [.int r86]) ⟨hx, hb, hml, hown, hts⟩ (mt_X3_strong l D cU cO cI (F84 0) (F84 (21 + w75.toNatClampNeg)) (tc_zl z (21 + w75.toNatClampNeg)) (tc_zf z (21 + w75.toNatClampNeg))  r88 h89) (cwV 1 hts gX3_isSame_X3_strong rfl rfl rfl (by decide +kernel) ⟨Nat.le_of_ble_eq_true rfl, Nat.le_of_ble_eq_true rfl⟩) ⟨fun a U g mk q => ⟨q.1, q.2.1, va_K.moved (Vm.Alike.refl U.vm) q.2.2⟩, tc_rcv hW.2.1.o hK rfl, fun U hU hW9 => ⟨rfl, by rw [hU]; exact (hW.2.1.r (tc_isrK (show ¬ w75 < 0 ∧ w75.toNatClampNeg < tc_zn z from g81).2)), va_K.moved hW9.alike hK⟩⟩ rfl rfl hl.1 rfl (lv_room (Nat.le_of_ble_eq_true rfl)) dX3_isSame_403 ⟨(by show _ ≤ (1593 : Nat); omega), (by show _ ≤ (9366 : Nat); omega)⟩) ?_
            refine lv_icmp_eq (tgt := 411) hx hb dX3_isSame_406 (by decide) (fun c90 => ?_) (fun c90 => ?_)
            · have hF := tc_it hF c90
              refine lv_aload hx hb dX3_isSame_411 (lv_at hl 0 rfl) ?_
              refine lv_bipush (v := 7) hx hb dX3_isSame_413 (by decide) ?_
              obtain ⟨g91, hF⟩ := tc_ob hF
              refine tc_iald2 (j := 7) (by decide) hx hb hK (hW.2.1.r (tc_isrK (show ¬ w75 < 0 ∧ w75.toNatClampNeg < tc_zn z from g81).2)) 2 rfl ⟨by decide, g91⟩ dX3_isSame_415 ?_
              obtain ⟨kc96, ekc96, hF⟩ := tc_jx hF
              have Jkc96 : ∀ (w92 : Int32) (w93 : Int32) (E94 F95 : Nat → Nat) (H : Heap) (locs : List Loc) (ls : Array Slot), kc96 w92 w93 = some 1 → lv_has ls 13 [(6, .int w75), (5, .int w92), (4, .int w6), (3, .int w93), (2, .int w7), (1, .ref (E94 0)), (0, .ref (F95 0))] → tc_WL D cU cO cI cII cZ e0 A E94 F95 x z H → E94 0 = E 0 ∧ F95 0 = F 0 → va_S A s.heap H locs → W p l e ({ frames := 8, cells := 1593, slots := 9366, locals := 151 } : Room) s m (([.ref (F 0), .ref (E 0)] : List Value).toArray) below meth c H locs ((1258) + (6 - (n_339 + 1)) * 27 + 27) ((7361) + (6 - (n_339 + 1)) * 161 + 161) QQ (F0 m 511 ls []) := by
                intro w92 w93 E94 F95 H locs ls hF hl hW hEF hS
                rw [ekc96] at hF
                dsimp only at hF
                obtain ⟨v97, ev97⟩ : ∃ z9 : Int32, z9 = w75 + 1 := ⟨_, rfl⟩
                have hF := tc_lt hF ev97
                refine lv_iinc (v := v97) (lv' := [(6, .int v97), (5, .int w92), (4, .int w6), (3, .int w93), (2, .int w7), (1, .ref (E94 0)), (0, .ref (F95 0))]) hx hb dX3_isSame_511 hl (k := 0) rfl (by rw [ev97]; rfl) (by decide) rfl (fun ls hl => ?_)
                refine lv_goto (tgt := 339) hx hb dX3_isSame_514 (by decide) ?_
                refine W.widen (k := (1258) + (6 - n_339) * 27 + 0) (n := (7361) + (6 - n_339) * 161 + 0) (by omega) (by omega) ?_
                exact ih_339 (Nat.le_of_succ_le hn_339) v97 w92 w93 E94 F95 _ _ _ hF (lv_sub hl [0, 1, 2, 3, 4, 5, 6] rfl) hW hEF hS
              refine lv_if_ge (tgt := 422) hx hb dX3_isSame_416 (by decide) (fun c98 => ?_) (fun c98 => ?_)
              · have hF := tc_it hF c98
                obtain ⟨v99, ev99⟩ : ∃ z9 : Int32, z9 = w77 + 1 := ⟨_, rfl⟩
                have hF := tc_lt hF ev99
                refine lv_iinc (v := v99) (lv' := [(3, .int v99), (7, .ref (F84 (21 + w75.toNatClampNeg))), (6, .int w75), (5, .int w76), (4, .int w6), (2, .int w7), (1, .ref (E83 0)), (0, .ref (F84 0))]) hx hb dX3_isSame_422 hl (k := 4) rfl (by rw [ev99]; rfl) (by decide) rfl (fun ls hl => ?_)
                refine lv_iload hx hb dX3_isSame_425 (lv_at hl 3 rfl) ?_
                refine lv_aload_n hx hb dX3_isSame_427 rfl (lv_at hl 7 rfl) ?_
                refine tc_get (v := .ref (F84 2)) hx hb hts hinX3 hown hK (hW.2.1.o) (C := RX3) (T := TX3) (N := 6) rfl 3 (by decide) (hts (.fieldLink RX3 14 "TreadCranesLaw$Sim" "weights" "[I") (List.mem_of_getElem? (i := 2) rfl)) (fun _ h9 => h9) rfl dX3_isSame_428 ?_
                refine lv_aload hx hb dX3_isSame_431 (lv_at hl 1 rfl) ?_
                refine lv_bipush (v := 7) hx hb dX3_isSame_433 (by decide) ?_
                refine tc_iald2 (j := 7) (by decide) hx hb hK (hW.2.1.r (tc_isrK (show ¬ w75 < 0 ∧ w75.toNatClampNeg < tc_zn z from g81).2)) 2 rfl ⟨by decide, g91⟩ dX3_isSame_435 ?_
                obtain ⟨g100, hF⟩ := tc_ob hF
                refine tc_iald2 (j := (tc_zf z (21 + w75.toNatClampNeg) 7).toNatClampNeg) (rfl) hx hb hK (hW.2.1.r tc_isrW) 2 rfl g100 dX3_isSame_436 ?_
                refine lv_iadd hx hb dX3_isSame_437 ?_
                refine lv_topi (fun v101 ev101 => ?_)
                have hF := tc_lt hF ev101
                refine lv_istore (lv' := [(5, .int v101), (3, .int v99), (7, .ref (F84 (21 + w75.toNatClampNeg))), (6, .int w75), (4, .int w6), (2, .int w7), (1, .ref (E83 0)), (0, .ref (F84 0))]) hx hb dX3_isSame_438 hl (by decide) rfl (fun ls hl => ?_)
                refine lv_iconst (v := 5) hx hb dX3_isSame_440 (by decide) ?_
                refine tc_newI (n := 5) (N := 5) hx hb (hts (.arrayClass .int) (List.mem_of_getElem? (i := 3) rfl)) hS hK hA0 (by decide) (by decide) (Nat.le_of_ble_eq_true rfl) (by show _ ≤ (1593 : Nat); omega) (by show _ ≤ (9366 : Nat); omega) dX3_isSame_441 2 rfl (fun q102 H hq_q102 ho_q102 et_q102 z1 o1 hS => ?_)
                obtain ⟨u103, eu103⟩ : ∃ z9 : Nat → Int32, z9 = fun _ : Nat => (0 : Int32) := ⟨_, rfl⟩
                have hF := tc_lt hF eu103
                rw [← eu103] at et_q102
                have hnc_q102 := hW.neE hq_q102
                have hnf_q102 := hW.neF hq_q102
                have hW := hW.grown o1
                obtain ⟨A104, eA104⟩ : ∃ A9 : Nat → Prop, A9 = fun z9 => A z9 ∧ z9 ≠ q102 := ⟨_, rfl⟩
                have hA104A : ∀ z9, A104 z9 → A z9 := fun z9 h9 => by rw [eA104] at h9; exact h9.1
                have hW := hW.reA (A' := A104) (fun j hj => by rw [eA104]; exact ⟨(hW.1.own hj).1, hnc_q102 j hj⟩) (fun i hi => by rw [eA104]; exact ⟨hW.2.1.own hi, hnf_q102 i hi⟩) (fun h9 => hW.2.2 (by rw [eA104] at h9; exact h9.1))
                have heA104 := hW.2.2
                have hx_q102 : ¬ A104 q102 := fun h9 => by rw [eA104] at h9; exact h9.2 rfl
                refine lv_dup hx hb dX3_isSame_443 rfl ?_
                refine lv_iconst (v := 0) hx hb dX3_isSame_444 (by decide) ?_
                refine lv_aload_n hx hb dX3_isSame_445 rfl (lv_at hl 7 rfl) ?_
                refine tc_get (v := .ref (F84 2)) hx hb hts hinX3 hown hK (hW.2.1.o) (C := RX3) (T := TX3) (N := 6) rfl 3 (by decide) (hts (.fieldLink RX3 14 "TreadCranesLaw$Sim" "weights" "[I") (List.mem_of_getElem? (i := 2) rfl)) (fun _ h9 => h9) rfl dX3_isSame_446 ?_
                refine lv_aload hx hb dX3_isSame_449 (lv_at hl 2 rfl) ?_
                refine lv_bipush (v := 7) hx hb dX3_isSame_451 (by decide) ?_
                refine tc_iald2 (j := 7) (by decide) hx hb hK (hW.2.1.r (tc_isrK (show ¬ w75 < 0 ∧ w75.toNatClampNeg < tc_zn z from g81).2)) 2 rfl ⟨by decide, g91⟩ dX3_isSame_453 ?_
                refine tc_iald2 (j := (tc_zf z (21 + w75.toNatClampNeg) 7).toNatClampNeg) (rfl) hx hb hK (hW.2.1.r tc_isrW) 2 rfl g100 dX3_isSame_454 ?_
                refine tc_iast2 (j := 0) (by decide) hx hb hK et_q102 hS ho_q102 2 rfl ⟨by decide, by decide⟩ dX3_isSame_455 (fun H locs e1 z1 o1 hS => ?_)
                have hW := hW.tmp hx_q102 o1
                have et_q102 := e1
                obtain ⟨u105, eu105⟩ : ∃ z9 : Nat → Int32, z9 = upd u103 0 (tc_zf z 2 (tc_zf z (21 + w75.toNatClampNeg) 7).toNatClampNeg) := ⟨_, rfl⟩
                have hF := tc_lt hF eu105
                rw [← eu105] at et_q102
                refine lv_dup hx hb dX3_isSame_456 rfl ?_
                refine lv_iconst (v := 1) hx hb dX3_isSame_457 (by decide) ?_
                refine lv_iconst (v := (-1)) hx hb dX3_isSame_458 (by decide) ?_
                refine tc_iast2 (j := 1) (by decide) hx hb hK et_q102 hS ho_q102 2 rfl ⟨by decide, by decide⟩ dX3_isSame_459 (fun H locs e1 z1 o1 hS => ?_)
                have hW := hW.tmp hx_q102 o1
                have et_q102 := e1
                obtain ⟨u106, eu106⟩ : ∃ z9 : Nat → Int32, z9 = upd u105 1 (-1) := ⟨_, rfl⟩
                have hF := tc_lt hF eu106
                rw [← eu106] at et_q102
                refine lv_dup hx hb dX3_isSame_460 rfl ?_
                refine lv_iconst (v := 2) hx hb dX3_isSame_461 (by decide) ?_
                refine lv_iconst (v := 0) hx hb dX3_isSame_462 (by decide) ?_
                refine tc_iast2 (j := 2) (by decide) hx hb hK et_q102 hS ho_q102 2 rfl ⟨by decide, by decide⟩ dX3_isSame_463 (fun H locs e1 z1 o1 hS => ?_)
                have hW := hW.tmp hx_q102 o1
                have et_q102 := e1
                obtain ⟨u107, eu107⟩ : ∃ z9 : Nat → Int32, z9 = upd u106 2 0 := ⟨_, rfl⟩
                have hF := tc_lt hF eu107
                rw [← eu107] at et_q102
                refine lv_dup hx hb dX3_isSame_464 rfl ?_
                refine lv_iconst (v := 3) hx hb dX3_isSame_465 (by decide) ?_
                refine lv_iload hx hb dX3_isSame_466 (lv_at hl 3 rfl) ?_
                refine tc_iast2 (j := 3) (by decide) hx hb hK et_q102 hS ho_q102 2 rfl ⟨by decide, by decide⟩ dX3_isSame_468 (fun H locs e1 z1 o1 hS => ?_)
                have hW := hW.tmp hx_q102 o1
                have et_q102 := e1
                obtain ⟨u108, eu108⟩ : ∃ z9 : Nat → Int32, z9 = upd u107 3 w75 := ⟨_, rfl⟩
                have hF := tc_lt hF eu108
                rw [← eu108] at et_q102
                refine lv_dup hx hb dX3_isSame_469 rfl ?_
                refine lv_iconst (v := 4) hx hb dX3_isSame_470 (by decide) ?_
                refine lv_iconst (v := 0) hx hb dX3_isSame_471 (by decide) ?_
                refine tc_iast2 (j := 4) (by decide) hx hb hK et_q102 hS ho_q102 2 rfl ⟨by decide, by decide⟩ dX3_isSame_472 (fun H locs e1 z1 o1 hS => ?_)
                have hW := hW.tmp hx_q102 o1
                have et_q102 := e1
                obtain ⟨u109, eu109⟩ : ∃ z9 : Nat → Int32, z9 = upd u108 4 0 := ⟨_, rfl⟩
                have hF := tc_lt hF eu109
                rw [← eu109] at et_q102
                refine lv_astore (lv' := [(8, .ref q102), (5, .int v101), (3, .int v99), (7, .ref (F84 (21 + w75.toNatClampNeg))), (6, .int w75), (4, .int w6), (2, .int w7), (1, .ref (E83 0)), (0, .ref (F84 0))]) hx hb dX3_isSame_473 hl (by decide) rfl (fun ls hl => ?_)
                refine lv_iconst (v := 0) hx hb dX3_isSame_475 (by decide) ?_
                refine lv_istore (lv' := [(9, .int 0), (8, .ref q102), (5, .int v101), (3, .int v99), (7, .ref (F84 (21 + w75.toNatClampNeg))), (6, .int w75), (4, .int w6), (2, .int w7), (1, .ref (E83 0)), (0, .ref (F84 0))]) hx hb dX3_isSame_476 hl (by decide) rfl (fun ls hl => ?_)
                have hL_478 : ∀ (n_478 : Nat) (hn_478 : n_478 ≤ 6) (w110 : Int32) (E111 F112 : Nat → Nat) (H : Heap) (locs : List Loc) (ls : Array Slot), lp_S_isSame_478 n_478 x z w75 kc96 v99 v101 u109 w110 = some 1 → lv_has ls 13 [(9, .int w110), (8, .ref q102), (7, .ref (F112 (21 + w75.toNatClampNeg))), (6, .int w75), (5, .int v101), (4, .int w6), (3, .int v99), (2, .int w7), (1, .ref (E111 0)), (0, .ref (F112 0))] → tc_WL D cU cO cI cII cZ e0 A104 E111 F112 x z H → E111 0 = E 0 ∧ F112 0 = F 0 → va_at D vwCl (q102, .inl (cI, 5, .inl u109)) H → va_S A s.heap H locs → W p l e ({ frames := 8, cells := 1593, slots := 9366, locals := 151 } : Room) s m (([.ref (F 0), .ref (E 0)] : List Value).toArray) below meth c H locs (((1258) + (6 - (n_339 + 1)) * 27 + 21) + (6 - n_478) * 1 + 0) (((7361) + (6 - (n_339 + 1)) * 161 + 125) + (6 - n_478) * 6 + 0) QQ (F0 m 478 ls []) := by
                  intro n_478
                  induction n_478 with
                  | zero => intro _; intro w110 E111 F112 H locs ls hF hl hW hEF et_q102 hS; rw [lp_S_isSame_478] at hF; cases hF
                  | succ n_478 ih_478 =>
                    intro hn_478
                    intro w110 E111 F112 H locs ls hF hl hW hEF et_q102 hS
                    rw [lp_S_isSame_478] at hF
                    refine lv_iload hx hb dX3_isSame_478 (lv_at hl 0 rfl) ?_
                    refine lv_iconst (v := 5) hx hb dX3_isSame_480 (by decide) ?_
                    refine lv_icmp_ge (tgt := 511) hx hb dX3_isSame_481 (by decide) (fun c113 => ?_) (fun c113 => ?_)
                    · have hF := tc_it hF c113
                      have hW := hW.up hA104A heA
                      refine W.widen (k := (1258) + (6 - (n_339 + 1)) * 27 + 27) (n := (7361) + (6 - (n_339 + 1)) * 161 + 161) (by omega) (by omega) ?_
                      exact Jkc96 v101 v99 E111 F112 _ _ _ hF (lv_sub hl [3, 4, 5, 6, 7, 8, 9] rfl) hW hEF hS
                    · have hF := tc_if hF c113
                      refine lv_aload_n hx hb dX3_isSame_484 rfl (lv_at hl 8 rfl) ?_
                      refine lv_aload hx hb dX3_isSame_485 (lv_at hl 2 rfl) ?_
                      refine lv_bipush (v := 7) hx hb dX3_isSame_487 (by decide) ?_
                      refine tc_iald2 (j := 7) (by decide) hx hb hK (hW.2.1.r (tc_isrK (show ¬ w75 < 0 ∧ w75.toNatClampNeg < tc_zn z from g81).2)) 2 rfl ⟨by decide, g91⟩ dX3_isSame_489 ?_
                      refine lv_iload hx hb dX3_isSame_490 (lv_at hl 0 rfl) ?_
                      obtain ⟨r114, h115, hF⟩ := tc_bi hF
                      have h115 := tc_rdx h115
                      refine tc_cx (vx_runV (As := [.int (tc_zf z (21 + w75.toNatClampNeg) 7), .int w110]) (rest := []) ⟨hx, hb, hml, hown, hts⟩ (mt_X2_barrel l hst D cU cO cI e0 (tc_A1 A104 F112 z) E111 x (tc_zf z (21 + w75.toNatClampNeg) 7) w110 0 r114 h115) (cwV 2 hts gX3_isSame_X2_barrel rfl rfl rfl (by decide +kernel) ⟨Nat.le_of_ble_eq_true rfl, Nat.le_of_ble_eq_true rfl⟩) ⟨fun a U g mk q => ⟨q.1, q.2.1, q.2.2.call⟩, tc_rcv hW.1.o hK rfl, fun U hU hW9 => ⟨rfl, by rw [hU]; exact hW.1, ((hKX.go hS hU hW9).narrow (fun z9 h9 => hA104A _ (h9.1)) (by rw [hU]; exact hW.newA (fun z9 h9 => by rw [eA104]; exact ⟨hAn z9 (Nat.le_trans hS.1 h9), (fun h8 => absurd et_q102.lt (Nat.not_lt.mpr (by rw [← h8]; exact h9)))⟩)))⟩⟩ rfl rfl hl.1 rfl (lv_room (Nat.le_of_ble_eq_true rfl)) dX3_isSame_492 ⟨(by show _ ≤ (1593 : Nat); omega), (by show _ ≤ (9366 : Nat); omega)⟩) hS (fun z9 _ h9 => hA104A _ (h9.1)) (fun z9 h9 => hA104A _ (h9.1)) (fun z9 _ h9 => hA104A _ (h9.1)) (fun ce q9 H locs c9 _ _ _ _ _ _ _ => absurd rfl c9) (fun H locs _ hB z1 o1 hS => ?_)
                      have et_q102 := et_q102.kept (o1 _ et_q102.lt (fun h9 => hx_q102 h9.1))
                      have hW := hW.afterC hB o1
                      refine lv_aload hx hb dX3_isSame_495 (lv_at hl 1 rfl) ?_
                      refine lv_iload hx hb dX3_isSame_497 (lv_at hl 0 rfl) ?_
                      obtain ⟨g116, hF⟩ := tc_ob hF
                      refine tc_iald2 (j := w110.toNatClampNeg) (rfl) hx hb hK et_q102 2 rfl g116 dX3_isSame_499 ?_
                      refine lv_icmp_eq (tgt := 505) hx hb dX3_isSame_500 (by decide) (fun c117 => ?_) (fun c117 => ?_)
                      · have hF := tc_it hF c117
                        obtain ⟨v118, ev118⟩ : ∃ z9 : Int32, z9 = w110 + 1 := ⟨_, rfl⟩
                        have hF := tc_lt hF ev118
                        refine lv_iinc (v := v118) (lv' := [(9, .int v118), (8, .ref q102), (7, .ref (F112 (21 + w75.toNatClampNeg))), (6, .int w75), (5, .int v101), (4, .int w6), (3, .int v99), (2, .int w7), (1, .ref (E111 0)), (0, .ref (F112 0))]) hx hb dX3_isSame_505 hl (k := 0) rfl (by rw [ev118]; rfl) (by decide) rfl (fun ls hl => ?_)
                        refine lv_goto (tgt := 478) hx hb dX3_isSame_508 (by decide) ?_
                        refine W.widen (k := ((1258) + (6 - (n_339 + 1)) * 27 + 21) + (6 - n_478) * 1 + 0) (n := ((7361) + (6 - (n_339 + 1)) * 161 + 125) + (6 - n_478) * 6 + 0) (by omega) (by omega) ?_
                        exact ih_478 (Nat.le_of_succ_le hn_478) v118 E111 F112 _ _ _ hF (lv_sub hl [0, 1, 2, 3, 4, 5, 6, 7, 8, 9] rfl) hW hEF et_q102 hS
                      · have hF := tc_if hF c117
                        cases hF
                refine W.widen (k := ((1258) + (6 - (n_339 + 1)) * 27 + 21) + (6 - 6) * 1 + 0) (n := ((7361) + (6 - (n_339 + 1)) * 161 + 125) + (6 - 6) * 6 + 0) (by omega) (by omega) ?_
                exact hL_478 6 (Nat.le_refl _) 0 E83 F84 _ _ _ hF (lv_sub hl [0, 1, 4, 5, 2, 6, 3, 7, 8, 9] rfl) hW hEF et_q102 hS
              · have hF := tc_if hF c98
                refine lv_goto (tgt := 511) hx hb dX3_isSame_419 (by decide) ?_
                refine W.widen (k := (1258) + (6 - (n_339 + 1)) * 27 + 27) (n := (7361) + (6 - (n_339 + 1)) * 161 + 161) (by omega) (by omega) ?_
                exact Jkc96 w76 w77 E83 F84 _ _ _ hF (lv_sub hl [1, 2, 3, 4, 5, 6, 7] rfl) hW hEF hS
            · have hF := tc_if hF c90
              cases hF
          have hL_361 : ∀ (n_361 : Nat) (hn_361 : n_361 ≤ 9) (w119 : Int32) (E120 F121 : Nat → Nat) (H : Heap) (locs : List Loc) (ls : Array Slot), lp_S_isSame_361 n_361 x z w75 kc85 w119 = some 1 → lv_has ls 13 [(8, .int w119), (7, .ref (F121 (21 + w75.toNatClampNeg))), (6, .int w75), (5, .int w76), (4, .int w6), (3, .int w77), (2, .int w7), (1, .ref (E120 0)), (0, .ref (F121 0))] → tc_WL D cU cO cI cII cZ e0 A E120 F121 x z H → E120 0 = E 0 ∧ F121 0 = F 0 → va_S A s.heap H locs → W p l e ({ frames := 8, cells := 1593, slots := 9366, locals := 151 } : Room) s m (([.ref (F 0), .ref (E 0)] : List Value).toArray) below meth c H locs (((1258) + (6 - (n_339 + 1)) * 27 + 0) + (9 - n_361) * 2 + 0) (((7361) + (6 - (n_339 + 1)) * 161 + 0) + (9 - n_361) * 12 + 0) QQ (F0 m 361 ls []) := by
            intro n_361
            induction n_361 with
            | zero => intro _; intro w119 E120 F121 H locs ls hF hl hW hEF hS; rw [lp_S_isSame_361] at hF; cases hF
            | succ n_361 ih_361 =>
              intro hn_361
              intro w119 E120 F121 H locs ls hF hl hW hEF hS
              rw [lp_S_isSame_361] at hF
              refine lv_iload hx hb dX3_isSame_361 (lv_at hl 0 rfl) ?_
              refine lv_bipush (v := 8) hx hb dX3_isSame_363 (by decide) ?_
              refine lv_icmp_ge (tgt := 392) hx hb dX3_isSame_365 (by decide) (fun c122 => ?_) (fun c122 => ?_)
              · have hF := tc_it hF c122
                refine W.widen (k := (1258) + (6 - (n_339 + 1)) * 27 + 18) (n := (7361) + (6 - (n_339 + 1)) * 161 + 108) (by omega) (by omega) ?_
                exact Jkc85  E120 F121 _ _ _ hF (lv_sub hl [1, 2, 3, 4, 5, 6, 7, 8] rfl) hW hEF hS
              · have hF := tc_if hF c122
                refine lv_aload_n hx hb dX3_isSame_368 rfl (lv_at hl 7 rfl) ?_
                refine lv_iload hx hb dX3_isSame_369 (lv_at hl 2 rfl) ?_
                refine lv_iload hx hb dX3_isSame_371 (lv_at hl 0 rfl) ?_
                obtain ⟨r123, h124, hF⟩ := tc_bi hF
                have h124 := tc_rdx h124
                refine tc_cx (vx_runV (As := [.int w75, .int w119]) (rest := []) ⟨hx, hb, hml, hown, hts⟩ (mt_X2_crane l hst D cU cO cI e0 (tc_A1 A F121 z) E120 x w75 w119 0 r123 h124) (cwV 2 hts gX3_isSame_X2_crane rfl rfl rfl (by decide +kernel) ⟨Nat.le_of_ble_eq_true rfl, Nat.le_of_ble_eq_true rfl⟩) ⟨fun a U g mk q => ⟨q.1, q.2.1, q.2.2.call⟩, tc_rcv hW.1.o hK rfl, fun U hU hW9 => ⟨rfl, by rw [hU]; exact hW.1, ((hKX.go hS hU hW9).narrow (fun z9 h9 => h9.1) (by rw [hU]; exact hW.newA (fun z9 h9 => by exact hAn z9 (Nat.le_trans hS.1 h9))))⟩⟩ rfl rfl hl.1 rfl (lv_room (Nat.le_of_ble_eq_true rfl)) dX3_isSame_373 ⟨(by show _ ≤ (1593 : Nat); omega), (by show _ ≤ (9366 : Nat); omega)⟩) hS (fun z9 _ h9 => h9.1) (fun z9 h9 => h9.1) (fun z9 _ h9 => h9.1) (fun ce q9 H locs c9 _ _ _ _ _ _ _ => absurd rfl c9) (fun H locs _ hB z1 o1 hS => ?_)
                have hW := hW.afterC hB o1
                refine lv_aload hx hb dX3_isSame_376 (lv_at hl 1 rfl) ?_
                refine lv_iload hx hb dX3_isSame_378 (lv_at hl 0 rfl) ?_
                obtain ⟨g125, hF⟩ := tc_ob hF
                refine tc_iald2 (j := w119.toNatClampNeg) (rfl) hx hb hK (hW.2.1.r (tc_isrK (show ¬ w75 < 0 ∧ w75.toNatClampNeg < tc_zn z from g81).2)) 2 rfl g125 dX3_isSame_380 ?_
                refine lv_icmp_eq (tgt := 386) hx hb dX3_isSame_381 (by decide) (fun c126 => ?_) (fun c126 => ?_)
                · have hF := tc_it hF c126
                  obtain ⟨v127, ev127⟩ : ∃ z9 : Int32, z9 = w119 + 1 := ⟨_, rfl⟩
                  have hF := tc_lt hF ev127
                  refine lv_iinc (v := v127) (lv' := [(8, .int v127), (7, .ref (F121 (21 + w75.toNatClampNeg))), (6, .int w75), (5, .int w76), (4, .int w6), (3, .int w77), (2, .int w7), (1, .ref (E120 0)), (0, .ref (F121 0))]) hx hb dX3_isSame_386 hl (k := 0) rfl (by rw [ev127]; rfl) (by decide) rfl (fun ls hl => ?_)
                  refine lv_goto (tgt := 361) hx hb dX3_isSame_389 (by decide) ?_
                  refine W.widen (k := ((1258) + (6 - (n_339 + 1)) * 27 + 0) + (9 - n_361) * 2 + 0) (n := ((7361) + (6 - (n_339 + 1)) * 161 + 0) + (9 - n_361) * 12 + 0) (by omega) (by omega) ?_
                  exact ih_361 (Nat.le_of_succ_le hn_361) v127 E120 F121 _ _ _ hF (lv_sub hl [0, 1, 2, 3, 4, 5, 6, 7, 8] rfl) hW hEF hS
                · have hF := tc_if hF c126
                  cases hF
          refine W.widen (k := ((1258) + (6 - (n_339 + 1)) * 27 + 0) + (9 - 9) * 2 + 0) (n := ((7361) + (6 - (n_339 + 1)) * 161 + 0) + (9 - 9) * 12 + 0) (by omega) (by omega) ?_
          exact hL_361 9 (Nat.le_refl _) 0 E78 F79 _ _ _ hF (lv_sub hl [0, 1, 2, 3, 4, 5, 6, 7, 8] rfl) hW hEF hS
    refine W.widen (k := (1258) + (6 - 6) * 27 + 0) (n := (7361) + (6 - 6) * 161 + 0) (by omega) (by omega) ?_
    exact hL_339 6 (Nat.le_refl _) 0 w5 0 E8 F9 _ _ _ hF (lv_sub hl [0, 1, 2, 3, 4, 5, 6] rfl) hW hEF hS
  have hL_13 : ∀ (n_13 : Nat) (hn_13 : n_13 ≤ 17) (w128 : Int32) (w129 : Int32) (w130 : Int32) (w131 : Int32) (E132 F133 : Nat → Nat) (H : Heap) (locs : List Loc) (ls : Array Slot), lp_S_isSame_13 n_13 x z kc10 w128 w129 w130 w131 = some 1 → lv_has ls 13 [(6, .int w128), (5, .int w129), (4, .int w130), (3, .int 0), (2, .int w131), (1, .ref (E132 0)), (0, .ref (F133 0))] → tc_WL D cU cO cI cII cZ e0 A E132 F133 x z H → E132 0 = E 0 ∧ F133 0 = F 0 → va_S A s.heap H locs → W p l e ({ frames := 8, cells := 1593, slots := 9366, locals := 151 } : Room) s m (([.ref (F 0), .ref (E 0)] : List Value).toArray) below meth c H locs ((0) + (17 - n_13) * 74 + 0) ((0) + (17 - n_13) * 433 + 0) QQ (F0 m 13 ls []) := by
    intro n_13
    induction n_13 with
    | zero => intro _; intro w128 w129 w130 w131 E132 F133 H locs ls hF hl hW hEF hS; rw [lp_S_isSame_13] at hF; cases hF
    | succ n_13 ih_13 =>
      intro hn_13
      intro w128 w129 w130 w131 E132 F133 H locs ls hF hl hW hEF hS
      rw [lp_S_isSame_13] at hF
      refine lv_iload hx hb dX3_isSame_13 (lv_at hl 0 rfl) ?_
      refine lv_bipush (v := 16) hx hb dX3_isSame_15 (by decide) ?_
      refine lv_icmp_ge (tgt := 336) hx hb dX3_isSame_17 (by decide) (fun c134 => ?_) (fun c134 => ?_)
      · have hF := tc_it hF c134
        refine W.widen (k := 1258) (n := 7361) (by omega) (by omega) ?_
        exact Jkc10 w129 w130 w131 E132 F133 _ _ _ hF (lv_sub hl [1, 2, 3, 4, 5, 6] rfl) hW hEF hS
      · have hF := tc_if hF c134
        refine lv_iconst (v := 0) hx hb dX3_isSame_20 (by decide) ?_
        refine lv_istore (lv' := [(7, .int 0), (6, .int w128), (5, .int w129), (4, .int w130), (3, .int 0), (2, .int w131), (1, .ref (E132 0)), (0, .ref (F133 0))]) hx hb dX3_isSame_21 hl (by decide) rfl (fun ls hl => ?_)
        refine lv_iconst (v := 0) hx hb dX3_isSame_23 (by decide) ?_
        refine lv_istore (lv' := [(8, .int 0), (7, .int 0), (6, .int w128), (5, .int w129), (4, .int w130), (3, .int 0), (2, .int w131), (1, .ref (E132 0)), (0, .ref (F133 0))]) hx hb dX3_isSame_24 hl (by decide) rfl (fun ls hl => ?_)
        refine lv_iconst (v := 0) hx hb dX3_isSame_26 (by decide) ?_
        refine lv_istore (lv' := [(9, .int 0), (8, .int 0), (7, .int 0), (6, .int w128), (5, .int w129), (4, .int w130), (3, .int 0), (2, .int w131), (1, .ref (E132 0)), (0, .ref (F133 0))]) hx hb dX3_isSame_27 hl (by decide) rfl (fun ls hl => ?_)
        obtain ⟨kc140, ekc140, hF⟩ := tc_jx hF
        have Jkc140 : ∀ (w137 : Int32) (E138 F139 : Nat → Nat) (H : Heap) (locs : List Loc) (ls : Array Slot), kc140 w137 = some 1 → lv_has ls 13 [(8, .int 0), (7, .int w137), (6, .int w128), (5, .int w129), (4, .int w130), (3, .int 0), (2, .int w131), (1, .ref (E138 0)), (0, .ref (F139 0))] → tc_WL D cU cO cI cII cZ e0 A E138 F139 x z H → E138 0 = E 0 ∧ F139 0 = F 0 → va_S A s.heap H locs → W p l e ({ frames := 8, cells := 1593, slots := 9366, locals := 151 } : Room) s m (([.ref (F 0), .ref (E 0)] : List Value).toArray) below meth c H locs ((0) + (17 - (n_13 + 1)) * 74 + 63) ((0) + (17 - (n_13 + 1)) * 433 + 369) QQ (F0 m 149 ls []) := by
          intro w137 E138 F139 H locs ls hF hl hW hEF hS
          rw [ekc140] at hF
          dsimp only at hF
          refine lv_aload_n hx hb dX3_isSame_149 rfl (lv_at hl 8 rfl) ?_
          refine tc_get (v := .ref (F139 3)) hx hb hts hinX3 hown hK (hW.2.1.o) (C := RX3) (T := TX3) (N := 6) rfl 4 (by decide) (hts (.fieldLink RX3 19 "TreadCranesLaw$Sim" "cranes" "[[I") (List.mem_of_getElem? (i := 4) rfl)) (fun _ h9 => h9) rfl dX3_isSame_150 ?_
          refine lv_astore (lv' := [(9, .ref (F139 3)), (8, .int 0), (7, .int w137), (6, .int w128), (5, .int w129), (4, .int w130), (3, .int 0), (2, .int w131), (1, .ref (E138 0)), (0, .ref (F139 0))]) hx hb dX3_isSame_153 hl (by decide) rfl (fun ls hl => ?_)
          refine lv_aload hx hb dX3_isSame_155 (lv_at hl 0 rfl) ?_
          refine tc_alen (v := nI (tc_zn z)) hx hb hKS hW.2.1.c 0 rfl rfl dX3_isSame_157 ?_
          refine lv_topi (fun v141 ev141 => ?_)
          have hF := tc_lt hF ev141
          refine lv_istore (lv' := [(10, .int v141), (9, .ref (F139 3)), (8, .int 0), (7, .int w137), (6, .int w128), (5, .int w129), (4, .int w130), (3, .int 0), (2, .int w131), (1, .ref (E138 0)), (0, .ref (F139 0))]) hx hb dX3_isSame_158 hl (by decide) rfl (fun ls hl => ?_)
          refine lv_iconst (v := 0) hx hb dX3_isSame_160 (by decide) ?_
          refine lv_istore (lv' := [(11, .int 0), (10, .int v141), (9, .ref (F139 3)), (8, .int 0), (7, .int w137), (6, .int w128), (5, .int w129), (4, .int w130), (3, .int 0), (2, .int w131), (1, .ref (E138 0)), (0, .ref (F139 0))]) hx hb dX3_isSame_161 hl (by decide) rfl (fun ls hl => ?_)
          obtain ⟨kc147, ekc147, hF⟩ := tc_jx hF
          have Jkc147 : ∀ (w144 : Int32) (E145 F146 : Nat → Nat) (H : Heap) (locs : List Loc) (ls : Array Slot), kc147 w144 = some 1 → lv_has ls 13 [(8, .int w144), (7, .int w137), (6, .int w128), (5, .int w129), (4, .int w130), (3, .int 0), (2, .int w131), (1, .ref (E145 0)), (0, .ref (F146 0))] → tc_WL D cU cO cI cII cZ e0 A E145 F146 x z H → E145 0 = E 0 ∧ F146 0 = F 0 → va_S A s.heap H locs → W p l e ({ frames := 8, cells := 1593, slots := 9366, locals := 151 } : Room) s m (([.ref (F 0), .ref (E 0)] : List Value).toArray) below meth c H locs ((0) + (17 - (n_13 + 1)) * 74 + 63) ((0) + (17 - (n_13 + 1)) * 433 + 369) QQ (F0 m 202 ls []) := by
            intro w144 E145 F146 H locs ls hF hl hW hEF hS
            rw [ekc147] at hF
            dsimp only at hF
            refine lv_iload_n hx hb dX3_isSame_202 rfl (lv_at hl 6 rfl) ?_
            refine lv_aload_n hx hb dX3_isSame_203 rfl (lv_at hl 8 rfl) ?_
            refine tc_get (v := .ref (F146 1)) hx hb hts hinX3 hown hK (hW.2.1.o) (C := RX3) (T := TX3) (N := 6) rfl 2 (by decide) (hts (.fieldLink RX3 9 "TreadCranesLaw$Sim" "quay" "[[I") (List.mem_of_getElem? (i := 1) rfl)) (fun _ h9 => h9) rfl dX3_isSame_204 ?_
            refine lv_iload hx hb dX3_isSame_207 (lv_at hl 2 rfl) ?_
            obtain ⟨g148, hF⟩ := tc_ob hF
            refine tc_aaldA2 (q := F146 (5 + w128.toNatClampNeg)) (j := w128.toNatClampNeg) (rfl) hx hb hKS hW.2.1.q 0 rfl g148 dX3_isSame_209 rfl ?_
            refine tc_alen (v := nI (tc_zl z (5 + w128.toNatClampNeg))) hx hb hK (hW.2.1.r (tc_isrQ (show ¬ w128 < 0 ∧ w128.toNatClampNeg < 16 from g148).2)) 2 rfl rfl dX3_isSame_210 ?_
            refine lv_iadd hx hb dX3_isSame_211 ?_
            refine lv_topi (fun v149 ev149 => ?_)
            have hF := tc_lt hF ev149
            refine lv_istore_n (lv' := [(2, .int v149), (8, .int w144), (7, .int w137), (6, .int w128), (5, .int w129), (4, .int w130), (3, .int 0), (1, .ref (E145 0)), (0, .ref (F146 0))]) hx hb dX3_isSame_212 rfl hl (by decide) rfl (fun ls hl => ?_)
            refine lv_iload hx hb dX3_isSame_213 (lv_at hl 4 rfl) ?_
            refine lv_iload hx hb dX3_isSame_215 (lv_at hl 2 rfl) ?_
            refine lv_iadd hx hb dX3_isSame_217 ?_
            refine lv_topi (fun v150 ev150 => ?_)
            have hF := tc_lt hF ev150
            refine lv_istore (lv' := [(5, .int v150), (2, .int v149), (8, .int w144), (7, .int w137), (6, .int w128), (4, .int w130), (3, .int 0), (1, .ref (E145 0)), (0, .ref (F146 0))]) hx hb dX3_isSame_218 hl (by decide) rfl (fun ls hl => ?_)
            refine lv_iload hx hb dX3_isSame_220 (lv_at hl 5 rfl) ?_
            refine lv_aload_n hx hb dX3_isSame_222 rfl (lv_at hl 8 rfl) ?_
            refine tc_get (v := .ref (F146 1)) hx hb hts hinX3 hown hK (hW.2.1.o) (C := RX3) (T := TX3) (N := 6) rfl 2 (by decide) (hts (.fieldLink RX3 9 "TreadCranesLaw$Sim" "quay" "[[I") (List.mem_of_getElem? (i := 1) rfl)) (fun _ h9 => h9) rfl dX3_isSame_223 ?_
            refine lv_iload hx hb dX3_isSame_226 (lv_at hl 4 rfl) ?_
            refine tc_aaldA2 (q := F146 (5 + w128.toNatClampNeg)) (j := w128.toNatClampNeg) (rfl) hx hb hKS hW.2.1.q 0 rfl g148 dX3_isSame_228 rfl ?_
            refine tc_alen (v := nI (tc_zl z (5 + w128.toNatClampNeg))) hx hb hK (hW.2.1.r (tc_isrQ (show ¬ w128 < 0 ∧ w128.toNatClampNeg < 16 from g148).2)) 2 rfl rfl dX3_isSame_229 ?_
            refine va_mmax hx hb (by rw [hml]; exact hl.1.symm) hown (hts (.methodLink RX3 71 Lib.Math.max.name) (List.mem_of_getElem? (i := 5) rfl)) (hts (.static Lib.Math.max.name) (List.mem_of_getElem? (i := 6) rfl)) (hts (.initialized "java/lang/Math") (List.mem_of_getElem? (i := 7) rfl)) (hts (.code Lib.Math.max.name Lib.Math.max.code 2 (some .int)) (List.mem_of_getElem? (i := 8) rfl)) (Nat.le_of_ble_eq_true rfl) (Nat.le_of_ble_eq_true rfl) ((by show _ ≤ (1593 : Nat); omega)) ((by show _ ≤ (9366 : Nat); omega)) dX3_isSame_230 ?_
            refine lv_topi (fun v151 ev151 => ?_)
            have hF := tc_lt hF ev151
            refine lv_istore (lv' := [(4, .int v151), (5, .int v150), (2, .int v149), (8, .int w144), (7, .int w137), (6, .int w128), (3, .int 0), (1, .ref (E145 0)), (0, .ref (F146 0))]) hx hb dX3_isSame_233 hl (by decide) rfl (fun ls hl => ?_)
            refine lv_iconst (v := 4) hx hb dX3_isSame_235 (by decide) ?_
            refine tc_newI (n := 4) (N := 4) hx hb (hts (.arrayClass .int) (List.mem_of_getElem? (i := 3) rfl)) hS hK hA0 (by decide) (by decide) (Nat.le_of_ble_eq_true rfl) (by show _ ≤ (1593 : Nat); omega) (by show _ ≤ (9366 : Nat); omega) dX3_isSame_236 2 rfl (fun q152 H hq_q152 ho_q152 et_q152 z1 o1 hS => ?_)
            obtain ⟨u153, eu153⟩ : ∃ z9 : Nat → Int32, z9 = fun _ : Nat => (0 : Int32) := ⟨_, rfl⟩
            have hF := tc_lt hF eu153
            rw [← eu153] at et_q152
            have hnc_q152 := hW.neE hq_q152
            have hnf_q152 := hW.neF hq_q152
            have hW := hW.grown o1
            obtain ⟨A154, eA154⟩ : ∃ A9 : Nat → Prop, A9 = fun z9 => A z9 ∧ z9 ≠ q152 := ⟨_, rfl⟩
            have hA154A : ∀ z9, A154 z9 → A z9 := fun z9 h9 => by rw [eA154] at h9; exact h9.1
            have hW := hW.reA (A' := A154) (fun j hj => by rw [eA154]; exact ⟨(hW.1.own hj).1, hnc_q152 j hj⟩) (fun i hi => by rw [eA154]; exact ⟨hW.2.1.own hi, hnf_q152 i hi⟩) (fun h9 => hW.2.2 (by rw [eA154] at h9; exact h9.1))
            have heA154 := hW.2.2
            have hx_q152 : ¬ A154 q152 := fun h9 => by rw [eA154] at h9; exact h9.2 rfl
            refine lv_dup hx hb dX3_isSame_238 rfl ?_
            refine lv_iconst (v := 0) hx hb dX3_isSame_239 (by decide) ?_
            refine lv_aload_n hx hb dX3_isSame_240 rfl (lv_at hl 8 rfl) ?_
            refine tc_get (v := .ref (F146 1)) hx hb hts hinX3 hown hK (hW.2.1.o) (C := RX3) (T := TX3) (N := 6) rfl 2 (by decide) (hts (.fieldLink RX3 9 "TreadCranesLaw$Sim" "quay" "[[I") (List.mem_of_getElem? (i := 1) rfl)) (fun _ h9 => h9) rfl dX3_isSame_241 ?_
            refine lv_iload hx hb dX3_isSame_244 (lv_at hl 5 rfl) ?_
            refine tc_aaldA2 (q := F146 (5 + w128.toNatClampNeg)) (j := w128.toNatClampNeg) (rfl) hx hb hKS hW.2.1.q 0 rfl g148 dX3_isSame_246 rfl ?_
            refine tc_alen (v := nI (tc_zl z (5 + w128.toNatClampNeg))) hx hb hK (hW.2.1.r (tc_isrQ (show ¬ w128 < 0 ∧ w128.toNatClampNeg < 16 from g148).2)) 2 rfl rfl dX3_isSame_247 ?_
            refine tc_iast2 (j := 0) (by decide) hx hb hK et_q152 hS ho_q152 2 rfl ⟨by decide, by decide⟩ dX3_isSame_248 (fun H locs e1 z1 o1 hS => ?_)
            have hW := hW.tmp hx_q152 o1
            have et_q152 := e1
            obtain ⟨u155, eu155⟩ : ∃ z9 : Nat → Int32, z9 = upd u153 0 (nI (tc_zl z (5 + w128.toNatClampNeg))) := ⟨_, rfl⟩
            have hF := tc_lt hF eu155
            rw [← eu155] at et_q152
            refine lv_dup hx hb dX3_isSame_249 rfl ?_
            refine lv_iconst (v := 1) hx hb dX3_isSame_250 (by decide) ?_
            refine lv_aload_n hx hb dX3_isSame_251 rfl (lv_at hl 8 rfl) ?_
            refine tc_get (v := .ref (F146 1)) hx hb hts hinX3 hown hK (hW.2.1.o) (C := RX3) (T := TX3) (N := 6) rfl 2 (by decide) (hts (.fieldLink RX3 9 "TreadCranesLaw$Sim" "quay" "[[I") (List.mem_of_getElem? (i := 1) rfl)) (fun _ h9 => h9) rfl dX3_isSame_252 ?_
            refine lv_iload hx hb dX3_isSame_255 (lv_at hl 5 rfl) ?_
            refine tc_aaldA2 (q := F146 (5 + w128.toNatClampNeg)) (j := w128.toNatClampNeg) (rfl) hx hb hKS hW.2.1.q 0 rfl g148 dX3_isSame_257 rfl ?_
            refine tc_alen (v := nI (tc_zl z (5 + w128.toNatClampNeg))) hx hb hK (hW.2.1.r (tc_isrQ (show ¬ w128 < 0 ∧ w128.toNatClampNeg < 16 from g148).2)) 2 rfl rfl dX3_isSame_258 ?_
            obtain ⟨kc159, ekc159, hF⟩ := tc_jx hF
            have Jkc159 : ∀ (w156 : Int32) (E157 F158 : Nat → Nat) (H : Heap) (locs : List Loc) (ls : Array Slot), kc159 w156 = some 1 → lv_has ls 13 [(8, .int w144), (7, .int w137), (6, .int w128), (5, .int v150), (4, .int v151), (3, .int 0), (2, .int v149), (1, .ref (E157 0)), (0, .ref (F158 0))] → tc_WL D cU cO cI cII cZ e0 A154 E157 F158 x z H → E157 0 = E 0 ∧ F158 0 = F 0 → va_at D vwCl (q152, .inl (cI, 4, .inl u155)) H → va_S A s.heap H locs → W p l e ({ frames := 8, cells := 1593, slots := 9366, locals := 151 } : Room) s m (([.ref (F 0), .ref (E 0)] : List Value).toArray) below meth c H locs ((0) + (17 - (n_13 + 1)) * 74 + 64) ((0) + (17 - (n_13 + 1)) * 433 + 373) QQ (F0 m 284 ls [.int w156, .int 1, .ref q152, .ref q152]) := by
              intro w156 E157 F158 H locs ls hF hl hW hEF et_q152 hS
              rw [ekc159] at hF
              dsimp only at hF
              refine tc_iast2 (j := 1) (by decide) hx hb hK et_q152 hS ho_q152 2 rfl ⟨by decide, by decide⟩ dX3_isSame_284 (fun H locs e1 z1 o1 hS => ?_)
              have hW := hW.tmp hx_q152 o1
              have et_q152 := e1
              obtain ⟨u160, eu160⟩ : ∃ z9 : Nat → Int32, z9 = upd u155 1 w156 := ⟨_, rfl⟩
              have hF := tc_lt hF eu160
              rw [← eu160] at et_q152
              refine lv_dup hx hb dX3_isSame_285 rfl ?_
              refine lv_iconst (v := 2) hx hb dX3_isSame_286 (by decide) ?_
              refine lv_iload hx hb dX3_isSame_287 (lv_at hl 1 rfl) ?_
              refine tc_iast2 (j := 2) (by decide) hx hb hK et_q152 hS ho_q152 2 rfl ⟨by decide, by decide⟩ dX3_isSame_289 (fun H locs e1 z1 o1 hS => ?_)
              have hW := hW.tmp hx_q152 o1
              have et_q152 := e1
              obtain ⟨u161, eu161⟩ : ∃ z9 : Nat → Int32, z9 = upd u160 2 w137 := ⟨_, rfl⟩
              have hF := tc_lt hF eu161
              rw [← eu161] at et_q152
              refine lv_dup hx hb dX3_isSame_290 rfl ?_
              refine lv_iconst (v := 3) hx hb dX3_isSame_291 (by decide) ?_
              refine lv_iload hx hb dX3_isSame_292 (lv_at hl 0 rfl) ?_
              refine tc_iast2 (j := 3) (by decide) hx hb hK et_q152 hS ho_q152 2 rfl ⟨by decide, by decide⟩ dX3_isSame_294 (fun H locs e1 z1 o1 hS => ?_)
              have hW := hW.tmp hx_q152 o1
              have et_q152 := e1
              obtain ⟨u162, eu162⟩ : ∃ z9 : Nat → Int32, z9 = upd u161 3 w144 := ⟨_, rfl⟩
              have hF := tc_lt hF eu162
              rw [← eu162] at et_q152
              refine lv_astore (lv' := [(9, .ref q152), (8, .int w144), (7, .int w137), (6, .int w128), (5, .int v150), (4, .int v151), (3, .int 0), (2, .int v149), (1, .ref (E157 0)), (0, .ref (F158 0))]) hx hb dX3_isSame_295 hl (by decide) rfl (fun ls hl => ?_)
              refine lv_iconst (v := 0) hx hb dX3_isSame_297 (by decide) ?_
              refine lv_istore (lv' := [(10, .int 0), (9, .ref q152), (8, .int w144), (7, .int w137), (6, .int w128), (5, .int v150), (4, .int v151), (3, .int 0), (2, .int v149), (1, .ref (E157 0)), (0, .ref (F158 0))]) hx hb dX3_isSame_298 hl (by decide) rfl (fun ls hl => ?_)
              obtain ⟨kc166, ekc166, hF⟩ := tc_jx hF
              have Jkc166 : ∀  (E164 F165 : Nat → Nat) (H : Heap) (locs : List Loc) (ls : Array Slot), kc166  = some 1 → lv_has ls 13 [(6, .int w128), (5, .int v150), (4, .int v151), (3, .int 0), (2, .int v149), (1, .ref (E164 0)), (0, .ref (F165 0))] → tc_WL D cU cO cI cII cZ e0 A154 E164 F165 x z H → E164 0 = E 0 ∧ F165 0 = F 0 → va_at D vwCl (q152, .inl (cI, 4, .inl u162)) H → va_S A s.heap H locs → W p l e ({ frames := 8, cells := 1593, slots := 9366, locals := 151 } : Room) s m (([.ref (F 0), .ref (E 0)] : List Value).toArray) below meth c H locs ((0) + (17 - (n_13 + 1)) * 74 + 74) ((0) + (17 - (n_13 + 1)) * 433 + 433) QQ (F0 m 330 ls []) := by
                intro  E164 F165 H locs ls hF hl hW hEF et_q152 hS
                rw [ekc166] at hF
                obtain ⟨v167, ev167⟩ : ∃ z9 : Int32, z9 = w128 + 1 := ⟨_, rfl⟩
                have hF := tc_lt hF ev167
                refine lv_iinc (v := v167) (lv' := [(6, .int v167), (5, .int v150), (4, .int v151), (3, .int 0), (2, .int v149), (1, .ref (E164 0)), (0, .ref (F165 0))]) hx hb dX3_isSame_330 hl (k := 0) rfl (by rw [ev167]; rfl) (by decide) rfl (fun ls hl => ?_)
                refine lv_goto (tgt := 13) hx hb dX3_isSame_333 (by decide) ?_
                have hW := hW.up hA154A heA
                refine W.widen (k := (0) + (17 - n_13) * 74 + 0) (n := (0) + (17 - n_13) * 433 + 0) (by omega) (by omega) ?_
                exact ih_13 (Nat.le_of_succ_le hn_13) v167 v150 v151 v149 E164 F165 _ _ _ hF (lv_sub hl [0, 1, 2, 3, 4, 5, 6] rfl) hW hEF hS
              have hL_300 : ∀ (n_300 : Nat) (hn_300 : n_300 ≤ 5) (w168 : Int32) (E169 F170 : Nat → Nat) (H : Heap) (locs : List Loc) (ls : Array Slot), lp_S_isSame_300 n_300 x w128 u162 kc166 w168 = some 1 → lv_has ls 13 [(10, .int w168), (9, .ref q152), (6, .int w128), (5, .int v150), (4, .int v151), (3, .int 0), (2, .int v149), (1, .ref (E169 0)), (0, .ref (F170 0))] → tc_WL D cU cO cI cII cZ e0 A154 E169 F170 x z H → E169 0 = E 0 ∧ F170 0 = F 0 → va_at D vwCl (q152, .inl (cI, 4, .inl u162)) H → va_S A s.heap H locs → W p l e ({ frames := 8, cells := 1593, slots := 9366, locals := 151 } : Room) s m (([.ref (F 0), .ref (E 0)] : List Value).toArray) below meth c H locs (((0) + (17 - (n_13 + 1)) * 74 + 64) + (5 - n_300) * 2 + 0) (((0) + (17 - (n_13 + 1)) * 433 + 373) + (5 - n_300) * 12 + 0) QQ (F0 m 300 ls []) := by
                intro n_300
                induction n_300 with
                | zero => intro _; intro w168 E169 F170 H locs ls hF hl hW hEF et_q152 hS; rw [lp_S_isSame_300] at hF; cases hF
                | succ n_300 ih_300 =>
                  intro hn_300
                  intro w168 E169 F170 H locs ls hF hl hW hEF et_q152 hS
                  rw [lp_S_isSame_300] at hF
                  refine lv_iload hx hb dX3_isSame_300 (lv_at hl 0 rfl) ?_
                  refine lv_iconst (v := 4) hx hb dX3_isSame_302 (by decide) ?_
                  refine lv_icmp_ge (tgt := 330) hx hb dX3_isSame_303 (by decide) (fun c171 => ?_) (fun c171 => ?_)
                  · have hF := tc_it hF c171
                    refine W.widen (k := (0) + (17 - (n_13 + 1)) * 74 + 74) (n := (0) + (17 - (n_13 + 1)) * 433 + 433) (by omega) (by omega) ?_
                    exact Jkc166  E169 F170 _ _ _ hF (lv_sub hl [2, 3, 4, 5, 6, 7, 8] rfl) hW hEF et_q152 hS
                  · have hF := tc_if hF c171
                    refine lv_aload_n hx hb dX3_isSame_306 rfl (lv_at hl 7 rfl) ?_
                    refine lv_iload hx hb dX3_isSame_307 (lv_at hl 2 rfl) ?_
                    refine lv_iload hx hb dX3_isSame_309 (lv_at hl 0 rfl) ?_
                    obtain ⟨r172, h173, hF⟩ := tc_bi hF
                    have h173 := tc_rdx h173
                    refine tc_cx (vx_runV (As := [.int w128, .int w168]) (rest := []) ⟨hx, hb, hml, hown, hts⟩ (mt_X2_place l hst D cU cO cI e0 (tc_A1 A154 F170 z) E169 x w128 w168 0 r172 h173) (cwV 2 hts gX3_isSame_X2_place rfl rfl rfl (by decide +kernel) ⟨Nat.le_of_ble_eq_true rfl, Nat.le_of_ble_eq_true rfl⟩) ⟨fun a U g mk q => ⟨q.1, q.2.1, q.2.2.call⟩, tc_rcv hW.1.o hK rfl, fun U hU hW9 => ⟨rfl, by rw [hU]; exact hW.1, ((hKX.go hS hU hW9).narrow (fun z9 h9 => hA154A _ (h9.1)) (by rw [hU]; exact hW.newA (fun z9 h9 => by rw [eA154]; exact ⟨hAn z9 (Nat.le_trans hS.1 h9), (fun h8 => absurd et_q152.lt (Nat.not_lt.mpr (by rw [← h8]; exact h9)))⟩)))⟩⟩ rfl rfl hl.1 rfl (lv_room (Nat.le_of_ble_eq_true rfl)) dX3_isSame_311 ⟨(by show _ ≤ (1593 : Nat); omega), (by show _ ≤ (9366 : Nat); omega)⟩) hS (fun z9 _ h9 => hA154A _ (h9.1)) (fun z9 h9 => hA154A _ (h9.1)) (fun z9 _ h9 => hA154A _ (h9.1)) (fun ce q9 H locs c9 _ _ _ _ _ _ _ => absurd rfl c9) (fun H locs _ hB z1 o1 hS => ?_)
                    have et_q152 := et_q152.kept (o1 _ et_q152.lt (fun h9 => hx_q152 h9.1))
                    have hW := hW.afterC hB o1
                    refine lv_aload hx hb dX3_isSame_314 (lv_at hl 1 rfl) ?_
                    refine lv_iload hx hb dX3_isSame_316 (lv_at hl 0 rfl) ?_
                    obtain ⟨g174, hF⟩ := tc_ob hF
                    refine tc_iald2 (j := w168.toNatClampNeg) (rfl) hx hb hK et_q152 2 rfl g174 dX3_isSame_318 ?_
                    refine lv_icmp_eq (tgt := 324) hx hb dX3_isSame_319 (by decide) (fun c175 => ?_) (fun c175 => ?_)
                    · have hF := tc_it hF c175
                      obtain ⟨v176, ev176⟩ : ∃ z9 : Int32, z9 = w168 + 1 := ⟨_, rfl⟩
                      have hF := tc_lt hF ev176
                      refine lv_iinc (v := v176) (lv' := [(10, .int v176), (9, .ref q152), (6, .int w128), (5, .int v150), (4, .int v151), (3, .int 0), (2, .int v149), (1, .ref (E169 0)), (0, .ref (F170 0))]) hx hb dX3_isSame_324 hl (k := 0) rfl (by rw [ev176]; rfl) (by decide) rfl (fun ls hl => ?_)
                      refine lv_goto (tgt := 300) hx hb dX3_isSame_327 (by decide) ?_
                      refine W.widen (k := ((0) + (17 - (n_13 + 1)) * 74 + 64) + (5 - n_300) * 2 + 0) (n := ((0) + (17 - (n_13 + 1)) * 433 + 373) + (5 - n_300) * 12 + 0) (by omega) (by omega) ?_
                      exact ih_300 (Nat.le_of_succ_le hn_300) v176 E169 F170 _ _ _ hF (lv_sub hl [0, 1, 2, 3, 4, 5, 6, 7, 8] rfl) hW hEF et_q152 hS
                    · have hF := tc_if hF c175
                      cases hF
              refine W.widen (k := ((0) + (17 - (n_13 + 1)) * 74 + 64) + (5 - 5) * 2 + 0) (n := ((0) + (17 - (n_13 + 1)) * 433 + 373) + (5 - 5) * 12 + 0) (by omega) (by omega) ?_
              exact hL_300 5 (Nat.le_refl _) 0 E157 F158 _ _ _ hF (lv_sub hl [0, 1, 4, 5, 6, 7, 8, 9, 10] rfl) hW hEF et_q152 hS
            refine lv_if_ne (tgt := 266) hx hb dX3_isSame_259 (by decide) (fun c177 => ?_) (fun c177 => ?_)
            · have hF := tc_if hF c177
              refine lv_aload_n hx hb dX3_isSame_266 rfl (lv_at hl 8 rfl) ?_
              refine tc_get (v := .ref (F146 1)) hx hb hts hinX3 hown hK (hW.2.1.o) (C := RX3) (T := TX3) (N := 6) rfl 2 (by decide) (hts (.fieldLink RX3 9 "TreadCranesLaw$Sim" "quay" "[[I") (List.mem_of_getElem? (i := 1) rfl)) (fun _ h9 => h9) rfl dX3_isSame_267 ?_
              refine lv_iload hx hb dX3_isSame_270 (lv_at hl 5 rfl) ?_
              refine tc_aaldA2 (q := F146 (5 + w128.toNatClampNeg)) (j := w128.toNatClampNeg) (rfl) hx hb hKS hW.2.1.q 0 rfl g148 dX3_isSame_272 rfl ?_
              refine lv_aload_n hx hb dX3_isSame_273 rfl (lv_at hl 8 rfl) ?_
              refine tc_get (v := .ref (F146 1)) hx hb hts hinX3 hown hK (hW.2.1.o) (C := RX3) (T := TX3) (N := 6) rfl 2 (by decide) (hts (.fieldLink RX3 9 "TreadCranesLaw$Sim" "quay" "[[I") (List.mem_of_getElem? (i := 1) rfl)) (fun _ h9 => h9) rfl dX3_isSame_274 ?_
              refine lv_iload hx hb dX3_isSame_277 (lv_at hl 5 rfl) ?_
              refine tc_aaldA2 (q := F146 (5 + w128.toNatClampNeg)) (j := w128.toNatClampNeg) (rfl) hx hb hKS hW.2.1.q 0 rfl g148 dX3_isSame_279 rfl ?_
              refine tc_alen (v := nI (tc_zl z (5 + w128.toNatClampNeg))) hx hb hK (hW.2.1.r (tc_isrQ (show ¬ w128 < 0 ∧ w128.toNatClampNeg < 16 from g148).2)) 2 rfl rfl dX3_isSame_280 ?_
              refine lv_iconst (v := 1) hx hb dX3_isSame_281 (by decide) ?_
              refine lv_isub hx hb dX3_isSame_282 ?_
              obtain ⟨g178, hF⟩ := tc_ob hF
              refine tc_iald2 (j := ((nI (tc_zl z (5 + w128.toNatClampNeg))) - (1 : Int32)).toNatClampNeg) (rfl) hx hb hK (hW.2.1.r (tc_isrQ (show ¬ w128 < 0 ∧ w128.toNatClampNeg < 16 from g148).2)) 2 rfl g178 dX3_isSame_283 ?_
              exact Jkc159 (tc_zf z (5 + w128.toNatClampNeg) ((nI (tc_zl z (5 + w128.toNatClampNeg))) - (1 : Int32)).toNatClampNeg) E145 F146 _ _ _ hF (lv_sub hl [3, 4, 5, 1, 0, 6, 2, 7, 8] rfl) hW hEF et_q152 hS
            · have hF := tc_it hF c177
              refine lv_iconst (v := (-1)) hx hb dX3_isSame_262 (by decide) ?_
              refine lv_goto (tgt := 284) hx hb dX3_isSame_263 (by decide) ?_
              exact Jkc159 (-1) E145 F146 _ _ _ hF (lv_sub hl [3, 4, 5, 1, 0, 6, 2, 7, 8] rfl) hW hEF et_q152 hS
          have hL_163 : ∀ (n_163 : Nat) (hn_163 : n_163 ≤ 6) (w179 : Int32) (w180 : Int32) (E181 F182 : Nat → Nat) (H : Heap) (locs : List Loc) (ls : Array Slot), lp_S_isSame_163 n_163 z w128 v141 kc147 w179 w180 = some 1 → lv_has ls 13 [(11, .int w179), (10, .int v141), (9, .ref (F182 3)), (8, .int w180), (7, .int w137), (6, .int w128), (5, .int w129), (4, .int w130), (3, .int 0), (2, .int w131), (1, .ref (E181 0)), (0, .ref (F182 0))] → tc_WL D cU cO cI cII cZ e0 A E181 F182 x z H → E181 0 = E 0 ∧ F182 0 = F 0 → va_S A s.heap H locs → W p l e ({ frames := 8, cells := 1593, slots := 9366, locals := 151 } : Room) s m (([.ref (F 0), .ref (E 0)] : List Value).toArray) below meth c H locs ((0) + (17 - (n_13 + 1)) * 74 + 63) ((0) + (17 - (n_13 + 1)) * 433 + 369) QQ (F0 m 163 ls []) := by
            intro n_163
            induction n_163 with
            | zero => intro _; intro w179 w180 E181 F182 H locs ls hF hl hW hEF hS; rw [lp_S_isSame_163] at hF; cases hF
            | succ n_163 ih_163 =>
              intro hn_163
              intro w179 w180 E181 F182 H locs ls hF hl hW hEF hS
              rw [lp_S_isSame_163] at hF
              refine lv_iload hx hb dX3_isSame_163 (lv_at hl 0 rfl) ?_
              refine lv_iload hx hb dX3_isSame_165 (lv_at hl 1 rfl) ?_
              refine lv_icmp_ge (tgt := 202) hx hb dX3_isSame_167 (by decide) (fun c183 => ?_) (fun c183 => ?_)
              · have hF := tc_it hF c183
                exact Jkc147 w180 E181 F182 _ _ _ hF (lv_sub hl [3, 4, 5, 6, 7, 8, 9, 10, 11] rfl) hW hEF hS
              · have hF := tc_if hF c183
                refine lv_aload hx hb dX3_isSame_170 (lv_at hl 2 rfl) ?_
                refine lv_iload hx hb dX3_isSame_172 (lv_at hl 0 rfl) ?_
                obtain ⟨g184, hF⟩ := tc_ob hF
                refine tc_aaldA2 (q := F182 (21 + w179.toNatClampNeg)) (j := w179.toNatClampNeg) (rfl) hx hb hKS hW.2.1.c 0 rfl g184 dX3_isSame_174 rfl ?_
                refine lv_astore (lv' := [(12, .ref (F182 (21 + w179.toNatClampNeg))), (11, .int w179), (10, .int v141), (9, .ref (F182 3)), (8, .int w180), (7, .int w137), (6, .int w128), (5, .int w129), (4, .int w130), (3, .int 0), (2, .int w131), (1, .ref (E181 0)), (0, .ref (F182 0))]) hx hb dX3_isSame_175 hl (by decide) rfl (fun ls hl => ?_)
                refine lv_iload hx hb dX3_isSame_177 (lv_at hl 4 rfl) ?_
                refine lv_aload hx hb dX3_isSame_179 (lv_at hl 0 rfl) ?_
                refine lv_iconst (v := 5) hx hb dX3_isSame_181 (by decide) ?_
                obtain ⟨g185, hF⟩ := tc_ob hF
                refine tc_iald2 (j := 5) (by decide) hx hb hK (hW.2.1.r (tc_isrK (show ¬ w179 < 0 ∧ w179.toNatClampNeg < tc_zn z from g184).2)) 2 rfl ⟨by decide, g185⟩ dX3_isSame_182 ?_
                refine lv_iload hx hb dX3_isSame_183 (lv_at hl 6 rfl) ?_
                obtain ⟨kc189, ekc189, hF⟩ := tc_jx hF
                have Jkc189 : ∀ (w186 : Int32) (E187 F188 : Nat → Nat) (H : Heap) (locs : List Loc) (ls : Array Slot), kc189 w186 = some 1 → lv_has ls 13 [(11, .int w179), (10, .int v141), (9, .ref (F188 3)), (7, .int w137), (6, .int w128), (5, .int w129), (4, .int w130), (3, .int 0), (2, .int w131), (1, .ref (E187 0)), (0, .ref (F188 0))] → tc_WL D cU cO cI cII cZ e0 A E187 F188 x z H → E187 0 = E 0 ∧ F188 0 = F 0 → va_S A s.heap H locs → W p l e ({ frames := 8, cells := 1593, slots := 9366, locals := 151 } : Room) s m (([.ref (F 0), .ref (E 0)] : List Value).toArray) below meth c H locs ((0) + (17 - (n_13 + 1)) * 74 + 63) ((0) + (17 - (n_13 + 1)) * 433 + 369) QQ (F0 m 193 ls [.int w186, .int w180]) := by
                  intro w186 E187 F188 H locs ls hF hl hW hEF hS
                  rw [ekc189] at hF
                  dsimp only at hF
                  refine lv_iadd hx hb dX3_isSame_193 ?_
                  refine lv_topi (fun v190 ev190 => ?_)
                  have hF := tc_lt hF ev190
                  refine lv_istore (lv' := [(8, .int v190), (11, .int w179), (10, .int v141), (9, .ref (F188 3)), (7, .int w137), (6, .int w128), (5, .int w129), (4, .int w130), (3, .int 0), (2, .int w131), (1, .ref (E187 0)), (0, .ref (F188 0))]) hx hb dX3_isSame_194 hl (by decide) rfl (fun ls hl => ?_)
                  obtain ⟨v191, ev191⟩ : ∃ z9 : Int32, z9 = w179 + 1 := ⟨_, rfl⟩
                  have hF := tc_lt hF ev191
                  refine lv_iinc (v := v191) (lv' := [(11, .int v191), (8, .int v190), (10, .int v141), (9, .ref (F188 3)), (7, .int w137), (6, .int w128), (5, .int w129), (4, .int w130), (3, .int 0), (2, .int w131), (1, .ref (E187 0)), (0, .ref (F188 0))]) hx hb dX3_isSame_196 hl (k := 1) rfl (by rw [ev191]; rfl) (by decide) rfl (fun ls hl => ?_)
                  refine lv_goto (tgt := 163) hx hb dX3_isSame_199 (by decide) ?_
                  exact ih_163 (Nat.le_of_succ_le hn_163) v191 v190 E187 F188 _ _ _ hF (lv_sub hl [0, 2, 3, 1, 4, 5, 6, 7, 8, 9, 10, 11] rfl) hW hEF hS
                refine lv_icmp_ne (tgt := 192) hx hb dX3_isSame_185 (by decide) (fun c192 => ?_) (fun c192 => ?_)
                · have hF := tc_if hF c192
                  refine lv_iconst (v := 0) hx hb dX3_isSame_192 (by decide) ?_
                  exact Jkc189 0 E181 F182 _ _ _ hF (lv_sub hl [1, 2, 3, 5, 6, 7, 8, 9, 10, 11, 12] rfl) hW hEF hS
                · have hF := tc_it hF c192
                  refine lv_iconst (v := 1) hx hb dX3_isSame_188 (by decide) ?_
                  refine lv_goto (tgt := 193) hx hb dX3_isSame_189 (by decide) ?_
                  exact Jkc189 1 E181 F182 _ _ _ hF (lv_sub hl [1, 2, 3, 5, 6, 7, 8, 9, 10, 11, 12] rfl) hW hEF hS
          exact hL_163 6 (Nat.le_refl _) 0 0 E138 F139 _ _ _ hF (lv_sub hl [0, 1, 2, 3, 4, 5, 6, 7, 8, 9, 10, 11] rfl) hW hEF hS
        have hL_29 : ∀ (n_29 : Nat) (hn_29 : n_29 ≤ 9) (w193 : Int32) (w194 : Int32) (E195 F196 : Nat → Nat) (H : Heap) (locs : List Loc) (ls : Array Slot), lp_S_isSame_29 n_29 x z w128 kc140 w193 w194 = some 1 → lv_has ls 13 [(9, .int w193), (8, .int 0), (7, .int w194), (6, .int w128), (5, .int w129), (4, .int w130), (3, .int 0), (2, .int w131), (1, .ref (E195 0)), (0, .ref (F196 0))] → tc_WL D cU cO cI cII cZ e0 A E195 F196 x z H → E195 0 = E 0 ∧ F196 0 = F 0 → va_S A s.heap H locs → W p l e ({ frames := 8, cells := 1593, slots := 9366, locals := 151 } : Room) s m (([.ref (F 0), .ref (E 0)] : List Value).toArray) below meth c H locs (((0) + (17 - (n_13 + 1)) * 74 + 0) + (9 - n_29) * 7 + 0) (((0) + (17 - (n_13 + 1)) * 433 + 0) + (9 - n_29) * 41 + 0) QQ (F0 m 29 ls []) := by
          intro n_29
          induction n_29 with
          | zero => intro _; intro w193 w194 E195 F196 H locs ls hF hl hW hEF hS; rw [lp_S_isSame_29] at hF; cases hF
          | succ n_29 ih_29 =>
            intro hn_29
            intro w193 w194 E195 F196 H locs ls hF hl hW hEF hS
            rw [lp_S_isSame_29] at hF
            refine lv_iload hx hb dX3_isSame_29 (lv_at hl 0 rfl) ?_
            refine lv_aload_n hx hb dX3_isSame_31 rfl (lv_at hl 9 rfl) ?_
            refine tc_get (v := .ref (F196 1)) hx hb hts hinX3 hown hK (hW.2.1.o) (C := RX3) (T := TX3) (N := 6) rfl 2 (by decide) (hts (.fieldLink RX3 9 "TreadCranesLaw$Sim" "quay" "[[I") (List.mem_of_getElem? (i := 1) rfl)) (fun _ h9 => h9) rfl dX3_isSame_32 ?_
            refine lv_iload hx hb dX3_isSame_35 (lv_at hl 3 rfl) ?_
            obtain ⟨g197, hF⟩ := tc_ob hF
            refine tc_aaldA2 (q := F196 (5 + w128.toNatClampNeg)) (j := w128.toNatClampNeg) (rfl) hx hb hKS hW.2.1.q 0 rfl g197 dX3_isSame_37 rfl ?_
            refine tc_alen (v := nI (tc_zl z (5 + w128.toNatClampNeg))) hx hb hK (hW.2.1.r (tc_isrQ (show ¬ w128 < 0 ∧ w128.toNatClampNeg < 16 from g197).2)) 2 rfl rfl dX3_isSame_38 ?_
            refine lv_icmp_ge (tgt := 149) hx hb dX3_isSame_39 (by decide) (fun c198 => ?_) (fun c198 => ?_)
            · have hF := tc_it hF c198
              refine W.widen (k := (0) + (17 - (n_13 + 1)) * 74 + 63) (n := (0) + (17 - (n_13 + 1)) * 433 + 369) (by omega) (by omega) ?_
              exact Jkc140 w194 E195 F196 _ _ _ hF (lv_sub hl [1, 2, 3, 4, 5, 6, 7, 8, 9] rfl) hW hEF hS
            · have hF := tc_if hF c198
              refine lv_aload_n hx hb dX3_isSame_42 rfl (lv_at hl 9 rfl) ?_
              refine tc_get (v := .ref (F196 1)) hx hb hts hinX3 hown hK (hW.2.1.o) (C := RX3) (T := TX3) (N := 6) rfl 2 (by decide) (hts (.fieldLink RX3 9 "TreadCranesLaw$Sim" "quay" "[[I") (List.mem_of_getElem? (i := 1) rfl)) (fun _ h9 => h9) rfl dX3_isSame_43 ?_
              refine lv_iload hx hb dX3_isSame_46 (lv_at hl 3 rfl) ?_
              refine tc_aaldA2 (q := F196 (5 + w128.toNatClampNeg)) (j := w128.toNatClampNeg) (rfl) hx hb hKS hW.2.1.q 0 rfl g197 dX3_isSame_48 rfl ?_
              refine lv_iload hx hb dX3_isSame_49 (lv_at hl 0 rfl) ?_
              obtain ⟨g199, hF⟩ := tc_ob hF
              refine tc_iald2 (j := w193.toNatClampNeg) (rfl) hx hb hK (hW.2.1.r (tc_isrQ (show ¬ w128 < 0 ∧ w128.toNatClampNeg < 16 from g197).2)) 2 rfl g199 dX3_isSame_51 ?_
              refine lv_topi (fun v200 ev200 => ?_)
              have hF := tc_lt hF ev200
              refine lv_istore (lv' := [(10, .int v200), (9, .int w193), (8, .int 0), (7, .int w194), (6, .int w128), (5, .int w129), (4, .int w130), (3, .int 0), (2, .int w131), (1, .ref (E195 0)), (0, .ref (F196 0))]) hx hb dX3_isSame_52 hl (by decide) rfl (fun ls hl => ?_)
              refine lv_iload hx hb dX3_isSame_54 (lv_at hl 3 rfl) ?_
              refine lv_aload_n hx hb dX3_isSame_56 rfl (lv_at hl 10 rfl) ?_
              refine tc_get (v := .ref (F196 2)) hx hb hts hinX3 hown hK (hW.2.1.o) (C := RX3) (T := TX3) (N := 6) rfl 3 (by decide) (hts (.fieldLink RX3 14 "TreadCranesLaw$Sim" "weights" "[I") (List.mem_of_getElem? (i := 2) rfl)) (fun _ h9 => h9) rfl dX3_isSame_57 ?_
              refine lv_iload hx hb dX3_isSame_60 (lv_at hl 0 rfl) ?_
              obtain ⟨g201, hF⟩ := tc_ob hF
              refine tc_iald2 (j := v200.toNatClampNeg) (rfl) hx hb hK (hW.2.1.r tc_isrW) 2 rfl g201 dX3_isSame_62 ?_
              refine lv_iadd hx hb dX3_isSame_63 ?_
              refine lv_topi (fun v202 ev202 => ?_)
              have hF := tc_lt hF ev202
              refine lv_istore (lv' := [(7, .int v202), (10, .int v200), (9, .int w193), (8, .int 0), (6, .int w128), (5, .int w129), (4, .int w130), (3, .int 0), (2, .int w131), (1, .ref (E195 0)), (0, .ref (F196 0))]) hx hb dX3_isSame_64 hl (by decide) rfl (fun ls hl => ?_)
              refine lv_iconst (v := 5) hx hb dX3_isSame_66 (by decide) ?_
              refine tc_newI (n := 5) (N := 5) hx hb (hts (.arrayClass .int) (List.mem_of_getElem? (i := 3) rfl)) hS hK hA0 (by decide) (by decide) (Nat.le_of_ble_eq_true rfl) (by show _ ≤ (1593 : Nat); omega) (by show _ ≤ (9366 : Nat); omega) dX3_isSame_67 2 rfl (fun q203 H hq_q203 ho_q203 et_q203 z1 o1 hS => ?_)
              obtain ⟨u204, eu204⟩ : ∃ z9 : Nat → Int32, z9 = fun _ : Nat => (0 : Int32) := ⟨_, rfl⟩
              have hF := tc_lt hF eu204
              rw [← eu204] at et_q203
              have hnc_q203 := hW.neE hq_q203
              have hnf_q203 := hW.neF hq_q203
              have hW := hW.grown o1
              obtain ⟨A205, eA205⟩ : ∃ A9 : Nat → Prop, A9 = fun z9 => A z9 ∧ z9 ≠ q203 := ⟨_, rfl⟩
              have hA205A : ∀ z9, A205 z9 → A z9 := fun z9 h9 => by rw [eA205] at h9; exact h9.1
              have hW := hW.reA (A' := A205) (fun j hj => by rw [eA205]; exact ⟨(hW.1.own hj).1, hnc_q203 j hj⟩) (fun i hi => by rw [eA205]; exact ⟨hW.2.1.own hi, hnf_q203 i hi⟩) (fun h9 => hW.2.2 (by rw [eA205] at h9; exact h9.1))
              have heA205 := hW.2.2
              have hx_q203 : ¬ A205 q203 := fun h9 => by rw [eA205] at h9; exact h9.2 rfl
              refine lv_dup hx hb dX3_isSame_69 rfl ?_
              refine lv_iconst (v := 0) hx hb dX3_isSame_70 (by decide) ?_
              refine lv_aload_n hx hb dX3_isSame_71 rfl (lv_at hl 10 rfl) ?_
              refine tc_get (v := .ref (F196 2)) hx hb hts hinX3 hown hK (hW.2.1.o) (C := RX3) (T := TX3) (N := 6) rfl 3 (by decide) (hts (.fieldLink RX3 14 "TreadCranesLaw$Sim" "weights" "[I") (List.mem_of_getElem? (i := 2) rfl)) (fun _ h9 => h9) rfl dX3_isSame_72 ?_
              refine lv_iload hx hb dX3_isSame_75 (lv_at hl 1 rfl) ?_
              refine tc_iald2 (j := v200.toNatClampNeg) (rfl) hx hb hK (hW.2.1.r tc_isrW) 2 rfl g201 dX3_isSame_77 ?_
              refine tc_iast2 (j := 0) (by decide) hx hb hK et_q203 hS ho_q203 2 rfl ⟨by decide, by decide⟩ dX3_isSame_78 (fun H locs e1 z1 o1 hS => ?_)
              have hW := hW.tmp hx_q203 o1
              have et_q203 := e1
              obtain ⟨u206, eu206⟩ : ∃ z9 : Nat → Int32, z9 = upd u204 0 (tc_zf z 2 v200.toNatClampNeg) := ⟨_, rfl⟩
              have hF := tc_lt hF eu206
              rw [← eu206] at et_q203
              refine lv_dup hx hb dX3_isSame_79 rfl ?_
              refine lv_iconst (v := 1) hx hb dX3_isSame_80 (by decide) ?_
              refine lv_iload hx hb dX3_isSame_81 (lv_at hl 4 rfl) ?_
              refine tc_iast2 (j := 1) (by decide) hx hb hK et_q203 hS ho_q203 2 rfl ⟨by decide, by decide⟩ dX3_isSame_83 (fun H locs e1 z1 o1 hS => ?_)
              have hW := hW.tmp hx_q203 o1
              have et_q203 := e1
              obtain ⟨u207, eu207⟩ : ∃ z9 : Nat → Int32, z9 = upd u206 1 w128 := ⟨_, rfl⟩
              have hF := tc_lt hF eu207
              rw [← eu207] at et_q203
              refine lv_dup hx hb dX3_isSame_84 rfl ?_
              refine lv_iconst (v := 2) hx hb dX3_isSame_85 (by decide) ?_
              refine lv_aload_n hx hb dX3_isSame_86 rfl (lv_at hl 10 rfl) ?_
              refine tc_get (v := .ref (F196 1)) hx hb hts hinX3 hown hK (hW.2.1.o) (C := RX3) (T := TX3) (N := 6) rfl 2 (by decide) (hts (.fieldLink RX3 9 "TreadCranesLaw$Sim" "quay" "[[I") (List.mem_of_getElem? (i := 1) rfl)) (fun _ h9 => h9) rfl dX3_isSame_87 ?_
              refine lv_iload hx hb dX3_isSame_90 (lv_at hl 4 rfl) ?_
              refine tc_aaldA2 (q := F196 (5 + w128.toNatClampNeg)) (j := w128.toNatClampNeg) (rfl) hx hb hKS hW.2.1.q 0 rfl g197 dX3_isSame_92 rfl ?_
              refine tc_alen (v := nI (tc_zl z (5 + w128.toNatClampNeg))) hx hb hK (hW.2.1.r (tc_isrQ (show ¬ w128 < 0 ∧ w128.toNatClampNeg < 16 from g197).2)) 2 rfl rfl dX3_isSame_93 ?_
              refine lv_iconst (v := 1) hx hb dX3_isSame_94 (by decide) ?_
              refine lv_isub hx hb dX3_isSame_95 ?_
              refine lv_iload hx hb dX3_isSame_96 (lv_at hl 2 rfl) ?_
              refine lv_isub hx hb dX3_isSame_98 ?_
              refine tc_iast2 (j := 2) (by decide) hx hb hK et_q203 hS ho_q203 2 rfl ⟨by decide, by decide⟩ dX3_isSame_99 (fun H locs e1 z1 o1 hS => ?_)
              have hW := hW.tmp hx_q203 o1
              have et_q203 := e1
              obtain ⟨u208, eu208⟩ : ∃ z9 : Nat → Int32, z9 = upd u207 2 (((nI (tc_zl z (5 + w128.toNatClampNeg))) - (1 : Int32)) - w193) := ⟨_, rfl⟩
              have hF := tc_lt hF eu208
              rw [← eu208] at et_q203
              refine lv_dup hx hb dX3_isSame_100 rfl ?_
              refine lv_iconst (v := 3) hx hb dX3_isSame_101 (by decide) ?_
              refine lv_iconst (v := (-1)) hx hb dX3_isSame_102 (by decide) ?_
              refine tc_iast2 (j := 3) (by decide) hx hb hK et_q203 hS ho_q203 2 rfl ⟨by decide, by decide⟩ dX3_isSame_103 (fun H locs e1 z1 o1 hS => ?_)
              have hW := hW.tmp hx_q203 o1
              have et_q203 := e1
              obtain ⟨u209, eu209⟩ : ∃ z9 : Nat → Int32, z9 = upd u208 3 (-1) := ⟨_, rfl⟩
              have hF := tc_lt hF eu209
              rw [← eu209] at et_q203
              refine lv_dup hx hb dX3_isSame_104 rfl ?_
              refine lv_iconst (v := 4) hx hb dX3_isSame_105 (by decide) ?_
              refine lv_iconst (v := 0) hx hb dX3_isSame_106 (by decide) ?_
              refine tc_iast2 (j := 4) (by decide) hx hb hK et_q203 hS ho_q203 2 rfl ⟨by decide, by decide⟩ dX3_isSame_107 (fun H locs e1 z1 o1 hS => ?_)
              have hW := hW.tmp hx_q203 o1
              have et_q203 := e1
              obtain ⟨u210, eu210⟩ : ∃ z9 : Nat → Int32, z9 = upd u209 4 0 := ⟨_, rfl⟩
              have hF := tc_lt hF eu210
              rw [← eu210] at et_q203
              refine lv_astore (lv' := [(11, .ref q203), (7, .int v202), (10, .int v200), (9, .int w193), (8, .int 0), (6, .int w128), (5, .int w129), (4, .int w130), (3, .int 0), (2, .int w131), (1, .ref (E195 0)), (0, .ref (F196 0))]) hx hb dX3_isSame_108 hl (by decide) rfl (fun ls hl => ?_)
              refine lv_iconst (v := 0) hx hb dX3_isSame_110 (by decide) ?_
              refine lv_istore (lv' := [(12, .int 0), (11, .ref q203), (7, .int v202), (10, .int v200), (9, .int w193), (8, .int 0), (6, .int w128), (5, .int w129), (4, .int w130), (3, .int 0), (2, .int w131), (1, .ref (E195 0)), (0, .ref (F196 0))]) hx hb dX3_isSame_111 hl (by decide) rfl (fun ls hl => ?_)
              obtain ⟨kc214, ekc214, hF⟩ := tc_jx hF
              have Jkc214 : ∀  (E212 F213 : Nat → Nat) (H : Heap) (locs : List Loc) (ls : Array Slot), kc214  = some 1 → lv_has ls 13 [(9, .int w193), (8, .int 0), (7, .int v202), (6, .int w128), (5, .int w129), (4, .int w130), (3, .int 0), (2, .int w131), (1, .ref (E212 0)), (0, .ref (F213 0))] → tc_WL D cU cO cI cII cZ e0 A205 E212 F213 x z H → E212 0 = E 0 ∧ F213 0 = F 0 → va_at D vwCl (q203, .inl (cI, 5, .inl u210)) H → va_S A s.heap H locs → W p l e ({ frames := 8, cells := 1593, slots := 9366, locals := 151 } : Room) s m (([.ref (F 0), .ref (E 0)] : List Value).toArray) below meth c H locs (((0) + (17 - (n_13 + 1)) * 74 + 0) + (9 - (n_29 + 1)) * 7 + 7) (((0) + (17 - (n_13 + 1)) * 433 + 0) + (9 - (n_29 + 1)) * 41 + 41) QQ (F0 m 143 ls []) := by
                intro  E212 F213 H locs ls hF hl hW hEF et_q203 hS
                rw [ekc214] at hF
                obtain ⟨v215, ev215⟩ : ∃ z9 : Int32, z9 = w193 + 1 := ⟨_, rfl⟩
                have hF := tc_lt hF ev215
                refine lv_iinc (v := v215) (lv' := [(9, .int v215), (8, .int 0), (7, .int v202), (6, .int w128), (5, .int w129), (4, .int w130), (3, .int 0), (2, .int w131), (1, .ref (E212 0)), (0, .ref (F213 0))]) hx hb dX3_isSame_143 hl (k := 0) rfl (by rw [ev215]; rfl) (by decide) rfl (fun ls hl => ?_)
                refine lv_goto (tgt := 29) hx hb dX3_isSame_146 (by decide) ?_
                have hW := hW.up hA205A heA
                refine W.widen (k := ((0) + (17 - (n_13 + 1)) * 74 + 0) + (9 - n_29) * 7 + 0) (n := ((0) + (17 - (n_13 + 1)) * 433 + 0) + (9 - n_29) * 41 + 0) (by omega) (by omega) ?_
                exact ih_29 (Nat.le_of_succ_le hn_29) v215 v202 E212 F213 _ _ _ hF (lv_sub hl [0, 1, 2, 3, 4, 5, 6, 7, 8, 9] rfl) hW hEF hS
              have hL_113 : ∀ (n_113 : Nat) (hn_113 : n_113 ≤ 6) (w216 : Int32) (E217 F218 : Nat → Nat) (H : Heap) (locs : List Loc) (ls : Array Slot), lp_S_isSame_113 n_113 x v200 u210 kc214 w216 = some 1 → lv_has ls 13 [(12, .int w216), (11, .ref q203), (10, .int v200), (9, .int w193), (8, .int 0), (7, .int v202), (6, .int w128), (5, .int w129), (4, .int w130), (3, .int 0), (2, .int w131), (1, .ref (E217 0)), (0, .ref (F218 0))] → tc_WL D cU cO cI cII cZ e0 A205 E217 F218 x z H → E217 0 = E 0 ∧ F218 0 = F 0 → va_at D vwCl (q203, .inl (cI, 5, .inl u210)) H → va_S A s.heap H locs → W p l e ({ frames := 8, cells := 1593, slots := 9366, locals := 151 } : Room) s m (([.ref (F 0), .ref (E 0)] : List Value).toArray) below meth c H locs ((((0) + (17 - (n_13 + 1)) * 74 + 0) + (9 - (n_29 + 1)) * 7 + 1) + (6 - n_113) * 1 + 0) ((((0) + (17 - (n_13 + 1)) * 433 + 0) + (9 - (n_29 + 1)) * 41 + 5) + (6 - n_113) * 6 + 0) QQ (F0 m 113 ls []) := by
                intro n_113
                induction n_113 with
                | zero => intro _; intro w216 E217 F218 H locs ls hF hl hW hEF et_q203 hS; rw [lp_S_isSame_113] at hF; cases hF
                | succ n_113 ih_113 =>
                  intro hn_113
                  intro w216 E217 F218 H locs ls hF hl hW hEF et_q203 hS
                  rw [lp_S_isSame_113] at hF
                  refine lv_iload hx hb dX3_isSame_113 (lv_at hl 0 rfl) ?_
                  refine lv_iconst (v := 5) hx hb dX3_isSame_115 (by decide) ?_
                  refine lv_icmp_ge (tgt := 143) hx hb dX3_isSame_116 (by decide) (fun c219 => ?_) (fun c219 => ?_)
                  · have hF := tc_it hF c219
                    refine W.widen (k := ((0) + (17 - (n_13 + 1)) * 74 + 0) + (9 - (n_29 + 1)) * 7 + 7) (n := ((0) + (17 - (n_13 + 1)) * 433 + 0) + (9 - (n_29 + 1)) * 41 + 41) (by omega) (by omega) ?_
                    exact Jkc214  E217 F218 _ _ _ hF (lv_sub hl [3, 4, 5, 6, 7, 8, 9, 10, 11, 12] rfl) hW hEF et_q203 hS
                  · have hF := tc_if hF c219
                    refine lv_aload_n hx hb dX3_isSame_119 rfl (lv_at hl 11 rfl) ?_
                    refine lv_iload hx hb dX3_isSame_120 (lv_at hl 2 rfl) ?_
                    refine lv_iload hx hb dX3_isSame_122 (lv_at hl 0 rfl) ?_
                    obtain ⟨r220, h221, hF⟩ := tc_bi hF
                    have h221 := tc_rdx h221
                    refine tc_cx (vx_runV (As := [.int v200, .int w216]) (rest := []) ⟨hx, hb, hml, hown, hts⟩ (mt_X2_barrel l hst D cU cO cI e0 (tc_A1 A205 F218 z) E217 x v200 w216 0 r220 h221) (cwV 2 hts gX3_isSame_X2_barrel rfl rfl rfl (by decide +kernel) ⟨Nat.le_of_ble_eq_true rfl, Nat.le_of_ble_eq_true rfl⟩) ⟨fun a U g mk q => ⟨q.1, q.2.1, q.2.2.call⟩, tc_rcv hW.1.o hK rfl, fun U hU hW9 => ⟨rfl, by rw [hU]; exact hW.1, ((hKX.go hS hU hW9).narrow (fun z9 h9 => hA205A _ (h9.1)) (by rw [hU]; exact hW.newA (fun z9 h9 => by rw [eA205]; exact ⟨hAn z9 (Nat.le_trans hS.1 h9), (fun h8 => absurd et_q203.lt (Nat.not_lt.mpr (by rw [← h8]; exact h9)))⟩)))⟩⟩ rfl rfl hl.1 rfl (lv_room (Nat.le_of_ble_eq_true rfl)) dX3_isSame_124 ⟨(by show _ ≤ (1593 : Nat); omega), (by show _ ≤ (9366 : Nat); omega)⟩) hS (fun z9 _ h9 => hA205A _ (h9.1)) (fun z9 h9 => hA205A _ (h9.1)) (fun z9 _ h9 => hA205A _ (h9.1)) (fun ce q9 H locs c9 _ _ _ _ _ _ _ => absurd rfl c9) (fun H locs _ hB z1 o1 hS => ?_)
                    have et_q203 := et_q203.kept (o1 _ et_q203.lt (fun h9 => hx_q203 h9.1))
                    have hW := hW.afterC hB o1
                    refine lv_aload hx hb dX3_isSame_127 (lv_at hl 1 rfl) ?_
                    refine lv_iload hx hb dX3_isSame_129 (lv_at hl 0 rfl) ?_
                    obtain ⟨g222, hF⟩ := tc_ob hF
                    refine tc_iald2 (j := w216.toNatClampNeg) (rfl) hx hb hK et_q203 2 rfl g222 dX3_isSame_131 ?_
                    refine lv_icmp_eq (tgt := 137) hx hb dX3_isSame_132 (by decide) (fun c223 => ?_) (fun c223 => ?_)
                    · have hF := tc_it hF c223
                      obtain ⟨v224, ev224⟩ : ∃ z9 : Int32, z9 = w216 + 1 := ⟨_, rfl⟩
                      have hF := tc_lt hF ev224
                      refine lv_iinc (v := v224) (lv' := [(12, .int v224), (11, .ref q203), (10, .int v200), (9, .int w193), (8, .int 0), (7, .int v202), (6, .int w128), (5, .int w129), (4, .int w130), (3, .int 0), (2, .int w131), (1, .ref (E217 0)), (0, .ref (F218 0))]) hx hb dX3_isSame_137 hl (k := 0) rfl (by rw [ev224]; rfl) (by decide) rfl (fun ls hl => ?_)
                      refine lv_goto (tgt := 113) hx hb dX3_isSame_140 (by decide) ?_
                      refine W.widen (k := (((0) + (17 - (n_13 + 1)) * 74 + 0) + (9 - (n_29 + 1)) * 7 + 1) + (6 - n_113) * 1 + 0) (n := (((0) + (17 - (n_13 + 1)) * 433 + 0) + (9 - (n_29 + 1)) * 41 + 5) + (6 - n_113) * 6 + 0) (by omega) (by omega) ?_
                      exact ih_113 (Nat.le_of_succ_le hn_113) v224 E217 F218 _ _ _ hF (lv_sub hl [0, 1, 2, 3, 4, 5, 6, 7, 8, 9, 10, 11, 12] rfl) hW hEF et_q203 hS
                    · have hF := tc_if hF c223
                      cases hF
              refine W.widen (k := (((0) + (17 - (n_13 + 1)) * 74 + 0) + (9 - (n_29 + 1)) * 7 + 1) + (6 - 6) * 1 + 0) (n := (((0) + (17 - (n_13 + 1)) * 433 + 0) + (9 - (n_29 + 1)) * 41 + 5) + (6 - 6) * 6 + 0) (by omega) (by omega) ?_
              exact hL_113 6 (Nat.le_refl _) 0 E195 F196 _ _ _ hF (lv_sub hl [0, 1, 3, 4, 5, 2, 6, 7, 8, 9, 10, 11, 12] rfl) hW hEF et_q203 hS
        refine W.widen (k := ((0) + (17 - (n_13 + 1)) * 74 + 0) + (9 - 9) * 7 + 0) (n := ((0) + (17 - (n_13 + 1)) * 433 + 0) + (9 - 9) * 41 + 0) (by omega) (by omega) ?_
        exact hL_29 9 (Nat.le_refl _) 0 0 E132 F133 _ _ _ hF (lv_sub hl [0, 1, 2, 3, 4, 5, 6, 7, 8, 9] rfl) hW hEF hS
  refine W.widen (k := (0) + (17 - 17) * 74 + 0) (n := (0) + (17 - 17) * 433 + 0) (by omega) (by omega) ?_
  exact hL_13 17 (Nat.le_refl _) 0 0 0 0 E F _ _ _ hF (lv_sub hl [0, 1, 2, 3, 4, 6, 5] rfl) hW hEF hS
